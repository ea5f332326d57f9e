def rmX1_meet : Room := { frames := 2, cells := 0, slots := 0, locals := 46 }
theorem hdX1_meet : yX1_meet.cls = RX1 ∧ yX1_meet.cls ≠ "java/lang/invoke/MethodHandle" ∧ yX1_meet.cls ≠ "java/lang/invoke/VarHandle" ∧ (parseMethodDescriptor yX1_meet.desc).map (fun d => d.parameters.length) = some 2 := by decide +kernel
set_option maxHeartbeats 40000000 in
set_option maxRecDepth 100000 in
theorem c_X1_meet (l : Launch) (E : Nat → Nat) (D : va_G) (C : Nat → ClassId) (a0 a1 a2 a3 a4 a5 a6 : Nat) (sz : Nat) (N : Nat) (v : PV) (x0 : Int32) (x1 : Int32) (v' : PV) (hf : f_X1_meet N v x0 x1 = some v') : Met l yX1_meet wsX1_meet rmX1_meet (PC E D C [.ref a0, .int x0, .int x1] (oPort C a0 a1 a2 a3 a4 a5 a6 v []) sz) (QV D C (oPort C a0 a1 a2 a3 a4 a5 a6 v []) (oPort C a0 a1 a2 a3 a4 a5 a6 (v') []) sz) 0 0 (va_A (oPort C a0 a1 a2 a3 a4 a5 a6 v []) sz) := by
  refine Met.ofW (cc := cX1_meet) (maxL := 5) (ret := none) (by decide) rfl ?_
  intro p e s m args below meth c s₁ B hml hv
  obtain ⟨rfl, hsz, hP, hK, hD0, hE⟩ := hv
  have hx := B.exec
  have hb := B.bytes
  have hr := B.returns
  have hts := atoms_spec (ws := wsX1_meet) B.pre
  have hown : s.vm.findClass RX1 = some m.cls := findClass_of_methodNamed B.named
  have hlocks := B.notSynchronized
  subst hsz
  have hi_RX1 : ∀ w ∈ wsX10, w ∈ wsX1_meet := fun _ h => List.mem_cons_of_mem _ (List.mem_append_right _ h)
  have hD := hD0.self (sz := s.heap.size)
  obtain ⟨A, hAe⟩ := nm_ex (va_A (oPort C a0 a1 a2 a3 a4 a5 a6 v []) s.heap.size)
  rw [← hAe] at hD hE ⊢
  have hA : ∀ q : Nat, s.heap.size ≤ q → A q := fun q h => by rw [hAe]; exact Or.inr h
  have hS : va_S A s.heap s.heap [] := va_S.rf
  have hl := lv_entry ([.ref a0, .int x0, .int x1]) (n := 5) (Nat.le_of_ble_eq_true rfl)
  rw [lg_entry_eq]
  generalize (lg_sl ([.ref a0, .int x0, .int x1]) ++ List.replicate (5 - (lg_sl ([.ref a0, .int x0, .int x1])).length) Slot.unset).toArray = ls at hl ⊢
  have hl : lv_has ls 5 [(0, .ref a0), (1, .int x0), (2, .int x1)] := hl
  obtain ⟨Q, hQ⟩ := nm_ex (MQ below (QV D C (oPort C a0 a1 a2 a3 a4 a5 a6 v []) (oPort C a0 a1 a2 a3 a4 a5 a6 (v') []) s.heap.size) (List.toArray [Value.ref a0, Value.int x0, Value.int x1]) s 0 0 A)
  show W p l e (headSpec wsX1_meet (rmX1_meet)).room s m (List.toArray [Value.ref a0, Value.int x0, Value.int x1]) below meth c s.heap [] 0 0 (MQ below (QV D C (oPort C a0 a1 a2 a3 a4 a5 a6 v []) (oPort C a0 a1 a2 a3 a4 a5 a6 (v') []) s.heap.size) (List.toArray [Value.ref a0, Value.int x0, Value.int x1]) s 0 0 A) _
  rw [← hQ]
  unfold f_X1_meet at hf
  have main : ∀ (H : Heap) (locs : List Loc), va_P D vwCl (oPort C a0 a1 a2 a3 a4 a5 a6 v []) H → va_D A (oPort C a0 a1 a2 a3 a4 a5 a6 v []) → va_S A s.heap H locs → W p l e (headSpec wsX1_meet (rmX1_meet)).room s m (List.toArray [Value.ref a0, Value.int x0, Value.int x1]) below meth c H locs 0 0 Q (F0 m 0 ls []) := by
    intro H locs hP hD hS
    refine lv_aload_n hx hb dX1_meet_0 rfl (lv_at hl 0 rfl) ?_
    refine lv_iconst (v := 0) hx hb dX1_meet_1 rfl ?_
    refine va_put (D := D) (ci := 1) (v := .int 0) (ty := .int) (C := RX1) (T := TX1) (N := 10) hx hb hts hi_RX1 tyX1 tyX1_ok nmX1 hown hK hP hD hS 0 rfl rfl 9 (by decide) (hts (.fieldLink RX1 66 "TravelMarks$Port" "went" "I") (List.mem_of_getElem? (i := 1) rfl)) (fun _ h9 => h9) rfl (tyX1_ok 9 (by decide)) rfl rfl (Nat.le_of_ble_eq_true rfl) dX1_meet_2 (fun H locs hP hD hS => ?_)
    obtain ⟨v1, ev1, hf⟩ := lj_e hf
    have hP : va_P D vwCl (oPort C a0 a1 a2 a3 a4 a5 a6 v1 []) H := by rw [ev1]; exact hP
    have hD : va_D A (oPort C a0 a1 a2 a3 a4 a5 a6 v1 []) := by rw [ev1]; exact hD
    refine lv_iconst (v := 0) hx hb dX1_meet_5 rfl ?_
    refine lv_istore_n (lv' := [(3, .int 0), (0, .ref a0), (1, .int x0), (2, .int x1)]) hx hb dX1_meet_6 rfl hl (by decide) rfl (fun ls hl => ?_)
    obtain ⟨j3, hj3, hf⟩ := lj_e hf
    have Hj3 : ∀ (v2 : PV) (H : Heap) (locs : List Loc) (ls : Array Slot), va_P D vwCl (oPort C a0 a1 a2 a3 a4 a5 a6 v2 []) H → va_D A (oPort C a0 a1 a2 a3 a4 a5 a6 v2 []) → va_S A s.heap H locs → lv_has ls 5 [(0, .ref a0), (1, .int x0), (2, .int x1)] → j3 v2 = some v' → W p l e (headSpec wsX1_meet (rmX1_meet)).room s m (List.toArray [Value.ref a0, Value.int x0, Value.int x1]) below meth c H locs 0 0 Q (F0 m 58 ls []) := by
      intro v2 H locs ls hP hD hS hl hf
      rw [hj3] at hf
      refine lv_iconst (v := 0) hx hb dX1_meet_58 rfl ?_
      refine lv_istore_n (lv' := [(3, .int 0), (0, .ref a0), (1, .int x0), (2, .int x1)]) hx hb dX1_meet_59 rfl hl (by decide) rfl (fun ls hl => ?_)
      have hL60 : ∀ (n : Nat) (i4 : Int32) (v5 : PV) (H : Heap) (locs : List Loc) (ls : Array Slot), va_P D vwCl (oPort C a0 a1 a2 a3 a4 a5 a6 v5 []) H → va_D A (oPort C a0 a1 a2 a3 a4 a5 a6 v5 []) → va_S A s.heap H locs → lv_has ls 5 [(3, .int i4), (0, .ref a0), (1, .int x0), (2, .int x1)] → f_X1_meet_L60 x0 x1 n i4 v5 = some v' → W p l e (headSpec wsX1_meet (rmX1_meet)).room s m (List.toArray [Value.ref a0, Value.int x0, Value.int x1]) below meth c H locs 0 0 Q (F0 m 60 ls []) := by
        intro n
        induction n with
        | zero =>
          intro i4 v5 H locs ls hP hD hS hl hf
          exact absurd hf (fun h => by cases h)
        | succ n ih =>
          intro i4 v5 H locs ls hP hD hS hl hf
          rw [f_X1_meet_L60] at hf
          refine lv_iload_n hx hb dX1_meet_60 rfl (lv_at hl 0 rfl) ?_
          refine lv_aload_n hx hb dX1_meet_61 rfl (lv_at hl 1 rfl) ?_
          refine va_get (D := D) (ci := 1) (v := .int (pCount v5)) (C := RX1) (T := TX1) (N := 10) hx hb hts hi_RX1 hown hK hP 0 rfl rfl 6 (by decide) (hts (.fieldLink RX1 50 "TravelMarks$Port" "count" "I") (List.mem_of_getElem? (i := 2) rfl)) (fun _ h9 => h9) rfl dX1_meet_62 ?_
          refine lv_icmp_ge (tgt := 127) hx hb dX1_meet_65 (by decide) (fun c6 => ?_) (fun c6 => ?_)
          · replace hf := if_te c6 hf
            cases hf
            exact krv hQ hAe hx hb hr hlocks hP hD hK hS dX1_meet_127
          · replace hf := if_fe c6 hf
            refine lv_aload_n hx hb dX1_meet_68 rfl (lv_at hl 1 rfl) ?_
            refine va_get (D := D) (ci := 1) (v := .int (pWent v5)) (C := RX1) (T := TX1) (N := 10) hx hb hts hi_RX1 hown hK hP 0 rfl rfl 9 (by decide) (hts (.fieldLink RX1 66 "TravelMarks$Port" "went" "I") (List.mem_of_getElem? (i := 1) rfl)) (fun _ h9 => h9) rfl dX1_meet_69 ?_
            refine lv_iload_n hx hb dX1_meet_72 rfl (lv_at hl 0 rfl) ?_
            refine kcz (Wx := (oPort C a0 a1 a2 a3 a4 a5 a6 v5 [])) (va_runSN (As := [.int (pWent v5), .int i4]) (rest := []) ⟨hx, hb, hml, hown, hts⟩ (c_X5_has l E D C H.size (pWent v5) i4 _ rfl) ⟨va_cnB 2 hts gX1_meet_X5_has_n88 rfl rfl rfl (hE.1.2 _ (List.mem_of_getElem? (i := 2) rfl)) (hts (.initialized RX5) (List.mem_of_getElem? (i := 26) rfl)) hdX5_has ⟨Nat.le_of_ble_eq_true rfl, Nat.le_of_ble_eq_true rfl⟩, (hts (.static yX5_has) (List.mem_of_getElem? (i := 25) rfl)), trivial⟩ (kpre hP hD hK hS hE hA [] rfl rfl) rfl rfl hl.1 rfl (lv_room (Nat.le_of_ble_eq_true rfl)) dX1_meet_73 ⟨Nat.zero_le _, Nat.zero_le _⟩) hP hD hS hA [] rfl rfl rfl (fun H locs hz7 hP hD hS => ?_)
            obtain ⟨j9, hj9, hf⟩ := lj_e hf
            have Hj9 : ∀ (v8 : PV) (H : Heap) (locs : List Loc) (ls : Array Slot), va_P D vwCl (oPort C a0 a1 a2 a3 a4 a5 a6 v8 []) H → va_D A (oPort C a0 a1 a2 a3 a4 a5 a6 v8 []) → va_S A s.heap H locs → lv_has ls 5 [(3, .int i4), (0, .ref a0), (1, .int x0), (2, .int x1)] → j9 v8 = some v' → W p l e (headSpec wsX1_meet (rmX1_meet)).room s m (List.toArray [Value.ref a0, Value.int x0, Value.int x1]) below meth c H locs 0 0 Q (F0 m 121 ls []) := by
              intro v8 H locs ls hP hD hS hl hf
              rw [hj9] at hf
              obtain ⟨t10, et10, hf⟩ := lj_e hf
              refine lv_iinc (v := t10) (lv' := [(3, .int t10), (0, .ref a0), (1, .int x0), (2, .int x1)]) hx hb dX1_meet_121 hl (k := 0) rfl (by rw [et10]; rfl) (by decide) rfl (fun ls hl => ?_)
              refine lv_goto (tgt := 60) hx hb dX1_meet_124 (by decide) ?_
              exact ih t10 v8 H locs ls hP hD hS (lv_sub hl [0, 1, 2, 3] rfl) hf
            refine lv_if_eq (tgt := 121) hx hb dX1_meet_76 (by decide) (fun c11 => ?_) (fun c11 => ?_)
            · replace hf := if_te c11 hf
              exact Hj9 v5 H locs ls hP hD hS (lv_sub hl [0, 1, 2, 3] rfl) hf
            · replace hf := if_fe c11 hf
              refine lv_aload_n hx hb dX1_meet_79 rfl (lv_at hl 1 rfl) ?_
              refine va_get (D := D) (ci := 1) (v := .ref a4) (C := RX1) (T := TX1) (N := 10) hx hb hts hi_RX1 hown hK hP 0 rfl rfl 3 (by decide) (hts (.fieldLink RX1 21 "TravelMarks$Port" "on" "[I") (List.mem_of_getElem? (i := 3) rfl)) (fun _ h9 => h9) rfl dX1_meet_80 ?_
              refine lv_iload_n hx hb dX1_meet_83 rfl (lv_at hl 0 rfl) ?_
              refine lv_aload_n hx hb dX1_meet_84 rfl (lv_at hl 1 rfl) ?_
              refine va_get (D := D) (ci := 1) (v := .ref a4) (C := RX1) (T := TX1) (N := 10) hx hb hts hi_RX1 hown hK hP 0 rfl rfl 3 (by decide) (hts (.fieldLink RX1 21 "TravelMarks$Port" "on" "[I") (List.mem_of_getElem? (i := 3) rfl)) (fun _ h9 => h9) rfl dX1_meet_85 ?_
              refine lv_iload_n hx hb dX1_meet_88 rfl (lv_at hl 0 rfl) ?_
              obtain ⟨y13, ey13, hi12, hf⟩ := rdA_x hf
              refine va_iald hx hb hK hP 4 0 rfl rfl hi12 dX1_meet_89 ?_
              refine lv_ren ey13 ?_
              refine lv_iload_n hx hb dX1_meet_90 rfl (lv_at hl 2 rfl) ?_
              obtain ⟨j15, hj15, hf⟩ := lj_e hf
              have Hj15 : ∀ (k14 : Int32) (H : Heap) (locs : List Loc) (ls : Array Slot), va_P D vwCl (oPort C a0 a1 a2 a3 a4 a5 a6 v5 []) H → va_D A (oPort C a0 a1 a2 a3 a4 a5 a6 v5 []) → va_S A s.heap H locs → lv_has ls 5 [(3, .int i4), (0, .ref a0), (1, .int x0), (2, .int x1)] → j15 k14 = some v' → W p l e (headSpec wsX1_meet (rmX1_meet)).room s m (List.toArray [Value.ref a0, Value.int x0, Value.int x1]) below meth c H locs 0 0 Q (F0 m 99 ls [.int k14, .int i4, .ref a4]) := by
                intro k14 H locs ls hP hD hS hl hf
                rw [hj15] at hf
                obtain ⟨hi16, hf⟩ := ckA_e hf
                refine va_iast hx hb hK hP hD hS 4 0 rfl rfl hi16 dX1_meet_99 (fun H locs hP hD hS => ?_)
                obtain ⟨v17, ev17, hf⟩ := lj_e hf
                have hP : va_P D vwCl (oPort C a0 a1 a2 a3 a4 a5 a6 v17 []) H := by rw [ev17]; exact hP
                have hD : va_D A (oPort C a0 a1 a2 a3 a4 a5 a6 v17 []) := by rw [ev17]; exact hD
                refine lv_aload_n hx hb dX1_meet_100 rfl (lv_at hl 1 rfl) ?_
                refine va_get (D := D) (ci := 1) (v := .ref a3) (C := RX1) (T := TX1) (N := 10) hx hb hts hi_RX1 hown hK hP 0 rfl rfl 2 (by decide) (hts (.fieldLink RX1 18 "TravelMarks$Port" "ink" "[I") (List.mem_of_getElem? (i := 4) rfl)) (fun _ h9 => h9) rfl dX1_meet_101 ?_
                refine lv_iload_n hx hb dX1_meet_104 rfl (lv_at hl 0 rfl) ?_
                refine lv_aload_n hx hb dX1_meet_105 rfl (lv_at hl 1 rfl) ?_
                refine va_get (D := D) (ci := 1) (v := .ref a3) (C := RX1) (T := TX1) (N := 10) hx hb hts hi_RX1 hown hK hP 0 rfl rfl 2 (by decide) (hts (.fieldLink RX1 18 "TravelMarks$Port" "ink" "[I") (List.mem_of_getElem? (i := 4) rfl)) (fun _ h9 => h9) rfl dX1_meet_106 ?_
                refine lv_iload_n hx hb dX1_meet_109 rfl (lv_at hl 0 rfl) ?_
                obtain ⟨y19, ey19, hi18, hf⟩ := rdA_x hf
                refine va_iald hx hb hK hP 3 0 rfl rfl hi18 dX1_meet_110 ?_
                refine lv_ren ey19 ?_
                refine lv_aload_n hx hb dX1_meet_111 rfl (lv_at hl 1 rfl) ?_
                refine lv_iload_n hx hb dX1_meet_112 rfl (lv_at hl 0 rfl) ?_
                obtain ⟨r20, h21, hf⟩ := ob1_e hf
                refine kci (Wx := (oPort C a0 a1 a2 a3 a4 a5 a6 v17 [])) (va_runV (As := [.int i4]) (rest := [.int y19, .int i4, .ref a3]) ⟨hx, hb, hml, hown, hts⟩ (c_X1_fading l E D C a0 a1 a2 a3 a4 a5 a6 H.size v17 i4 r20 h21) (cwV 1 hts gX1_meet_X1_fading rfl rfl rfl hdX1_fading ⟨Nat.le_of_ble_eq_true rfl, Nat.le_of_ble_eq_true rfl⟩) (kpreV hP hD hK hS hE hA [0, 1, 2, 3, 4, 5, 6] rfl rfl 0 rfl rfl rfl) rfl rfl hl.1 rfl (lv_room (Nat.le_of_ble_eq_true rfl)) dX1_meet_113 ⟨Nat.zero_le _, Nat.zero_le _⟩) hP hD hS hA [0, 1, 2, 3, 4, 5, 6] rfl rfl rfl (fun H locs hP hD hS => ?_)
                refine lv_isub hx hb dX1_meet_116 ?_
                refine kci (Wx := (oPort C a0 a1 a2 a3 a4 a5 a6 v17 [])) (va_runSN (As := [.int (y19 - r20)]) (rest := [.int i4, .ref a3]) ⟨hx, hb, hml, hown, hts⟩ (c_X5_heldInk l E D C H.size (y19 - r20) _ rfl) ⟨va_cnB 1 hts gX1_meet_X5_heldInk_n95 rfl rfl rfl (hE.1.2 _ (List.mem_of_getElem? (i := 1) rfl)) (hts (.initialized RX5) (List.mem_of_getElem? (i := 26) rfl)) hdX5_heldInk ⟨Nat.le_of_ble_eq_true rfl, Nat.le_of_ble_eq_true rfl⟩, (hts (.static yX5_heldInk) (List.mem_of_getElem? (i := 32) rfl)), trivial⟩ (kpre hP hD hK hS hE hA [] rfl rfl) rfl rfl hl.1 rfl (lv_room (Nat.le_of_ble_eq_true rfl)) dX1_meet_117 ⟨Nat.zero_le _, Nat.zero_le _⟩) hP hD hS hA [] rfl rfl rfl (fun H locs hP hD hS => ?_)
                obtain ⟨t22, et22, hf⟩ := lj_e hf
                refine lv_ren et22 ?_
                obtain ⟨hi23, hf⟩ := ckA_e hf
                refine va_iast hx hb hK hP hD hS 3 0 rfl rfl hi23 dX1_meet_120 (fun H locs hP hD hS => ?_)
                obtain ⟨v24, ev24, hf⟩ := lj_e hf
                have hP : va_P D vwCl (oPort C a0 a1 a2 a3 a4 a5 a6 v24 []) H := by rw [ev24]; exact hP
                have hD : va_D A (oPort C a0 a1 a2 a3 a4 a5 a6 v24 []) := by rw [ev24]; exact hD
                exact Hj9 v24 H locs ls hP hD hS (lv_sub hl [0, 1, 2, 3] rfl) hf
              refine lv_icmp_ne (tgt := 98) hx hb dX1_meet_91 (by decide) (fun c25 => ?_) (fun c25 => ?_)
              · replace hf := if_fe c25 hf
                refine lv_iload_n hx hb dX1_meet_98 rfl (lv_at hl 2 rfl) ?_
                exact Hj15 x0 H locs ls hP hD hS (lv_sub hl [0, 1, 2, 3] rfl) hf
              · replace hf := if_te c25 hf
                refine lv_iload_n hx hb dX1_meet_94 rfl (lv_at hl 3 rfl) ?_
                refine lv_goto (tgt := 99) hx hb dX1_meet_95 (by decide) ?_
                exact Hj15 x1 H locs ls hP hD hS (lv_sub hl [0, 1, 2, 3] rfl) hf
      exact hL60 N 0 v2 H locs ls hP hD hS (lv_sub hl [0, 1, 2, 3] rfl) hf
    have hL7 : ∀ (n : Nat) (i26 : Int32) (v27 : PV) (H : Heap) (locs : List Loc) (ls : Array Slot), va_P D vwCl (oPort C a0 a1 a2 a3 a4 a5 a6 v27 []) H → va_D A (oPort C a0 a1 a2 a3 a4 a5 a6 v27 []) → va_S A s.heap H locs → lv_has ls 5 [(3, .int i26), (0, .ref a0), (1, .int x0), (2, .int x1)] → f_X1_meet_L7 N x0 x1 j3 n i26 v27 = some v' → W p l e (headSpec wsX1_meet (rmX1_meet)).room s m (List.toArray [Value.ref a0, Value.int x0, Value.int x1]) below meth c H locs 0 0 Q (F0 m 7 ls []) := by
      intro n
      induction n with
      | zero =>
        intro i26 v27 H locs ls hP hD hS hl hf
        exact absurd hf (fun h => by cases h)
      | succ n ih =>
        intro i26 v27 H locs ls hP hD hS hl hf
        rw [f_X1_meet_L7] at hf
        refine lv_iload_n hx hb dX1_meet_7 rfl (lv_at hl 0 rfl) ?_
        refine lv_aload_n hx hb dX1_meet_8 rfl (lv_at hl 1 rfl) ?_
        refine va_get (D := D) (ci := 1) (v := .int (pCount v27)) (C := RX1) (T := TX1) (N := 10) hx hb hts hi_RX1 hown hK hP 0 rfl rfl 6 (by decide) (hts (.fieldLink RX1 50 "TravelMarks$Port" "count" "I") (List.mem_of_getElem? (i := 2) rfl)) (fun _ h9 => h9) rfl dX1_meet_9 ?_
        refine lv_icmp_ge (tgt := 58) hx hb dX1_meet_12 (by decide) (fun c28 => ?_) (fun c28 => ?_)
        · replace hf := if_te c28 hf
          exact Hj3 v27 H locs ls hP hD hS (lv_sub hl [1, 2, 3] rfl) hf
        · replace hf := if_fe c28 hf
          refine lv_aload_n hx hb dX1_meet_15 rfl (lv_at hl 1 rfl) ?_
          refine lv_iload_n hx hb dX1_meet_16 rfl (lv_at hl 0 rfl) ?_
          refine lv_iload_n hx hb dX1_meet_17 rfl (lv_at hl 2 rfl) ?_
          refine lv_iload_n hx hb dX1_meet_18 rfl (lv_at hl 3 rfl) ?_
          obtain ⟨r29, h30, hf⟩ := ob1_e hf
          refine kci (Wx := (oPort C a0 a1 a2 a3 a4 a5 a6 v27 [])) (va_runV (As := [.int i26, .int x0, .int x1]) (rest := []) ⟨hx, hb, hml, hown, hts⟩ (c_X1_targetOf l E D C a0 a1 a2 a3 a4 a5 a6 H.size v27 i26 x0 x1 r29 h30) (cwV 3 hts gX1_meet_X1_targetOf rfl rfl rfl hdX1_targetOf ⟨Nat.le_of_ble_eq_true rfl, Nat.le_of_ble_eq_true rfl⟩) (kpreV hP hD hK hS hE hA [0, 1, 2, 3, 4, 5, 6] rfl rfl 0 rfl rfl rfl) rfl rfl hl.1 rfl (lv_room (Nat.le_of_ble_eq_true rfl)) dX1_meet_19 ⟨Nat.zero_le _, Nat.zero_le _⟩) hP hD hS hA [0, 1, 2, 3, 4, 5, 6] rfl rfl rfl (fun H locs hP hD hS => ?_)
          refine lv_istore (lv' := [(4, .int r29), (3, .int i26), (0, .ref a0), (1, .int x0), (2, .int x1)]) hx hb dX1_meet_22 hl (by decide) rfl (fun ls hl => ?_)
          refine lv_iload hx hb dX1_meet_24 (lv_at hl 0 rfl) ?_
          refine lv_iconst (v := (-1)) hx hb dX1_meet_26 rfl ?_
          obtain ⟨j32, hj32, hf⟩ := lj_e hf
          have Hj32 : ∀ (v31 : PV) (H : Heap) (locs : List Loc) (ls : Array Slot), va_P D vwCl (oPort C a0 a1 a2 a3 a4 a5 a6 v31 []) H → va_D A (oPort C a0 a1 a2 a3 a4 a5 a6 v31 []) → va_S A s.heap H locs → lv_has ls 5 [(3, .int i26), (0, .ref a0), (1, .int x0), (2, .int x1)] → j32 v31 = some v' → W p l e (headSpec wsX1_meet (rmX1_meet)).room s m (List.toArray [Value.ref a0, Value.int x0, Value.int x1]) below meth c H locs 0 0 Q (F0 m 52 ls []) := by
            intro v31 H locs ls hP hD hS hl hf
            rw [hj32] at hf
            obtain ⟨t33, et33, hf⟩ := lj_e hf
            refine lv_iinc (v := t33) (lv' := [(3, .int t33), (0, .ref a0), (1, .int x0), (2, .int x1)]) hx hb dX1_meet_52 hl (k := 0) rfl (by rw [et33]; rfl) (by decide) rfl (fun ls hl => ?_)
            refine lv_goto (tgt := 7) hx hb dX1_meet_55 (by decide) ?_
            exact ih t33 v31 H locs ls hP hD hS (lv_sub hl [0, 1, 2, 3] rfl) hf
          refine lv_icmp_eq (tgt := 52) hx hb dX1_meet_27 (by decide) (fun c34 => ?_) (fun c34 => ?_)
          · replace hf := if_te c34 hf
            exact Hj32 v27 H locs ls hP hD hS (lv_sub hl [1, 2, 3, 4] rfl) hf
          · replace hf := if_fe c34 hf
            refine lv_aload_n hx hb dX1_meet_30 rfl (lv_at hl 2 rfl) ?_
            refine lv_iload_n hx hb dX1_meet_31 rfl (lv_at hl 1 rfl) ?_
            refine lv_iload hx hb dX1_meet_32 (lv_at hl 0 rfl) ?_
            obtain ⟨r35, h36, hf⟩ := ob1_e hf
            refine kcz (Wx := (oPort C a0 a1 a2 a3 a4 a5 a6 v27 [])) (va_runV (As := [.int i26, .int r29]) (rest := []) ⟨hx, hb, hml, hown, hts⟩ (c_X1_goesTo l E D C a0 a1 a2 a3 a4 a5 a6 H.size N v27 i26 r29 r35 h36) (cwV 2 hts gX1_meet_X1_goesTo rfl rfl rfl hdX1_goesTo ⟨Nat.le_of_ble_eq_true rfl, Nat.le_of_ble_eq_true rfl⟩) (kpreV hP hD hK hS hE hA [0, 1, 2, 3, 4, 5, 6] rfl rfl 0 rfl rfl rfl) rfl rfl hl.1 rfl (lv_room (Nat.le_of_ble_eq_true rfl)) dX1_meet_34 ⟨Nat.zero_le _, Nat.zero_le _⟩) hP hD hS hA [0, 1, 2, 3, 4, 5, 6] rfl rfl rfl (fun H locs hz37 hP hD hS => ?_)
            refine lv_if_eq (tgt := 52) hx hb dX1_meet_37 (by decide) (fun c38 => ?_) (fun c38 => ?_)
            · replace hf := if_te c38 hf
              exact Hj32 v27 H locs ls hP hD hS (lv_sub hl [1, 2, 3, 4] rfl) hf
            · replace hf := if_fe c38 hf
              refine lv_aload_n hx hb dX1_meet_40 rfl (lv_at hl 2 rfl) ?_
              refine lv_dup hx hb dX1_meet_41 rfl ?_
              refine va_get (D := D) (ci := 1) (v := .int (pWent v27)) (C := RX1) (T := TX1) (N := 10) hx hb hts hi_RX1 hown hK hP 0 rfl rfl 9 (by decide) (hts (.fieldLink RX1 66 "TravelMarks$Port" "went" "I") (List.mem_of_getElem? (i := 1) rfl)) (fun _ h9 => h9) rfl dX1_meet_42 ?_
              refine lv_iconst (v := 1) hx hb dX1_meet_45 rfl ?_
              refine lv_iload_n hx hb dX1_meet_46 rfl (lv_at hl 1 rfl) ?_
              refine lv_ishl hx hb dX1_meet_47 ?_
              refine lv_ior hx hb dX1_meet_48 ?_
              obtain ⟨t39, et39, hf⟩ := lj_e hf
              refine lv_ren et39 ?_
              refine va_put (D := D) (ci := 1) (v := .int t39) (ty := .int) (C := RX1) (T := TX1) (N := 10) hx hb hts hi_RX1 tyX1 tyX1_ok nmX1 hown hK hP hD hS 0 rfl rfl 9 (by decide) (hts (.fieldLink RX1 66 "TravelMarks$Port" "went" "I") (List.mem_of_getElem? (i := 1) rfl)) (fun _ h9 => h9) rfl (tyX1_ok 9 (by decide)) rfl rfl (Nat.le_of_ble_eq_true rfl) dX1_meet_49 (fun H locs hP hD hS => ?_)
              obtain ⟨v40, ev40, hf⟩ := lj_e hf
              have hP : va_P D vwCl (oPort C a0 a1 a2 a3 a4 a5 a6 v40 []) H := by rw [ev40]; exact hP
              have hD : va_D A (oPort C a0 a1 a2 a3 a4 a5 a6 v40 []) := by rw [ev40]; exact hD
              exact Hj32 v40 H locs ls hP hD hS (lv_sub hl [1, 2, 3, 4] rfl) hf
    exact hL7 N 0 v1 H locs ls hP hD hS (lv_sub hl [0, 1, 2, 3] rfl) hf
  exact main _ _ hP hD hS

def rmX1_passHour : Room := { frames := 3, cells := 0, slots := 0, locals := 70 }
theorem hdX1_passHour : yX1_passHour.cls = RX1 ∧ yX1_passHour.cls ≠ "java/lang/invoke/MethodHandle" ∧ yX1_passHour.cls ≠ "java/lang/invoke/VarHandle" ∧ (parseMethodDescriptor yX1_passHour.desc).map (fun d => d.parameters.length) = some 0 := by decide +kernel
set_option maxHeartbeats 40000000 in
set_option maxRecDepth 100000 in
theorem c_X1_passHour (l : Launch) (E : Nat → Nat) (D : va_G) (C : Nat → ClassId) (a0 a1 a2 a3 a4 a5 a6 : Nat) (sz : Nat) (N : Nat) (v : PV)  (v' : PV) (hf : f_X1_passHour N v = some v') : Met l yX1_passHour wsX1_passHour rmX1_passHour (PC E D C [.ref a0] (oPort C a0 a1 a2 a3 a4 a5 a6 v []) sz) (QV D C (oPort C a0 a1 a2 a3 a4 a5 a6 v []) (oPort C a0 a1 a2 a3 a4 a5 a6 (v') []) sz) 0 0 (va_A (oPort C a0 a1 a2 a3 a4 a5 a6 v []) sz) := by
  refine Met.ofW (cc := cX1_passHour) (maxL := 2) (ret := none) (by decide) rfl ?_
  intro p e s m args below meth c s₁ B hml hv
  obtain ⟨rfl, hsz, hP, hK, hD0, hE⟩ := hv
  have hx := B.exec
  have hb := B.bytes
  have hr := B.returns
  have hts := atoms_spec (ws := wsX1_passHour) B.pre
  have hown : s.vm.findClass RX1 = some m.cls := findClass_of_methodNamed B.named
  have hlocks := B.notSynchronized
  subst hsz
  have hi_RX1 : ∀ w ∈ wsX10, w ∈ wsX1_passHour := fun _ h => List.mem_cons_of_mem _ (List.mem_append_right _ h)
  have hD := hD0.self (sz := s.heap.size)
  obtain ⟨A, hAe⟩ := nm_ex (va_A (oPort C a0 a1 a2 a3 a4 a5 a6 v []) s.heap.size)
  rw [← hAe] at hD hE ⊢
  have hA : ∀ q : Nat, s.heap.size ≤ q → A q := fun q h => by rw [hAe]; exact Or.inr h
  have hS : va_S A s.heap s.heap [] := va_S.rf
  have hl := lv_entry ([.ref a0]) (n := 2) (Nat.le_of_ble_eq_true rfl)
  rw [lg_entry_eq]
  generalize (lg_sl ([.ref a0]) ++ List.replicate (2 - (lg_sl ([.ref a0])).length) Slot.unset).toArray = ls at hl ⊢
  have hl : lv_has ls 2 [(0, .ref a0)] := hl
  obtain ⟨Q, hQ⟩ := nm_ex (MQ below (QV D C (oPort C a0 a1 a2 a3 a4 a5 a6 v []) (oPort C a0 a1 a2 a3 a4 a5 a6 (v') []) s.heap.size) (List.toArray [Value.ref a0]) s 0 0 A)
  show W p l e (headSpec wsX1_passHour (rmX1_passHour)).room s m (List.toArray [Value.ref a0]) below meth c s.heap [] 0 0 (MQ below (QV D C (oPort C a0 a1 a2 a3 a4 a5 a6 v []) (oPort C a0 a1 a2 a3 a4 a5 a6 (v') []) s.heap.size) (List.toArray [Value.ref a0]) s 0 0 A) _
  rw [← hQ]
  unfold f_X1_passHour at hf
  have main : ∀ (H : Heap) (locs : List Loc), va_P D vwCl (oPort C a0 a1 a2 a3 a4 a5 a6 v []) H → va_D A (oPort C a0 a1 a2 a3 a4 a5 a6 v []) → va_S A s.heap H locs → W p l e (headSpec wsX1_passHour (rmX1_passHour)).room s m (List.toArray [Value.ref a0]) below meth c H locs 0 0 Q (F0 m 0 ls []) := by
    intro H locs hP hD hS
    refine lv_aload_n hx hb dX1_passHour_0 rfl (lv_at hl 0 rfl) ?_
    obtain ⟨r1, h2, hf⟩ := ob1_e hf
    refine kci (Wx := (oPort C a0 a1 a2 a3 a4 a5 a6 v [])) (va_runV (As := []) (rest := []) ⟨hx, hb, hml, hown, hts⟩ (c_X1_restNow l E D C a0 a1 a2 a3 a4 a5 a6 H.size v r1 h2) (cwV 0 hts gX1_passHour_X1_restNow rfl rfl rfl hdX1_restNow ⟨Nat.le_of_ble_eq_true rfl, Nat.le_of_ble_eq_true rfl⟩) (kpreV hP hD hK hS hE hA [0, 1, 2, 3, 4, 5, 6] rfl rfl 0 rfl rfl rfl) rfl rfl hl.1 rfl (lv_room (Nat.le_of_ble_eq_true rfl)) dX1_passHour_1 ⟨Nat.zero_le _, Nat.zero_le _⟩) hP hD hS hA [0, 1, 2, 3, 4, 5, 6] rfl rfl rfl (fun H locs hP hD hS => ?_)
    refine lv_istore_n (lv' := [(1, .int r1), (0, .ref a0)]) hx hb dX1_passHour_4 rfl hl (by decide) rfl (fun ls hl => ?_)
    refine lv_aload_n hx hb dX1_passHour_5 rfl (lv_at hl 1 rfl) ?_
    refine lv_iconst (v := 0) hx hb dX1_passHour_6 rfl ?_
    refine va_put (D := D) (ci := 1) (v := .int 0) (ty := .int) (C := RX1) (T := TX1) (N := 10) hx hb hts hi_RX1 tyX1 tyX1_ok nmX1 hown hK hP hD hS 0 rfl rfl 9 (by decide) (hts (.fieldLink RX1 66 "TravelMarks$Port" "went" "I") (List.mem_of_getElem? (i := 1) rfl)) (fun _ h9 => h9) rfl (tyX1_ok 9 (by decide)) rfl rfl (Nat.le_of_ble_eq_true rfl) dX1_passHour_7 (fun H locs hP hD hS => ?_)
    obtain ⟨v3, ev3, hf⟩ := lj_e hf
    have hP : va_P D vwCl (oPort C a0 a1 a2 a3 a4 a5 a6 v3 []) H := by rw [ev3]; exact hP
    have hD : va_D A (oPort C a0 a1 a2 a3 a4 a5 a6 v3 []) := by rw [ev3]; exact hD
    refine lv_aload_n hx hb dX1_passHour_10 rfl (lv_at hl 1 rfl) ?_
    refine va_get (D := D) (ci := 1) (v := .ref a5) (C := RX1) (T := TX1) (N := 10) hx hb hts hi_RX1 hown hK hP 0 rfl rfl 4 (by decide) (hts (.fieldLink RX1 24 "TravelMarks$Port" "first" "[I") (List.mem_of_getElem? (i := 2) rfl)) (fun _ h9 => h9) rfl dX1_passHour_11 ?_
    refine lv_iload_n hx hb dX1_passHour_14 rfl (lv_at hl 0 rfl) ?_
    obtain ⟨y5, ey5, hi4, hf⟩ := rdA_x hf
    refine va_iald hx hb hK hP 5 0 rfl rfl hi4 dX1_passHour_15 ?_
    refine lv_ren ey5 ?_
    refine lv_iconst (v := (-1)) hx hb dX1_passHour_16 rfl ?_
    obtain ⟨j7, hj7, hf⟩ := lj_e hf
    have Hj7 : ∀ (v6 : PV) (H : Heap) (locs : List Loc) (ls : Array Slot), va_P D vwCl (oPort C a0 a1 a2 a3 a4 a5 a6 v6 []) H → va_D A (oPort C a0 a1 a2 a3 a4 a5 a6 v6 []) → va_S A s.heap H locs → lv_has ls 2 [(0, .ref a0)] → j7 v6 = some v' → W p l e (headSpec wsX1_passHour (rmX1_passHour)).room s m (List.toArray [Value.ref a0]) below meth c H locs 0 0 Q (F0 m 36 ls []) := by
      intro v6 H locs ls hP hD hS hl hf
      rw [hj7] at hf
      refine lv_aload_n hx hb dX1_passHour_36 rfl (lv_at hl 0 rfl) ?_
      refine lv_dup hx hb dX1_passHour_37 rfl ?_
      refine va_get (D := D) (ci := 1) (v := .int (pHour v6)) (C := RX1) (T := TX1) (N := 10) hx hb hts hi_RX1 hown hK hP 0 rfl rfl 7 (by decide) (hts (.fieldLink RX1 53 "TravelMarks$Port" "hour" "I") (List.mem_of_getElem? (i := 4) rfl)) (fun _ h9 => h9) rfl dX1_passHour_38 ?_
      refine lv_iconst (v := 1) hx hb dX1_passHour_41 rfl ?_
      refine lv_iadd hx hb dX1_passHour_42 ?_
      obtain ⟨t8, et8, hf⟩ := lj_e hf
      refine lv_ren et8 ?_
      refine va_put (D := D) (ci := 1) (v := .int t8) (ty := .int) (C := RX1) (T := TX1) (N := 10) hx hb hts hi_RX1 tyX1 tyX1_ok nmX1 hown hK hP hD hS 0 rfl rfl 7 (by decide) (hts (.fieldLink RX1 53 "TravelMarks$Port" "hour" "I") (List.mem_of_getElem? (i := 4) rfl)) (fun _ h9 => h9) rfl (tyX1_ok 7 (by decide)) rfl rfl (Nat.le_of_ble_eq_true rfl) dX1_passHour_43 (fun H locs hP hD hS => ?_)
      obtain ⟨v9, ev9, hf⟩ := lj_e hf
      have hP : va_P D vwCl (oPort C a0 a1 a2 a3 a4 a5 a6 v9 []) H := by rw [ev9]; exact hP
      have hD : va_D A (oPort C a0 a1 a2 a3 a4 a5 a6 v9 []) := by rw [ev9]; exact hD
      cases hf
      exact krv hQ hAe hx hb hr hlocks hP hD hK hS dX1_passHour_46
    refine lv_icmp_eq (tgt := 36) hx hb dX1_passHour_17 (by decide) (fun c10 => ?_) (fun c10 => ?_)
    · replace hf := if_te c10 hf
      exact Hj7 v3 H locs ls hP hD hS (lv_sub hl [1] rfl) hf
    · replace hf := if_fe c10 hf
      refine lv_aload_n hx hb dX1_passHour_20 rfl (lv_at hl 1 rfl) ?_
      refine lv_aload_n hx hb dX1_passHour_21 rfl (lv_at hl 1 rfl) ?_
      refine va_get (D := D) (ci := 1) (v := .ref a5) (C := RX1) (T := TX1) (N := 10) hx hb hts hi_RX1 hown hK hP 0 rfl rfl 4 (by decide) (hts (.fieldLink RX1 24 "TravelMarks$Port" "first" "[I") (List.mem_of_getElem? (i := 2) rfl)) (fun _ h9 => h9) rfl dX1_passHour_22 ?_
      refine lv_iload_n hx hb dX1_passHour_25 rfl (lv_at hl 0 rfl) ?_
      obtain ⟨y12, ey12, hi11, hf⟩ := rdA_x hf
      refine va_iald hx hb hK hP 5 0 rfl rfl hi11 dX1_passHour_26 ?_
      refine lv_ren ey12 ?_
      refine lv_aload_n hx hb dX1_passHour_27 rfl (lv_at hl 1 rfl) ?_
      refine va_get (D := D) (ci := 1) (v := .ref a6) (C := RX1) (T := TX1) (N := 10) hx hb hts hi_RX1 hown hK hP 0 rfl rfl 5 (by decide) (hts (.fieldLink RX1 27 "TravelMarks$Port" "second" "[I") (List.mem_of_getElem? (i := 3) rfl)) (fun _ h9 => h9) rfl dX1_passHour_28 ?_
      refine lv_iload_n hx hb dX1_passHour_31 rfl (lv_at hl 0 rfl) ?_
      obtain ⟨y14, ey14, hi13, hf⟩ := rdA_x hf
      refine va_iald hx hb hK hP 6 0 rfl rfl hi13 dX1_passHour_32 ?_
      refine lv_ren ey14 ?_
      obtain ⟨v15, h16, hf⟩ := ob1_e hf
      refine kcv (Wx := (oPort C a0 a1 a2 a3 a4 a5 a6 v15 [])) (va_runV (As := [.int y12, .int y14]) (rest := []) ⟨hx, hb, hml, hown, hts⟩ (c_X1_meet l E D C a0 a1 a2 a3 a4 a5 a6 H.size N v3 y12 y14 v15 h16) (cwV 2 hts gX1_passHour_X1_meet rfl rfl rfl hdX1_meet ⟨Nat.le_of_ble_eq_true rfl, Nat.le_of_ble_eq_true rfl⟩) (kpreV hP hD hK hS hE hA [0, 1, 2, 3, 4, 5, 6] rfl rfl 0 rfl rfl rfl) rfl rfl hl.1 rfl (lv_room (Nat.le_of_ble_eq_true rfl)) dX1_passHour_33 ⟨Nat.zero_le _, Nat.zero_le _⟩) hP hD hS hA [0, 1, 2, 3, 4, 5, 6] rfl rfl rfl (fun H locs hP hD hS => ?_)
      exact Hj7 v15 H locs ls hP hD hS (lv_sub hl [1] rfl) hf
  exact main _ _ hP hD hS

def rmX1_marked : Room := { frames := 0, cells := 0, slots := 0, locals := 0 }
theorem hdX1_marked : yX1_marked.cls = RX1 ∧ yX1_marked.cls ≠ "java/lang/invoke/MethodHandle" ∧ yX1_marked.cls ≠ "java/lang/invoke/VarHandle" ∧ (parseMethodDescriptor yX1_marked.desc).map (fun d => d.parameters.length) = some 0 := by decide +kernel
set_option maxHeartbeats 40000000 in
set_option maxRecDepth 100000 in
theorem c_X1_marked (l : Launch) (E : Nat → Nat) (D : va_G) (C : Nat → ClassId) (a0 a1 a2 a3 a4 a5 a6 : Nat) (sz : Nat) (N : Nat) (v : PV)  (r : Int32) (hf : f_X1_marked N v = some r) : Met l yX1_marked wsX1_marked rmX1_marked (PC E D C [.ref a0] (oPort C a0 a1 a2 a3 a4 a5 a6 v []) sz) (QI D C (oPort C a0 a1 a2 a3 a4 a5 a6 v []) (oPort C a0 a1 a2 a3 a4 a5 a6 v []) sz r) 0 0 (va_A (oPort C a0 a1 a2 a3 a4 a5 a6 v []) sz) := by
  refine Met.ofW (cc := cX1_marked) (maxL := 3) (ret := (some .int)) (by decide) rfl ?_
  intro p e s m args below meth c s₁ B hml hv
  obtain ⟨rfl, hsz, hP, hK, hD0, hE⟩ := hv
  have hx := B.exec
  have hb := B.bytes
  have hr := B.returns
  have hts := atoms_spec (ws := wsX1_marked) B.pre
  have hown : s.vm.findClass RX1 = some m.cls := findClass_of_methodNamed B.named
  have hlocks := B.notSynchronized
  subst hsz
  have hi_RX1 : ∀ w ∈ wsX10, w ∈ wsX1_marked := fun _ h => List.mem_cons_of_mem _ (List.mem_append_right _ h)
  have hD := hD0.self (sz := s.heap.size)
  obtain ⟨A, hAe⟩ := nm_ex (va_A (oPort C a0 a1 a2 a3 a4 a5 a6 v []) s.heap.size)
  rw [← hAe] at hD hE ⊢
  have hA : ∀ q : Nat, s.heap.size ≤ q → A q := fun q h => by rw [hAe]; exact Or.inr h
  have hS : va_S A s.heap s.heap [] := va_S.rf
  have hl := lv_entry ([.ref a0]) (n := 3) (Nat.le_of_ble_eq_true rfl)
  rw [lg_entry_eq]
  generalize (lg_sl ([.ref a0]) ++ List.replicate (3 - (lg_sl ([.ref a0])).length) Slot.unset).toArray = ls at hl ⊢
  have hl : lv_has ls 3 [(0, .ref a0)] := hl
  obtain ⟨Q, hQ⟩ := nm_ex (MQ below (QI D C (oPort C a0 a1 a2 a3 a4 a5 a6 v []) (oPort C a0 a1 a2 a3 a4 a5 a6 v []) s.heap.size r) (List.toArray [Value.ref a0]) s 0 0 A)
  show W p l e (headSpec wsX1_marked (rmX1_marked)).room s m (List.toArray [Value.ref a0]) below meth c s.heap [] 0 0 (MQ below (QI D C (oPort C a0 a1 a2 a3 a4 a5 a6 v []) (oPort C a0 a1 a2 a3 a4 a5 a6 v []) s.heap.size r) (List.toArray [Value.ref a0]) s 0 0 A) _
  rw [← hQ]
  unfold f_X1_marked at hf
  have main : ∀ (H : Heap) (locs : List Loc), va_P D vwCl (oPort C a0 a1 a2 a3 a4 a5 a6 v []) H → va_D A (oPort C a0 a1 a2 a3 a4 a5 a6 v []) → va_S A s.heap H locs → W p l e (headSpec wsX1_marked (rmX1_marked)).room s m (List.toArray [Value.ref a0]) below meth c H locs 0 0 Q (F0 m 0 ls []) := by
    intro H locs hP hD hS
    refine lv_iconst (v := 0) hx hb dX1_marked_0 rfl ?_
    refine lv_istore_n (lv' := [(1, .int 0), (0, .ref a0)]) hx hb dX1_marked_1 rfl hl (by decide) rfl (fun ls hl => ?_)
    refine lv_iconst (v := 0) hx hb dX1_marked_2 rfl ?_
    refine lv_istore_n (lv' := [(2, .int 0), (1, .int 0), (0, .ref a0)]) hx hb dX1_marked_3 rfl hl (by decide) rfl (fun ls hl => ?_)
    have hL4 : ∀ (n : Nat) (i1 : Int32) (i2 : Int32) (H : Heap) (locs : List Loc) (ls : Array Slot), va_P D vwCl (oPort C a0 a1 a2 a3 a4 a5 a6 v []) H → va_D A (oPort C a0 a1 a2 a3 a4 a5 a6 v []) → va_S A s.heap H locs → lv_has ls 3 [(2, .int i1), (1, .int i2), (0, .ref a0)] → f_X1_marked_L4 v n i1 i2 = some r → W p l e (headSpec wsX1_marked (rmX1_marked)).room s m (List.toArray [Value.ref a0]) below meth c H locs 0 0 Q (F0 m 4 ls []) := by
      intro n
      induction n with
      | zero =>
        intro i1 i2 H locs ls hP hD hS hl hf
        exact absurd hf (fun h => by cases h)
      | succ n ih =>
        intro i1 i2 H locs ls hP hD hS hl hf
        rw [f_X1_marked_L4] at hf
        refine lv_iload_n hx hb dX1_marked_4 rfl (lv_at hl 0 rfl) ?_
        refine lv_aload_n hx hb dX1_marked_5 rfl (lv_at hl 2 rfl) ?_
        refine va_get (D := D) (ci := 1) (v := .int (pCount v)) (C := RX1) (T := TX1) (N := 10) hx hb hts hi_RX1 hown hK hP 0 rfl rfl 6 (by decide) (hts (.fieldLink RX1 50 "TravelMarks$Port" "count" "I") (List.mem_of_getElem? (i := 1) rfl)) (fun _ h9 => h9) rfl dX1_marked_6 ?_
        refine lv_icmp_ge (tgt := 29) hx hb dX1_marked_9 (by decide) (fun c3 => ?_) (fun c3 => ?_)
        · replace hf := if_te c3 hf
          refine lv_iload_n hx hb dX1_marked_29 rfl (lv_at hl 1 rfl) ?_
          cases hf
          exact kri hQ hAe hx hb hr hlocks hP hD hK hS dX1_marked_30
        · replace hf := if_fe c3 hf
          refine lv_iload_n hx hb dX1_marked_12 rfl (lv_at hl 1 rfl) ?_
          refine lv_iconst (v := 1) hx hb dX1_marked_13 rfl ?_
          refine lv_aload_n hx hb dX1_marked_14 rfl (lv_at hl 2 rfl) ?_
          refine va_get (D := D) (ci := 1) (v := .ref a4) (C := RX1) (T := TX1) (N := 10) hx hb hts hi_RX1 hown hK hP 0 rfl rfl 3 (by decide) (hts (.fieldLink RX1 21 "TravelMarks$Port" "on" "[I") (List.mem_of_getElem? (i := 2) rfl)) (fun _ h9 => h9) rfl dX1_marked_15 ?_
          refine lv_iload_n hx hb dX1_marked_18 rfl (lv_at hl 0 rfl) ?_
          obtain ⟨y5, ey5, hi4, hf⟩ := rdA_x hf
          refine va_iald hx hb hK hP 4 0 rfl rfl hi4 dX1_marked_19 ?_
          refine lv_ren ey5 ?_
          refine lv_ishl hx hb dX1_marked_20 ?_
          refine lv_ior hx hb dX1_marked_21 ?_
          obtain ⟨t6, et6, hf⟩ := lj_e hf
          refine lv_ren et6 ?_
          refine lv_istore_n (lv' := [(1, .int t6), (2, .int i1), (0, .ref a0)]) hx hb dX1_marked_22 rfl hl (by decide) rfl (fun ls hl => ?_)
          obtain ⟨t7, et7, hf⟩ := lj_e hf
          refine lv_iinc (v := t7) (lv' := [(2, .int t7), (1, .int t6), (0, .ref a0)]) hx hb dX1_marked_23 hl (k := 1) rfl (by rw [et7]; rfl) (by decide) rfl (fun ls hl => ?_)
          refine lv_goto (tgt := 4) hx hb dX1_marked_26 (by decide) ?_
          exact ih t7 t6 H locs ls hP hD hS (lv_sub hl [0, 1, 2] rfl) hf
    exact hL4 N 0 0 H locs ls hP hD hS (lv_sub hl [0, 1, 2] rfl) hf
  exact main _ _ hP hD hS

def rmJ6_bitCount_0f7a4 : Room := { frames := 0, cells := 0, slots := 0, locals := 0 }
theorem hdJ6_bitCount_0f7a4 : yJ6_bitCount_0f7a4.cls ≠ "java/lang/invoke/MethodHandle" ∧ yJ6_bitCount_0f7a4.cls ≠ "java/lang/invoke/VarHandle" ∧ (parseMethodDescriptor yJ6_bitCount_0f7a4.desc).map (fun d => d.parameters.length) = some 1 := by decide +kernel
set_option maxHeartbeats 40000000 in
set_option maxRecDepth 100000 in
theorem c_J6_bitCount_0f7a4 (l : Launch) (E : Nat → Nat) (D : va_G) (C : Nat → ClassId) (sz : Nat)  (x0 : Int32) (r : Int32) (hf : f_J6_bitCount_0f7a4 x0 = r) : Met l yJ6_bitCount_0f7a4 wsJ6_bitCount_0f7a4 rmJ6_bitCount_0f7a4 (PC E D C [.int x0] [] sz) (QI D C [] [] sz r) 0 0 (va_A [] sz) := by
  refine va_MetF (cc := cJ6_bitCount_0f7a4) (maxL := 1) (ret := (some .int)) (by decide +kernel) rfl ?_
  intro p e s m args below meth c s₁ B hml hv
  obtain ⟨rfl, hsz, hP, hK, hD0, hE⟩ := hv
  have hx := B.exec
  have hb := B.bytes
  have hr := B.returns
  have hts := atoms_spec (ws := wsJ6_bitCount_0f7a4) B.pre
  have hown : s.vm.findClass RJ6 = some m.cls := findClass_of_methodNamed B.named
  have hlocks := B.notSynchronized
  subst hsz
  have hD := hD0.self (sz := s.heap.size)
  obtain ⟨A, hAe⟩ := nm_ex (va_A [] s.heap.size)
  rw [← hAe] at hD hE ⊢
  have hA : ∀ q : Nat, s.heap.size ≤ q → A q := fun q h => by rw [hAe]; exact Or.inr h
  have hS : va_S A s.heap s.heap [] := va_S.rf
  have hl := lv_entry ([.int x0]) (n := 1) (Nat.le_of_ble_eq_true rfl)
  rw [lg_entry_eq]
  generalize (lg_sl ([.int x0]) ++ List.replicate (1 - (lg_sl ([.int x0])).length) Slot.unset).toArray = ls at hl ⊢
  have hl : lv_has ls 1 [(0, .int x0)] := hl
  obtain ⟨Q, hQ⟩ := nm_ex (MQ below (QI D C [] [] s.heap.size r) (List.toArray [Value.int x0]) s 0 0 A)
  show W p l e (headSpec wsJ6_bitCount_0f7a4 (rmJ6_bitCount_0f7a4)).room s m (List.toArray [Value.int x0]) below meth c s.heap [] 0 0 (MQ below (QI D C [] [] s.heap.size r) (List.toArray [Value.int x0]) s 0 0 A) _
  rw [← hQ]
  unfold f_J6_bitCount_0f7a4 at hf
  have main : ∀ (H : Heap) (locs : List Loc), va_P D vwCl [] H → va_D A [] → va_S A s.heap H locs → W p l e (headSpec wsJ6_bitCount_0f7a4 (rmJ6_bitCount_0f7a4)).room s m (List.toArray [Value.int x0]) below meth c H locs 0 0 Q (F0 m 0 ls []) := by
    intro H locs hP hD hS
    refine lv_iload_n hx hb dJ6_bitCount_0f7a4_0 rfl (lv_at hl 0 rfl) ?_
    refine lv_iload_n hx hb dJ6_bitCount_0f7a4_1 rfl (lv_at hl 0 rfl) ?_
    refine lv_iconst (v := 1) hx hb dJ6_bitCount_0f7a4_2 rfl ?_
    refine lv_iushr hx hb dJ6_bitCount_0f7a4_3 rfl ?_
    refine lv_ldcw hx hb hown (hts (.constant RJ6 265 (1431655765)) (List.mem_of_getElem? (i := 1) rfl)) dJ6_bitCount_0f7a4_4 ?_
    refine lv_iand hx hb dJ6_bitCount_0f7a4_7 ?_
    refine lv_isub hx hb dJ6_bitCount_0f7a4_8 ?_
    obtain ⟨t1, et1, hf⟩ := lj_e hf
    refine lv_ren et1 ?_
    refine lv_istore_n (lv' := [(0, .int t1)]) hx hb dJ6_bitCount_0f7a4_9 rfl hl (by decide) rfl (fun ls hl => ?_)
    refine lv_iload_n hx hb dJ6_bitCount_0f7a4_10 rfl (lv_at hl 0 rfl) ?_
    refine lv_ldcw hx hb hown (hts (.constant RJ6 266 (858993459)) (List.mem_of_getElem? (i := 2) rfl)) dJ6_bitCount_0f7a4_11 ?_
    refine lv_iand hx hb dJ6_bitCount_0f7a4_14 ?_
    refine lv_iload_n hx hb dJ6_bitCount_0f7a4_15 rfl (lv_at hl 0 rfl) ?_
    refine lv_iconst (v := 2) hx hb dJ6_bitCount_0f7a4_16 rfl ?_
    refine lv_iushr hx hb dJ6_bitCount_0f7a4_17 rfl ?_
    refine lv_ldcw hx hb hown (hts (.constant RJ6 266 (858993459)) (List.mem_of_getElem? (i := 2) rfl)) dJ6_bitCount_0f7a4_18 ?_
    refine lv_iand hx hb dJ6_bitCount_0f7a4_21 ?_
    refine lv_iadd hx hb dJ6_bitCount_0f7a4_22 ?_
    obtain ⟨t2, et2, hf⟩ := lj_e hf
    refine lv_ren et2 ?_
    refine lv_istore_n (lv' := [(0, .int t2)]) hx hb dJ6_bitCount_0f7a4_23 rfl hl (by decide) rfl (fun ls hl => ?_)
    refine lv_iload_n hx hb dJ6_bitCount_0f7a4_24 rfl (lv_at hl 0 rfl) ?_
    refine lv_iload_n hx hb dJ6_bitCount_0f7a4_25 rfl (lv_at hl 0 rfl) ?_
    refine lv_iconst (v := 4) hx hb dJ6_bitCount_0f7a4_26 rfl ?_
    refine lv_iushr hx hb dJ6_bitCount_0f7a4_27 rfl ?_
    refine lv_iadd hx hb dJ6_bitCount_0f7a4_28 ?_
    refine lv_ldcw hx hb hown (hts (.constant RJ6 267 (252645135)) (List.mem_of_getElem? (i := 3) rfl)) dJ6_bitCount_0f7a4_29 ?_
    refine lv_iand hx hb dJ6_bitCount_0f7a4_32 ?_
    obtain ⟨t3, et3, hf⟩ := lj_e hf
    refine lv_ren et3 ?_
    refine lv_istore_n (lv' := [(0, .int t3)]) hx hb dJ6_bitCount_0f7a4_33 rfl hl (by decide) rfl (fun ls hl => ?_)
    refine lv_iload_n hx hb dJ6_bitCount_0f7a4_34 rfl (lv_at hl 0 rfl) ?_
    refine lv_iload_n hx hb dJ6_bitCount_0f7a4_35 rfl (lv_at hl 0 rfl) ?_
    refine lv_bipush (v := 8) hx hb dJ6_bitCount_0f7a4_36 rfl ?_
    refine lv_iushr hx hb dJ6_bitCount_0f7a4_38 rfl ?_
    refine lv_iadd hx hb dJ6_bitCount_0f7a4_39 ?_
    obtain ⟨t4, et4, hf⟩ := lj_e hf
    refine lv_ren et4 ?_
    refine lv_istore_n (lv' := [(0, .int t4)]) hx hb dJ6_bitCount_0f7a4_40 rfl hl (by decide) rfl (fun ls hl => ?_)
    refine lv_iload_n hx hb dJ6_bitCount_0f7a4_41 rfl (lv_at hl 0 rfl) ?_
    refine lv_iload_n hx hb dJ6_bitCount_0f7a4_42 rfl (lv_at hl 0 rfl) ?_
    refine lv_bipush (v := 16) hx hb dJ6_bitCount_0f7a4_43 rfl ?_
    refine lv_iushr hx hb dJ6_bitCount_0f7a4_45 rfl ?_
    refine lv_iadd hx hb dJ6_bitCount_0f7a4_46 ?_
    obtain ⟨t5, et5, hf⟩ := lj_e hf
    refine lv_ren et5 ?_
    refine lv_istore_n (lv' := [(0, .int t5)]) hx hb dJ6_bitCount_0f7a4_47 rfl hl (by decide) rfl (fun ls hl => ?_)
    refine lv_iload_n hx hb dJ6_bitCount_0f7a4_48 rfl (lv_at hl 0 rfl) ?_
    refine lv_bipush (v := 63) hx hb dJ6_bitCount_0f7a4_49 rfl ?_
    refine lv_iand hx hb dJ6_bitCount_0f7a4_51 ?_
    cases hf
    exact kri hQ hAe hx hb hr hlocks hP hD hK hS dJ6_bitCount_0f7a4_52
  exact main _ _ hP hD hS

def rmX1_draw : Room := { frames := 0, cells := 0, slots := 0, locals := 0 }
theorem hdX1_draw : yX1_draw.cls = RX1 ∧ yX1_draw.cls ≠ "java/lang/invoke/MethodHandle" ∧ yX1_draw.cls ≠ "java/lang/invoke/VarHandle" ∧ (parseMethodDescriptor yX1_draw.desc).map (fun d => d.parameters.length) = some 0 := by decide +kernel
set_option maxHeartbeats 40000000 in
set_option maxRecDepth 100000 in
theorem c_X1_draw (l : Launch) (E : Nat → Nat) (D : va_G) (C : Nat → ClassId) (a0 a1 a2 a3 a4 a5 a6 : Nat) (sz : Nat) (v : PV)  (r : Int32) (v' : PV) (hf : f_X1_draw v = some (r, v')) : Met l yX1_draw wsX1_draw rmX1_draw (PC E D C [.ref a0] (oPort C a0 a1 a2 a3 a4 a5 a6 v []) sz) (QI D C (oPort C a0 a1 a2 a3 a4 a5 a6 v []) (oPort C a0 a1 a2 a3 a4 a5 a6 (v') []) sz r) 0 0 (va_A (oPort C a0 a1 a2 a3 a4 a5 a6 v []) sz) := by
  refine Met.ofW (cc := cX1_draw) (maxL := 1) (ret := (some .int)) (by decide) rfl ?_
  intro p e s m args below meth c s₁ B hml hv
  obtain ⟨rfl, hsz, hP, hK, hD0, hE⟩ := hv
  have hx := B.exec
  have hb := B.bytes
  have hr := B.returns
  have hts := atoms_spec (ws := wsX1_draw) B.pre
  have hown : s.vm.findClass RX1 = some m.cls := findClass_of_methodNamed B.named
  have hlocks := B.notSynchronized
  subst hsz
  have hi_RX1 : ∀ w ∈ wsX10, w ∈ wsX1_draw := fun _ h => List.mem_cons_of_mem _ (List.mem_append_right _ h)
  have hD := hD0.self (sz := s.heap.size)
  obtain ⟨A, hAe⟩ := nm_ex (va_A (oPort C a0 a1 a2 a3 a4 a5 a6 v []) s.heap.size)
  rw [← hAe] at hD hE ⊢
  have hA : ∀ q : Nat, s.heap.size ≤ q → A q := fun q h => by rw [hAe]; exact Or.inr h
  have hS : va_S A s.heap s.heap [] := va_S.rf
  have hl := lv_entry ([.ref a0]) (n := 1) (Nat.le_of_ble_eq_true rfl)
  rw [lg_entry_eq]
  generalize (lg_sl ([.ref a0]) ++ List.replicate (1 - (lg_sl ([.ref a0])).length) Slot.unset).toArray = ls at hl ⊢
  have hl : lv_has ls 1 [(0, .ref a0)] := hl
  obtain ⟨Q, hQ⟩ := nm_ex (MQ below (QI D C (oPort C a0 a1 a2 a3 a4 a5 a6 v []) (oPort C a0 a1 a2 a3 a4 a5 a6 (v') []) s.heap.size r) (List.toArray [Value.ref a0]) s 0 0 A)
  show W p l e (headSpec wsX1_draw (rmX1_draw)).room s m (List.toArray [Value.ref a0]) below meth c s.heap [] 0 0 (MQ below (QI D C (oPort C a0 a1 a2 a3 a4 a5 a6 v []) (oPort C a0 a1 a2 a3 a4 a5 a6 (v') []) s.heap.size r) (List.toArray [Value.ref a0]) s 0 0 A) _
  rw [← hQ]
  unfold f_X1_draw at hf
  have main : ∀ (H : Heap) (locs : List Loc), va_P D vwCl (oPort C a0 a1 a2 a3 a4 a5 a6 v []) H → va_D A (oPort C a0 a1 a2 a3 a4 a5 a6 v []) → va_S A s.heap H locs → W p l e (headSpec wsX1_draw (rmX1_draw)).room s m (List.toArray [Value.ref a0]) below meth c H locs 0 0 Q (F0 m 0 ls []) := by
    intro H locs hP hD hS
    refine lv_aload_n hx hb dX1_draw_0 rfl (lv_at hl 0 rfl) ?_
    refine lv_aload_n hx hb dX1_draw_1 rfl (lv_at hl 0 rfl) ?_
    refine va_get (D := D) (ci := 1) (v := .int (pZ v)) (C := RX1) (T := TX1) (N := 10) hx hb hts hi_RX1 hown hK hP 0 rfl rfl 8 (by decide) (hts (.fieldLink RX1 30 "TravelMarks$Port" "z" "I") (List.mem_of_getElem? (i := 1) rfl)) (fun _ h9 => h9) rfl dX1_draw_2 ?_
    refine lv_ldc hx hb hown (hts (.constant RX1 79 (1103515245)) (List.mem_of_getElem? (i := 2) rfl)) dX1_draw_5 ?_
    refine lv_imul hx hb dX1_draw_7 ?_
    refine lv_sipush (v := 12345) hx hb dX1_draw_8 rfl ?_
    refine lv_iadd hx hb dX1_draw_11 ?_
    obtain ⟨t1, et1, hf⟩ := lj_e hf
    refine lv_ren et1 ?_
    refine va_put (D := D) (ci := 1) (v := .int t1) (ty := .int) (C := RX1) (T := TX1) (N := 10) hx hb hts hi_RX1 tyX1 tyX1_ok nmX1 hown hK hP hD hS 0 rfl rfl 8 (by decide) (hts (.fieldLink RX1 30 "TravelMarks$Port" "z" "I") (List.mem_of_getElem? (i := 1) rfl)) (fun _ h9 => h9) rfl (tyX1_ok 8 (by decide)) rfl rfl (Nat.le_of_ble_eq_true rfl) dX1_draw_12 (fun H locs hP hD hS => ?_)
    obtain ⟨v2, ev2, hf⟩ := lj_e hf
    have hP : va_P D vwCl (oPort C a0 a1 a2 a3 a4 a5 a6 v2 []) H := by rw [ev2]; exact hP
    have hD : va_D A (oPort C a0 a1 a2 a3 a4 a5 a6 v2 []) := by rw [ev2]; exact hD
    refine lv_aload_n hx hb dX1_draw_15 rfl (lv_at hl 0 rfl) ?_
    refine va_get (D := D) (ci := 1) (v := .int (pZ v2)) (C := RX1) (T := TX1) (N := 10) hx hb hts hi_RX1 hown hK hP 0 rfl rfl 8 (by decide) (hts (.fieldLink RX1 30 "TravelMarks$Port" "z" "I") (List.mem_of_getElem? (i := 1) rfl)) (fun _ h9 => h9) rfl dX1_draw_16 ?_
    refine lv_bipush (v := 16) hx hb dX1_draw_19 rfl ?_
    refine lv_iushr hx hb dX1_draw_21 rfl ?_
    obtain ⟨t3, et3, hf⟩ := lj_e hf
    refine lv_ren et3 ?_
    cases hf
    exact kri hQ hAe hx hb hr hlocks hP hD hK hS dX1_draw_22
  exact main _ _ hP hD hS

def rmX1_passHourByDraws : Room := { frames := 4, cells := 0, slots := 0, locals := 91 }
theorem hdX1_passHourByDraws : yX1_passHourByDraws.cls = RX1 ∧ yX1_passHourByDraws.cls ≠ "java/lang/invoke/MethodHandle" ∧ yX1_passHourByDraws.cls ≠ "java/lang/invoke/VarHandle" ∧ (parseMethodDescriptor yX1_passHourByDraws.desc).map (fun d => d.parameters.length) = some 0 := by decide +kernel
set_option maxHeartbeats 40000000 in
set_option maxRecDepth 100000 in
theorem c_X1_passHourByDraws (l : Launch) (E : Nat → Nat) (D : va_G) (C : Nat → ClassId) (a0 a1 a2 a3 a4 a5 a6 : Nat) (sz : Nat) (N : Nat) (v : PV)  (v' : PV) (hf : f_X1_passHourByDraws N v = some v') : Met l yX1_passHourByDraws wsX1_passHourByDraws rmX1_passHourByDraws (PC E D C [.ref a0] (oPort C a0 a1 a2 a3 a4 a5 a6 v []) sz) (QV D C (oPort C a0 a1 a2 a3 a4 a5 a6 v []) (oPort C a0 a1 a2 a3 a4 a5 a6 (v') []) sz) 0 0 (va_A (oPort C a0 a1 a2 a3 a4 a5 a6 v []) sz) := by
  refine Met.ofW (cc := cX1_passHourByDraws) (maxL := 3) (ret := none) (by decide) rfl ?_
  intro p e s m args below meth c s₁ B hml hv
  obtain ⟨rfl, hsz, hP, hK, hD0, hE⟩ := hv
  have hx := B.exec
  have hb := B.bytes
  have hr := B.returns
  have hts := atoms_spec (ws := wsX1_passHourByDraws) B.pre
  have hown : s.vm.findClass RX1 = some m.cls := findClass_of_methodNamed B.named
  have hlocks := B.notSynchronized
  subst hsz
  have hi_RX1 : ∀ w ∈ wsX10, w ∈ wsX1_passHourByDraws := fun _ h => List.mem_cons_of_mem _ (List.mem_append_right _ h)
  have hD := hD0.self (sz := s.heap.size)
  obtain ⟨A, hAe⟩ := nm_ex (va_A (oPort C a0 a1 a2 a3 a4 a5 a6 v []) s.heap.size)
  rw [← hAe] at hD hE ⊢
  have hA : ∀ q : Nat, s.heap.size ≤ q → A q := fun q h => by rw [hAe]; exact Or.inr h
  have hS : va_S A s.heap s.heap [] := va_S.rf
  have hl := lv_entry ([.ref a0]) (n := 3) (Nat.le_of_ble_eq_true rfl)
  rw [lg_entry_eq]
  generalize (lg_sl ([.ref a0]) ++ List.replicate (3 - (lg_sl ([.ref a0])).length) Slot.unset).toArray = ls at hl ⊢
  have hl : lv_has ls 3 [(0, .ref a0)] := hl
  obtain ⟨Q, hQ⟩ := nm_ex (MQ below (QV D C (oPort C a0 a1 a2 a3 a4 a5 a6 v []) (oPort C a0 a1 a2 a3 a4 a5 a6 (v') []) s.heap.size) (List.toArray [Value.ref a0]) s 0 0 A)
  show W p l e (headSpec wsX1_passHourByDraws (rmX1_passHourByDraws)).room s m (List.toArray [Value.ref a0]) below meth c s.heap [] 0 0 (MQ below (QV D C (oPort C a0 a1 a2 a3 a4 a5 a6 v []) (oPort C a0 a1 a2 a3 a4 a5 a6 (v') []) s.heap.size) (List.toArray [Value.ref a0]) s 0 0 A) _
  rw [← hQ]
  unfold f_X1_passHourByDraws at hf
  have main : ∀ (H : Heap) (locs : List Loc), va_P D vwCl (oPort C a0 a1 a2 a3 a4 a5 a6 v []) H → va_D A (oPort C a0 a1 a2 a3 a4 a5 a6 v []) → va_S A s.heap H locs → W p l e (headSpec wsX1_passHourByDraws (rmX1_passHourByDraws)).room s m (List.toArray [Value.ref a0]) below meth c H locs 0 0 Q (F0 m 0 ls []) := by
    intro H locs hP hD hS
    refine lv_aload_n hx hb dX1_passHourByDraws_0 rfl (lv_at hl 0 rfl) ?_
    obtain ⟨r1, v2, h3, hf⟩ := ob2_e hf
    refine kci (Wx := (oPort C a0 a1 a2 a3 a4 a5 a6 v2 [])) (va_runV (As := []) (rest := []) ⟨hx, hb, hml, hown, hts⟩ (c_X1_draw l E D C a0 a1 a2 a3 a4 a5 a6 H.size v r1 v2 h3) (cwV 0 hts gX1_passHourByDraws_X1_draw rfl rfl rfl hdX1_draw ⟨Nat.le_of_ble_eq_true rfl, Nat.le_of_ble_eq_true rfl⟩) (kpreV hP hD hK hS hE hA [0, 1, 2, 3, 4, 5, 6] rfl rfl 0 rfl rfl rfl) rfl rfl hl.1 rfl (lv_room (Nat.le_of_ble_eq_true rfl)) dX1_passHourByDraws_1 ⟨Nat.zero_le _, Nat.zero_le _⟩) hP hD hS hA [0, 1, 2, 3, 4, 5, 6] rfl rfl rfl (fun H locs hP hD hS => ?_)
    refine lv_bipush (v := 8) hx hb dX1_passHourByDraws_4 rfl ?_
    refine lv_irem hx hb dX1_passHourByDraws_6 (by decide) ?_
    obtain ⟨t4, et4, hf⟩ := lj_e hf
    refine lv_ren et4 ?_
    refine lv_istore_n (lv' := [(1, .int t4), (0, .ref a0)]) hx hb dX1_passHourByDraws_7 rfl hl (by decide) rfl (fun ls hl => ?_)
    refine lv_aload_n hx hb dX1_passHourByDraws_8 rfl (lv_at hl 1 rfl) ?_
    obtain ⟨r5, v6, h7, hf⟩ := ob2_e hf
    refine kci (Wx := (oPort C a0 a1 a2 a3 a4 a5 a6 v6 [])) (va_runV (As := []) (rest := []) ⟨hx, hb, hml, hown, hts⟩ (c_X1_draw l E D C a0 a1 a2 a3 a4 a5 a6 H.size v2 r5 v6 h7) (cwV 0 hts gX1_passHourByDraws_X1_draw rfl rfl rfl hdX1_draw ⟨Nat.le_of_ble_eq_true rfl, Nat.le_of_ble_eq_true rfl⟩) (kpreV hP hD hK hS hE hA [0, 1, 2, 3, 4, 5, 6] rfl rfl 0 rfl rfl rfl) rfl rfl hl.1 rfl (lv_room (Nat.le_of_ble_eq_true rfl)) dX1_passHourByDraws_9 ⟨Nat.zero_le _, Nat.zero_le _⟩) hP hD hS hA [0, 1, 2, 3, 4, 5, 6] rfl rfl rfl (fun H locs hP hD hS => ?_)
    refine lv_bipush (v := 100) hx hb dX1_passHourByDraws_12 rfl ?_
    refine lv_irem hx hb dX1_passHourByDraws_14 (by decide) ?_
    refine lv_aload_n hx hb dX1_passHourByDraws_15 rfl (lv_at hl 1 rfl) ?_
    refine va_get (D := D) (ci := 1) (v := .ref a1) (C := RX1) (T := TX1) (N := 10) hx hb hts hi_RX1 hown hK hP 0 rfl rfl 0 (by decide) (hts (.fieldLink RX1 9 "TravelMarks$Port" "laws" "[I") (List.mem_of_getElem? (i := 1) rfl)) (fun _ h9 => h9) rfl dX1_passHourByDraws_16 ?_
    refine lv_iconst (v := 3) hx hb dX1_passHourByDraws_19 rfl ?_
    refine va_iald hx hb hK hP 1 0 rfl rfl (i := 3) (vin (by decide)) dX1_passHourByDraws_20 ?_
    refine lv_ren (show ((pLaws v6) 3) = (pLaws v6) (Int32.toNatClampNeg 3) from rfl) ?_
    obtain ⟨j9, hj9, hf⟩ := lj_e hf
    have Hj9 : ∀ (v8 : PV) (H : Heap) (locs : List Loc) (ls : Array Slot), va_P D vwCl (oPort C a0 a1 a2 a3 a4 a5 a6 v8 []) H → va_D A (oPort C a0 a1 a2 a3 a4 a5 a6 v8 []) → va_S A s.heap H locs → lv_has ls 3 [(0, .ref a0)] → j9 v8 = some v' → W p l e (headSpec wsX1_passHourByDraws (rmX1_passHourByDraws)).room s m (List.toArray [Value.ref a0]) below meth c H locs 0 0 Q (F0 m 43 ls []) := by
      intro v8 H locs ls hP hD hS hl hf
      rw [hj9] at hf
      refine lv_aload_n hx hb dX1_passHourByDraws_43 rfl (lv_at hl 0 rfl) ?_
      obtain ⟨v10, h11, hf⟩ := ob1_e hf
      refine kcv (Wx := (oPort C a0 a1 a2 a3 a4 a5 a6 v10 [])) (va_runV (As := []) (rest := []) ⟨hx, hb, hml, hown, hts⟩ (c_X1_passHour l E D C a0 a1 a2 a3 a4 a5 a6 H.size N v8 v10 h11) (cwV 0 hts gX1_passHourByDraws_X1_passHour rfl rfl rfl hdX1_passHour ⟨Nat.le_of_ble_eq_true rfl, Nat.le_of_ble_eq_true rfl⟩) (kpreV hP hD hK hS hE hA [0, 1, 2, 3, 4, 5, 6] rfl rfl 0 rfl rfl rfl) rfl rfl hl.1 rfl (lv_room (Nat.le_of_ble_eq_true rfl)) dX1_passHourByDraws_44 ⟨Nat.zero_le _, Nat.zero_le _⟩) hP hD hS hA [0, 1, 2, 3, 4, 5, 6] rfl rfl rfl (fun H locs hP hD hS => ?_)
      cases hf
      exact krv hQ hAe hx hb hr hlocks hP hD hK hS dX1_passHourByDraws_47
    refine lv_icmp_ge (tgt := 43) hx hb dX1_passHourByDraws_21 (by decide) (fun c12 => ?_) (fun c12 => ?_)
    · replace hf := if_te c12 hf
      exact Hj9 v6 H locs ls hP hD hS (lv_sub hl [1] rfl) hf
    · replace hf := if_fe c12 hf
      refine lv_aload_n hx hb dX1_passHourByDraws_24 rfl (lv_at hl 1 rfl) ?_
      obtain ⟨r13, v14, h15, hf⟩ := ob2_e hf
      refine kci (Wx := (oPort C a0 a1 a2 a3 a4 a5 a6 v14 [])) (va_runV (As := []) (rest := []) ⟨hx, hb, hml, hown, hts⟩ (c_X1_draw l E D C a0 a1 a2 a3 a4 a5 a6 H.size v6 r13 v14 h15) (cwV 0 hts gX1_passHourByDraws_X1_draw rfl rfl rfl hdX1_draw ⟨Nat.le_of_ble_eq_true rfl, Nat.le_of_ble_eq_true rfl⟩) (kpreV hP hD hK hS hE hA [0, 1, 2, 3, 4, 5, 6] rfl rfl 0 rfl rfl rfl) rfl rfl hl.1 rfl (lv_room (Nat.le_of_ble_eq_true rfl)) dX1_passHourByDraws_25 ⟨Nat.zero_le _, Nat.zero_le _⟩) hP hD hS hA [0, 1, 2, 3, 4, 5, 6] rfl rfl rfl (fun H locs hP hD hS => ?_)
      refine lv_bipush (v := 8) hx hb dX1_passHourByDraws_28 rfl ?_
      refine lv_irem hx hb dX1_passHourByDraws_30 (by decide) ?_
      obtain ⟨t16, et16, hf⟩ := lj_e hf
      refine lv_ren et16 ?_
      refine lv_istore_n (lv' := [(2, .int t16), (1, .int t4), (0, .ref a0)]) hx hb dX1_passHourByDraws_31 rfl hl (by decide) rfl (fun ls hl => ?_)
      refine lv_iload_n hx hb dX1_passHourByDraws_32 rfl (lv_at hl 0 rfl) ?_
      refine lv_iload_n hx hb dX1_passHourByDraws_33 rfl (lv_at hl 1 rfl) ?_
      refine lv_icmp_eq (tgt := 43) hx hb dX1_passHourByDraws_34 (by decide) (fun c17 => ?_) (fun c17 => ?_)
      · replace hf := if_te c17 hf
        exact Hj9 v14 H locs ls hP hD hS (lv_sub hl [2] rfl) hf
      · replace hf := if_fe c17 hf
        refine lv_aload_n hx hb dX1_passHourByDraws_37 rfl (lv_at hl 2 rfl) ?_
        refine lv_iload_n hx hb dX1_passHourByDraws_38 rfl (lv_at hl 1 rfl) ?_
        refine lv_iload_n hx hb dX1_passHourByDraws_39 rfl (lv_at hl 0 rfl) ?_
        obtain ⟨v18, h19, hf⟩ := ob1_e hf
        refine kcv (Wx := (oPort C a0 a1 a2 a3 a4 a5 a6 v18 [])) (va_runV (As := [.int t4, .int t16]) (rest := []) ⟨hx, hb, hml, hown, hts⟩ (c_X1_meet l E D C a0 a1 a2 a3 a4 a5 a6 H.size N v14 t4 t16 v18 h19) (cwV 2 hts gX1_passHourByDraws_X1_meet rfl rfl rfl hdX1_meet ⟨Nat.le_of_ble_eq_true rfl, Nat.le_of_ble_eq_true rfl⟩) (kpreV hP hD hK hS hE hA [0, 1, 2, 3, 4, 5, 6] rfl rfl 0 rfl rfl rfl) rfl rfl hl.1 rfl (lv_room (Nat.le_of_ble_eq_true rfl)) dX1_passHourByDraws_40 ⟨Nat.zero_le _, Nat.zero_le _⟩) hP hD hS hA [0, 1, 2, 3, 4, 5, 6] rfl rfl rfl (fun H locs hP hD hS => ?_)
        exact Hj9 v18 H locs ls hP hD hS (lv_sub hl [2] rfl) hf
  exact main _ _ hP hD hS

def rmX1_liesAs : Room := { frames := 0, cells := 0, slots := 0, locals := 0 }
theorem hdX1_liesAs : yX1_liesAs.cls = RX1 ∧ yX1_liesAs.cls ≠ "java/lang/invoke/MethodHandle" ∧ yX1_liesAs.cls ≠ "java/lang/invoke/VarHandle" ∧ (parseMethodDescriptor yX1_liesAs.desc).map (fun d => d.parameters.length) = some 1 := by decide +kernel
set_option maxHeartbeats 40000000 in
set_option maxRecDepth 100000 in
theorem c_X1_liesAs (l : Launch) (E : Nat → Nat) (D : va_G) (C : Nat → ClassId) (a0 a1 a2 a3 a4 a5 a6 b0_0 b0_1 b0_2 b0_3 b0_4 b0_5 b0_6 : Nat) (sz : Nat) (N : Nat) (v : PV) (w0 : PV)  (r : Int32) (hf : f_X1_liesAs N v w0 = some r) : Met l yX1_liesAs wsX1_liesAs rmX1_liesAs (PC E D C [.ref a0, .ref b0_0] (oPort C a0 a1 a2 a3 a4 a5 a6 v (oPort C b0_0 b0_1 b0_2 b0_3 b0_4 b0_5 b0_6 w0 [])) sz) (QZ D C (oPort C a0 a1 a2 a3 a4 a5 a6 v (oPort C b0_0 b0_1 b0_2 b0_3 b0_4 b0_5 b0_6 w0 [])) (oPort C a0 a1 a2 a3 a4 a5 a6 v (oPort C b0_0 b0_1 b0_2 b0_3 b0_4 b0_5 b0_6 w0 [])) sz r) 0 0 (va_A (oPort C a0 a1 a2 a3 a4 a5 a6 v (oPort C b0_0 b0_1 b0_2 b0_3 b0_4 b0_5 b0_6 w0 [])) sz) := by
  refine Met.ofW (cc := cX1_liesAs) (maxL := 3) (ret := (some .boolean)) (by decide) rfl ?_
  intro p e s m args below meth c s₁ B hml hv
  obtain ⟨rfl, hsz, hP, hK, hD0, hE⟩ := hv
  have hx := B.exec
  have hb := B.bytes
  have hr := B.returns
  have hts := atoms_spec (ws := wsX1_liesAs) B.pre
  have hown : s.vm.findClass RX1 = some m.cls := findClass_of_methodNamed B.named
  have hlocks := B.notSynchronized
  subst hsz
  have hi_RX1 : ∀ w ∈ wsX10, w ∈ wsX1_liesAs := fun _ h => List.mem_cons_of_mem _ (List.mem_append_right _ h)
  have hD := hD0.self (sz := s.heap.size)
  obtain ⟨A, hAe⟩ := nm_ex (va_A (oPort C a0 a1 a2 a3 a4 a5 a6 v (oPort C b0_0 b0_1 b0_2 b0_3 b0_4 b0_5 b0_6 w0 [])) s.heap.size)
  rw [← hAe] at hD hE ⊢
  have hA : ∀ q : Nat, s.heap.size ≤ q → A q := fun q h => by rw [hAe]; exact Or.inr h
  have hS : va_S A s.heap s.heap [] := va_S.rf
  have hl := lv_entry ([.ref a0, .ref b0_0]) (n := 3) (Nat.le_of_ble_eq_true rfl)
  rw [lg_entry_eq]
  generalize (lg_sl ([.ref a0, .ref b0_0]) ++ List.replicate (3 - (lg_sl ([.ref a0, .ref b0_0])).length) Slot.unset).toArray = ls at hl ⊢
  have hl : lv_has ls 3 [(0, .ref a0), (1, .ref b0_0)] := hl
  obtain ⟨Q, hQ⟩ := nm_ex (MQ below (QZ D C (oPort C a0 a1 a2 a3 a4 a5 a6 v (oPort C b0_0 b0_1 b0_2 b0_3 b0_4 b0_5 b0_6 w0 [])) (oPort C a0 a1 a2 a3 a4 a5 a6 v (oPort C b0_0 b0_1 b0_2 b0_3 b0_4 b0_5 b0_6 w0 [])) s.heap.size r) (List.toArray [Value.ref a0, Value.ref b0_0]) s 0 0 A)
  show W p l e (headSpec wsX1_liesAs (rmX1_liesAs)).room s m (List.toArray [Value.ref a0, Value.ref b0_0]) below meth c s.heap [] 0 0 (MQ below (QZ D C (oPort C a0 a1 a2 a3 a4 a5 a6 v (oPort C b0_0 b0_1 b0_2 b0_3 b0_4 b0_5 b0_6 w0 [])) (oPort C a0 a1 a2 a3 a4 a5 a6 v (oPort C b0_0 b0_1 b0_2 b0_3 b0_4 b0_5 b0_6 w0 [])) s.heap.size r) (List.toArray [Value.ref a0, Value.ref b0_0]) s 0 0 A) _
  rw [← hQ]
  unfold f_X1_liesAs at hf
  have main : ∀ (H : Heap) (locs : List Loc), va_P D vwCl (oPort C a0 a1 a2 a3 a4 a5 a6 v (oPort C b0_0 b0_1 b0_2 b0_3 b0_4 b0_5 b0_6 w0 [])) H → va_D A (oPort C a0 a1 a2 a3 a4 a5 a6 v (oPort C b0_0 b0_1 b0_2 b0_3 b0_4 b0_5 b0_6 w0 [])) → va_S A s.heap H locs → W p l e (headSpec wsX1_liesAs (rmX1_liesAs)).room s m (List.toArray [Value.ref a0, Value.ref b0_0]) below meth c H locs 0 0 Q (F0 m 0 ls []) := by
    intro H locs hP hD hS
    refine lv_iconst (v := 0) hx hb dX1_liesAs_0 rfl ?_
    refine lv_istore_n (lv' := [(2, .int 0), (0, .ref a0), (1, .ref b0_0)]) hx hb dX1_liesAs_1 rfl hl (by decide) rfl (fun ls hl => ?_)
    have hL2 : ∀ (n : Nat) (i1 : Int32) (H : Heap) (locs : List Loc) (ls : Array Slot), va_P D vwCl (oPort C a0 a1 a2 a3 a4 a5 a6 v (oPort C b0_0 b0_1 b0_2 b0_3 b0_4 b0_5 b0_6 w0 [])) H → va_D A (oPort C a0 a1 a2 a3 a4 a5 a6 v (oPort C b0_0 b0_1 b0_2 b0_3 b0_4 b0_5 b0_6 w0 [])) → va_S A s.heap H locs → lv_has ls 3 [(2, .int i1), (0, .ref a0), (1, .ref b0_0)] → f_X1_liesAs_L2 v w0 n i1 = some r → W p l e (headSpec wsX1_liesAs (rmX1_liesAs)).room s m (List.toArray [Value.ref a0, Value.ref b0_0]) below meth c H locs 0 0 Q (F0 m 2 ls []) := by
      intro n
      induction n with
      | zero =>
        intro i1 H locs ls hP hD hS hl hf
        exact absurd hf (fun h => by cases h)
      | succ n ih =>
        intro i1 H locs ls hP hD hS hl hf
        rw [f_X1_liesAs_L2] at hf
        refine lv_iload_n hx hb dX1_liesAs_2 rfl (lv_at hl 0 rfl) ?_
        refine lv_aload_n hx hb dX1_liesAs_3 rfl (lv_at hl 1 rfl) ?_
        refine va_get (D := D) (ci := 1) (v := .int (pCount v)) (C := RX1) (T := TX1) (N := 10) hx hb hts hi_RX1 hown hK hP 0 rfl rfl 6 (by decide) (hts (.fieldLink RX1 50 "TravelMarks$Port" "count" "I") (List.mem_of_getElem? (i := 1) rfl)) (fun _ h9 => h9) rfl dX1_liesAs_4 ?_
        refine lv_icmp_ge (tgt := 33) hx hb dX1_liesAs_7 (by decide) (fun c2 => ?_) (fun c2 => ?_)
        · replace hf := if_te c2 hf
          refine lv_iconst (v := 1) hx hb dX1_liesAs_33 rfl ?_
          cases hf
          exact krz hQ hAe hx hb hr hlocks zb_1 hP hD hK hS dX1_liesAs_34
        · replace hf := if_fe c2 hf
          refine lv_aload_n hx hb dX1_liesAs_10 rfl (lv_at hl 1 rfl) ?_
          refine va_get (D := D) (ci := 1) (v := .ref a4) (C := RX1) (T := TX1) (N := 10) hx hb hts hi_RX1 hown hK hP 0 rfl rfl 3 (by decide) (hts (.fieldLink RX1 21 "TravelMarks$Port" "on" "[I") (List.mem_of_getElem? (i := 2) rfl)) (fun _ h9 => h9) rfl dX1_liesAs_11 ?_
          refine lv_iload_n hx hb dX1_liesAs_14 rfl (lv_at hl 0 rfl) ?_
          obtain ⟨y4, ey4, hi3, hf⟩ := rdA_x hf
          refine va_iald hx hb hK hP 4 0 rfl rfl hi3 dX1_liesAs_15 ?_
          refine lv_ren ey4 ?_
          refine lv_aload_n hx hb dX1_liesAs_16 rfl (lv_at hl 2 rfl) ?_
          refine va_get (D := D) (ci := 1) (v := .ref b0_4) (C := RX1) (T := TX1) (N := 10) hx hb hts hi_RX1 hown hK hP 7 rfl rfl 3 (by decide) (hts (.fieldLink RX1 21 "TravelMarks$Port" "on" "[I") (List.mem_of_getElem? (i := 2) rfl)) (fun _ h9 => h9) rfl dX1_liesAs_17 ?_
          refine lv_iload_n hx hb dX1_liesAs_20 rfl (lv_at hl 0 rfl) ?_
          obtain ⟨y6, ey6, hi5, hf⟩ := rdA_x hf
          refine va_iald hx hb hK hP 11 0 rfl rfl hi5 dX1_liesAs_21 ?_
          refine lv_ren ey6 ?_
          refine lv_icmp_eq (tgt := 27) hx hb dX1_liesAs_22 (by decide) (fun c7 => ?_) (fun c7 => ?_)
          · replace hf := if_te c7 hf
            obtain ⟨t8, et8, hf⟩ := lj_e hf
            refine lv_iinc (v := t8) (lv' := [(2, .int t8), (0, .ref a0), (1, .ref b0_0)]) hx hb dX1_liesAs_27 hl (k := 0) rfl (by rw [et8]; rfl) (by decide) rfl (fun ls hl => ?_)
            refine lv_goto (tgt := 2) hx hb dX1_liesAs_30 (by decide) ?_
            exact ih t8 H locs ls hP hD hS (lv_sub hl [0, 1, 2] rfl) hf
          · replace hf := if_fe c7 hf
            refine lv_iconst (v := 0) hx hb dX1_liesAs_25 rfl ?_
            cases hf
            exact krz hQ hAe hx hb hr hlocks zb_0 hP hD hK hS dX1_liesAs_26
    exact hL2 N 0 H locs ls hP hD hS (lv_sub hl [0, 1, 2] rfl) hf
  exact main _ _ hP hD hS

def rmX1_allInk : Room := { frames := 0, cells := 0, slots := 0, locals := 0 }
theorem hdX1_allInk : yX1_allInk.cls = RX1 ∧ yX1_allInk.cls ≠ "java/lang/invoke/MethodHandle" ∧ yX1_allInk.cls ≠ "java/lang/invoke/VarHandle" ∧ (parseMethodDescriptor yX1_allInk.desc).map (fun d => d.parameters.length) = some 0 := by decide +kernel
set_option maxHeartbeats 40000000 in
set_option maxRecDepth 100000 in
theorem c_X1_allInk (l : Launch) (E : Nat → Nat) (D : va_G) (C : Nat → ClassId) (a0 a1 a2 a3 a4 a5 a6 : Nat) (sz : Nat) (N : Nat) (v : PV)  (r : Int32) (hf : f_X1_allInk N v = some r) : Met l yX1_allInk wsX1_allInk rmX1_allInk (PC E D C [.ref a0] (oPort C a0 a1 a2 a3 a4 a5 a6 v []) sz) (QI D C (oPort C a0 a1 a2 a3 a4 a5 a6 v []) (oPort C a0 a1 a2 a3 a4 a5 a6 v []) sz r) 0 0 (va_A (oPort C a0 a1 a2 a3 a4 a5 a6 v []) sz) := by
  refine Met.ofW (cc := cX1_allInk) (maxL := 3) (ret := (some .int)) (by decide) rfl ?_
  intro p e s m args below meth c s₁ B hml hv
  obtain ⟨rfl, hsz, hP, hK, hD0, hE⟩ := hv
  have hx := B.exec
  have hb := B.bytes
  have hr := B.returns
  have hts := atoms_spec (ws := wsX1_allInk) B.pre
  have hown : s.vm.findClass RX1 = some m.cls := findClass_of_methodNamed B.named
  have hlocks := B.notSynchronized
  subst hsz
  have hi_RX1 : ∀ w ∈ wsX10, w ∈ wsX1_allInk := fun _ h => List.mem_cons_of_mem _ (List.mem_append_right _ h)
  have hD := hD0.self (sz := s.heap.size)
  obtain ⟨A, hAe⟩ := nm_ex (va_A (oPort C a0 a1 a2 a3 a4 a5 a6 v []) s.heap.size)
  rw [← hAe] at hD hE ⊢
  have hA : ∀ q : Nat, s.heap.size ≤ q → A q := fun q h => by rw [hAe]; exact Or.inr h
  have hS : va_S A s.heap s.heap [] := va_S.rf
  have hl := lv_entry ([.ref a0]) (n := 3) (Nat.le_of_ble_eq_true rfl)
  rw [lg_entry_eq]
  generalize (lg_sl ([.ref a0]) ++ List.replicate (3 - (lg_sl ([.ref a0])).length) Slot.unset).toArray = ls at hl ⊢
  have hl : lv_has ls 3 [(0, .ref a0)] := hl
  obtain ⟨Q, hQ⟩ := nm_ex (MQ below (QI D C (oPort C a0 a1 a2 a3 a4 a5 a6 v []) (oPort C a0 a1 a2 a3 a4 a5 a6 v []) s.heap.size r) (List.toArray [Value.ref a0]) s 0 0 A)
  show W p l e (headSpec wsX1_allInk (rmX1_allInk)).room s m (List.toArray [Value.ref a0]) below meth c s.heap [] 0 0 (MQ below (QI D C (oPort C a0 a1 a2 a3 a4 a5 a6 v []) (oPort C a0 a1 a2 a3 a4 a5 a6 v []) s.heap.size r) (List.toArray [Value.ref a0]) s 0 0 A) _
  rw [← hQ]
  unfold f_X1_allInk at hf
  have main : ∀ (H : Heap) (locs : List Loc), va_P D vwCl (oPort C a0 a1 a2 a3 a4 a5 a6 v []) H → va_D A (oPort C a0 a1 a2 a3 a4 a5 a6 v []) → va_S A s.heap H locs → W p l e (headSpec wsX1_allInk (rmX1_allInk)).room s m (List.toArray [Value.ref a0]) below meth c H locs 0 0 Q (F0 m 0 ls []) := by
    intro H locs hP hD hS
    refine lv_iconst (v := 0) hx hb dX1_allInk_0 rfl ?_
    refine lv_istore_n (lv' := [(1, .int 0), (0, .ref a0)]) hx hb dX1_allInk_1 rfl hl (by decide) rfl (fun ls hl => ?_)
    refine lv_iconst (v := 0) hx hb dX1_allInk_2 rfl ?_
    refine lv_istore_n (lv' := [(2, .int 0), (1, .int 0), (0, .ref a0)]) hx hb dX1_allInk_3 rfl hl (by decide) rfl (fun ls hl => ?_)
    have hL4 : ∀ (n : Nat) (i1 : Int32) (i2 : Int32) (H : Heap) (locs : List Loc) (ls : Array Slot), va_P D vwCl (oPort C a0 a1 a2 a3 a4 a5 a6 v []) H → va_D A (oPort C a0 a1 a2 a3 a4 a5 a6 v []) → va_S A s.heap H locs → lv_has ls 3 [(2, .int i1), (1, .int i2), (0, .ref a0)] → f_X1_allInk_L4 v n i1 i2 = some r → W p l e (headSpec wsX1_allInk (rmX1_allInk)).room s m (List.toArray [Value.ref a0]) below meth c H locs 0 0 Q (F0 m 4 ls []) := by
      intro n
      induction n with
      | zero =>
        intro i1 i2 H locs ls hP hD hS hl hf
        exact absurd hf (fun h => by cases h)
      | succ n ih =>
        intro i1 i2 H locs ls hP hD hS hl hf
        rw [f_X1_allInk_L4] at hf
        refine lv_iload_n hx hb dX1_allInk_4 rfl (lv_at hl 0 rfl) ?_
        refine lv_aload_n hx hb dX1_allInk_5 rfl (lv_at hl 2 rfl) ?_
        refine va_get (D := D) (ci := 1) (v := .int (pCount v)) (C := RX1) (T := TX1) (N := 10) hx hb hts hi_RX1 hown hK hP 0 rfl rfl 6 (by decide) (hts (.fieldLink RX1 50 "TravelMarks$Port" "count" "I") (List.mem_of_getElem? (i := 1) rfl)) (fun _ h9 => h9) rfl dX1_allInk_6 ?_
        refine lv_icmp_ge (tgt := 27) hx hb dX1_allInk_9 (by decide) (fun c3 => ?_) (fun c3 => ?_)
        · replace hf := if_te c3 hf
          refine lv_iload_n hx hb dX1_allInk_27 rfl (lv_at hl 1 rfl) ?_
          cases hf
          exact kri hQ hAe hx hb hr hlocks hP hD hK hS dX1_allInk_28
        · replace hf := if_fe c3 hf
          refine lv_iload_n hx hb dX1_allInk_12 rfl (lv_at hl 1 rfl) ?_
          refine lv_aload_n hx hb dX1_allInk_13 rfl (lv_at hl 2 rfl) ?_
          refine va_get (D := D) (ci := 1) (v := .ref a3) (C := RX1) (T := TX1) (N := 10) hx hb hts hi_RX1 hown hK hP 0 rfl rfl 2 (by decide) (hts (.fieldLink RX1 18 "TravelMarks$Port" "ink" "[I") (List.mem_of_getElem? (i := 2) rfl)) (fun _ h9 => h9) rfl dX1_allInk_14 ?_
          refine lv_iload_n hx hb dX1_allInk_17 rfl (lv_at hl 0 rfl) ?_
          obtain ⟨y5, ey5, hi4, hf⟩ := rdA_x hf
          refine va_iald hx hb hK hP 3 0 rfl rfl hi4 dX1_allInk_18 ?_
          refine lv_ren ey5 ?_
          refine lv_iadd hx hb dX1_allInk_19 ?_
          obtain ⟨t6, et6, hf⟩ := lj_e hf
          refine lv_ren et6 ?_
          refine lv_istore_n (lv' := [(1, .int t6), (2, .int i1), (0, .ref a0)]) hx hb dX1_allInk_20 rfl hl (by decide) rfl (fun ls hl => ?_)
          obtain ⟨t7, et7, hf⟩ := lj_e hf
          refine lv_iinc (v := t7) (lv' := [(2, .int t7), (1, .int t6), (0, .ref a0)]) hx hb dX1_allInk_21 hl (k := 1) rfl (by rw [et7]; rfl) (by decide) rfl (fun ls hl => ?_)
          refine lv_goto (tgt := 4) hx hb dX1_allInk_24 (by decide) ?_
          exact ih t7 t6 H locs ls hP hD hS (lv_sub hl [0, 1, 2] rfl) hf
    exact hL4 N 0 0 H locs ls hP hD hS (lv_sub hl [0, 1, 2] rfl) hf
  exact main _ _ hP hD hS

def rmX1_circles : Room := { frames := 2, cells := 0, slots := 0, locals := 45 }
theorem hdX1_circles : yX1_circles.cls = RX1 ∧ yX1_circles.cls ≠ "java/lang/invoke/MethodHandle" ∧ yX1_circles.cls ≠ "java/lang/invoke/VarHandle" ∧ (parseMethodDescriptor yX1_circles.desc).map (fun d => d.parameters.length) = some 0 := by decide +kernel
set_option maxHeartbeats 40000000 in
set_option maxRecDepth 100000 in
theorem c_X1_circles (l : Launch) (E : Nat → Nat) (D : va_G) (C : Nat → ClassId) (a0 a1 a2 a3 a4 a5 a6 : Nat) (sz : Nat) (N : Nat) (v : PV)  (r : Int32) (hf : f_X1_circles N v = some r) : Met l yX1_circles wsX1_circles rmX1_circles (PC E D C [.ref a0] (oPort C a0 a1 a2 a3 a4 a5 a6 v []) sz) (QI D C (oPort C a0 a1 a2 a3 a4 a5 a6 v []) (oPort C a0 a1 a2 a3 a4 a5 a6 v []) sz r) 0 0 (va_A (oPort C a0 a1 a2 a3 a4 a5 a6 v []) sz) := by
  refine Met.ofW (cc := cX1_circles) (maxL := 3) (ret := (some .int)) (by decide) rfl ?_
  intro p e s m args below meth c s₁ B hml hv
  obtain ⟨rfl, hsz, hP, hK, hD0, hE⟩ := hv
  have hx := B.exec
  have hb := B.bytes
  have hr := B.returns
  have hts := atoms_spec (ws := wsX1_circles) B.pre
  have hown : s.vm.findClass RX1 = some m.cls := findClass_of_methodNamed B.named
  have hlocks := B.notSynchronized
  subst hsz
  have hD := hD0.self (sz := s.heap.size)
  obtain ⟨A, hAe⟩ := nm_ex (va_A (oPort C a0 a1 a2 a3 a4 a5 a6 v []) s.heap.size)
  rw [← hAe] at hD hE ⊢
  have hA : ∀ q : Nat, s.heap.size ≤ q → A q := fun q h => by rw [hAe]; exact Or.inr h
  have hS : va_S A s.heap s.heap [] := va_S.rf
  have hl := lv_entry ([.ref a0]) (n := 3) (Nat.le_of_ble_eq_true rfl)
  rw [lg_entry_eq]
  generalize (lg_sl ([.ref a0]) ++ List.replicate (3 - (lg_sl ([.ref a0])).length) Slot.unset).toArray = ls at hl ⊢
  have hl : lv_has ls 3 [(0, .ref a0)] := hl
  obtain ⟨Q, hQ⟩ := nm_ex (MQ below (QI D C (oPort C a0 a1 a2 a3 a4 a5 a6 v []) (oPort C a0 a1 a2 a3 a4 a5 a6 v []) s.heap.size r) (List.toArray [Value.ref a0]) s 0 0 A)
  show W p l e (headSpec wsX1_circles (rmX1_circles)).room s m (List.toArray [Value.ref a0]) below meth c s.heap [] 0 0 (MQ below (QI D C (oPort C a0 a1 a2 a3 a4 a5 a6 v []) (oPort C a0 a1 a2 a3 a4 a5 a6 v []) s.heap.size r) (List.toArray [Value.ref a0]) s 0 0 A) _
  rw [← hQ]
  unfold f_X1_circles at hf
  have main : ∀ (H : Heap) (locs : List Loc), va_P D vwCl (oPort C a0 a1 a2 a3 a4 a5 a6 v []) H → va_D A (oPort C a0 a1 a2 a3 a4 a5 a6 v []) → va_S A s.heap H locs → W p l e (headSpec wsX1_circles (rmX1_circles)).room s m (List.toArray [Value.ref a0]) below meth c H locs 0 0 Q (F0 m 0 ls []) := by
    intro H locs hP hD hS
    refine lv_iconst (v := 0) hx hb dX1_circles_0 rfl ?_
    refine lv_istore_n (lv' := [(1, .int 0), (0, .ref a0)]) hx hb dX1_circles_1 rfl hl (by decide) rfl (fun ls hl => ?_)
    refine lv_iconst (v := 0) hx hb dX1_circles_2 rfl ?_
    refine lv_istore_n (lv' := [(2, .int 0), (1, .int 0), (0, .ref a0)]) hx hb dX1_circles_3 rfl hl (by decide) rfl (fun ls hl => ?_)
    have hL4 : ∀ (n : Nat) (i1 : Int32) (i2 : Int32) (H : Heap) (locs : List Loc) (ls : Array Slot), va_P D vwCl (oPort C a0 a1 a2 a3 a4 a5 a6 v []) H → va_D A (oPort C a0 a1 a2 a3 a4 a5 a6 v []) → va_S A s.heap H locs → lv_has ls 3 [(2, .int i1), (1, .int i2), (0, .ref a0)] → f_X1_circles_L4 N v n i1 i2 = some r → W p l e (headSpec wsX1_circles (rmX1_circles)).room s m (List.toArray [Value.ref a0]) below meth c H locs 0 0 Q (F0 m 4 ls []) := by
      intro n
      induction n with
      | zero =>
        intro i1 i2 H locs ls hP hD hS hl hf
        exact absurd hf (fun h => by cases h)
      | succ n ih =>
        intro i1 i2 H locs ls hP hD hS hl hf
        rw [f_X1_circles_L4] at hf
        refine lv_iload_n hx hb dX1_circles_4 rfl (lv_at hl 0 rfl) ?_
        refine lv_bipush (v := 8) hx hb dX1_circles_5 rfl ?_
        refine lv_icmp_ge (tgt := 33) hx hb dX1_circles_7 (by decide) (fun c3 => ?_) (fun c3 => ?_)
        · replace hf := if_te c3 hf
          refine lv_iload_n hx hb dX1_circles_33 rfl (lv_at hl 1 rfl) ?_
          cases hf
          exact kri hQ hAe hx hb hr hlocks hP hD hK hS dX1_circles_34
        · replace hf := if_fe c3 hf
          refine lv_aload_n hx hb dX1_circles_10 rfl (lv_at hl 2 rfl) ?_
          refine lv_iload_n hx hb dX1_circles_11 rfl (lv_at hl 0 rfl) ?_
          obtain ⟨r4, h5, hf⟩ := ob1_e hf
          refine kci (Wx := (oPort C a0 a1 a2 a3 a4 a5 a6 v [])) (va_runV (As := [.int i1]) (rest := []) ⟨hx, hb, hml, hown, hts⟩ (c_X1_circle l E D C a0 a1 a2 a3 a4 a5 a6 H.size N v i1 r4 h5) (cwV 1 hts gX1_circles_X1_circle rfl rfl rfl hdX1_circle ⟨Nat.le_of_ble_eq_true rfl, Nat.le_of_ble_eq_true rfl⟩) (kpreV hP hD hK hS hE hA [0, 1, 2, 3, 4, 5, 6] rfl rfl 0 rfl rfl rfl) rfl rfl hl.1 rfl (lv_room (Nat.le_of_ble_eq_true rfl)) dX1_circles_12 ⟨Nat.zero_le _, Nat.zero_le _⟩) hP hD hS hA [0, 1, 2, 3, 4, 5, 6] rfl rfl rfl (fun H locs hP hD hS => ?_)
          refine lv_iconst (v := 1) hx hb dX1_circles_15 rfl ?_
          refine lv_iload_n hx hb dX1_circles_16 rfl (lv_at hl 0 rfl) ?_
          refine lv_ishl hx hb dX1_circles_17 ?_
          refine lv_iconst (v := 1) hx hb dX1_circles_18 rfl ?_
          refine lv_isub hx hb dX1_circles_19 ?_
          refine lv_iand hx hb dX1_circles_20 ?_
          obtain ⟨j7, hj7, hf⟩ := lj_e hf
          have Hj7 : ∀ (i6 : Int32) (H : Heap) (locs : List Loc) (ls : Array Slot), va_P D vwCl (oPort C a0 a1 a2 a3 a4 a5 a6 v []) H → va_D A (oPort C a0 a1 a2 a3 a4 a5 a6 v []) → va_S A s.heap H locs → lv_has ls 3 [(2, .int i1), (1, .int i6), (0, .ref a0)] → j7 i6 = some r → W p l e (headSpec wsX1_circles (rmX1_circles)).room s m (List.toArray [Value.ref a0]) below meth c H locs 0 0 Q (F0 m 27 ls []) := by
            intro i6 H locs ls hP hD hS hl hf
            rw [hj7] at hf
            obtain ⟨t8, et8, hf⟩ := lj_e hf
            refine lv_iinc (v := t8) (lv' := [(2, .int t8), (1, .int i6), (0, .ref a0)]) hx hb dX1_circles_27 hl (k := 0) rfl (by rw [et8]; rfl) (by decide) rfl (fun ls hl => ?_)
            refine lv_goto (tgt := 4) hx hb dX1_circles_30 (by decide) ?_
            exact ih t8 i6 H locs ls hP hD hS (lv_sub hl [0, 1, 2] rfl) hf
          refine lv_if_ne (tgt := 27) hx hb dX1_circles_21 (by decide) (fun c9 => ?_) (fun c9 => ?_)
          · replace hf := if_fe c9 hf
            exact Hj7 i2 H locs ls hP hD hS (lv_sub hl [0, 1, 2] rfl) hf
          · replace hf := if_te c9 hf
            obtain ⟨t10, et10, hf⟩ := lj_e hf
            refine lv_iinc (v := t10) (lv' := [(1, .int t10), (2, .int i1), (0, .ref a0)]) hx hb dX1_circles_24 hl (k := 1) rfl (by rw [et10]; rfl) (by decide) rfl (fun ls hl => ?_)
            exact Hj7 t10 H locs ls hP hD hS (lv_sub hl [1, 0, 2] rfl) hf
    exact hL4 N 0 0 H locs ls hP hD hS (lv_sub hl [0, 1, 2] rfl) hf
  exact main _ _ hP hD hS

def rmX1_dried : Room := { frames := 0, cells := 0, slots := 0, locals := 0 }
theorem hdX1_dried : yX1_dried.cls = RX1 ∧ yX1_dried.cls ≠ "java/lang/invoke/MethodHandle" ∧ yX1_dried.cls ≠ "java/lang/invoke/VarHandle" ∧ (parseMethodDescriptor yX1_dried.desc).map (fun d => d.parameters.length) = some 0 := by decide +kernel
set_option maxHeartbeats 40000000 in
set_option maxRecDepth 100000 in
theorem c_X1_dried (l : Launch) (E : Nat → Nat) (D : va_G) (C : Nat → ClassId) (a0 a1 a2 a3 a4 a5 a6 : Nat) (sz : Nat) (N : Nat) (v : PV)  (r : Int32) (hf : f_X1_dried N v = some r) : Met l yX1_dried wsX1_dried rmX1_dried (PC E D C [.ref a0] (oPort C a0 a1 a2 a3 a4 a5 a6 v []) sz) (QI D C (oPort C a0 a1 a2 a3 a4 a5 a6 v []) (oPort C a0 a1 a2 a3 a4 a5 a6 v []) sz r) 0 0 (va_A (oPort C a0 a1 a2 a3 a4 a5 a6 v []) sz) := by
  refine Met.ofW (cc := cX1_dried) (maxL := 3) (ret := (some .int)) (by decide) rfl ?_
  intro p e s m args below meth c s₁ B hml hv
  obtain ⟨rfl, hsz, hP, hK, hD0, hE⟩ := hv
  have hx := B.exec
  have hb := B.bytes
  have hr := B.returns
  have hts := atoms_spec (ws := wsX1_dried) B.pre
  have hown : s.vm.findClass RX1 = some m.cls := findClass_of_methodNamed B.named
  have hlocks := B.notSynchronized
  subst hsz
  have hi_RX1 : ∀ w ∈ wsX10, w ∈ wsX1_dried := fun _ h => List.mem_cons_of_mem _ (List.mem_append_right _ h)
  have hD := hD0.self (sz := s.heap.size)
  obtain ⟨A, hAe⟩ := nm_ex (va_A (oPort C a0 a1 a2 a3 a4 a5 a6 v []) s.heap.size)
  rw [← hAe] at hD hE ⊢
  have hA : ∀ q : Nat, s.heap.size ≤ q → A q := fun q h => by rw [hAe]; exact Or.inr h
  have hS : va_S A s.heap s.heap [] := va_S.rf
  have hl := lv_entry ([.ref a0]) (n := 3) (Nat.le_of_ble_eq_true rfl)
  rw [lg_entry_eq]
  generalize (lg_sl ([.ref a0]) ++ List.replicate (3 - (lg_sl ([.ref a0])).length) Slot.unset).toArray = ls at hl ⊢
  have hl : lv_has ls 3 [(0, .ref a0)] := hl
  obtain ⟨Q, hQ⟩ := nm_ex (MQ below (QI D C (oPort C a0 a1 a2 a3 a4 a5 a6 v []) (oPort C a0 a1 a2 a3 a4 a5 a6 v []) s.heap.size r) (List.toArray [Value.ref a0]) s 0 0 A)
  show W p l e (headSpec wsX1_dried (rmX1_dried)).room s m (List.toArray [Value.ref a0]) below meth c s.heap [] 0 0 (MQ below (QI D C (oPort C a0 a1 a2 a3 a4 a5 a6 v []) (oPort C a0 a1 a2 a3 a4 a5 a6 v []) s.heap.size r) (List.toArray [Value.ref a0]) s 0 0 A) _
  rw [← hQ]
  unfold f_X1_dried at hf
  have main : ∀ (H : Heap) (locs : List Loc), va_P D vwCl (oPort C a0 a1 a2 a3 a4 a5 a6 v []) H → va_D A (oPort C a0 a1 a2 a3 a4 a5 a6 v []) → va_S A s.heap H locs → W p l e (headSpec wsX1_dried (rmX1_dried)).room s m (List.toArray [Value.ref a0]) below meth c H locs 0 0 Q (F0 m 0 ls []) := by
    intro H locs hP hD hS
    refine lv_iconst (v := 0) hx hb dX1_dried_0 rfl ?_
    refine lv_istore_n (lv' := [(1, .int 0), (0, .ref a0)]) hx hb dX1_dried_1 rfl hl (by decide) rfl (fun ls hl => ?_)
    refine lv_iconst (v := 0) hx hb dX1_dried_2 rfl ?_
    refine lv_istore_n (lv' := [(2, .int 0), (1, .int 0), (0, .ref a0)]) hx hb dX1_dried_3 rfl hl (by decide) rfl (fun ls hl => ?_)
    have hL4 : ∀ (n : Nat) (i1 : Int32) (i2 : Int32) (H : Heap) (locs : List Loc) (ls : Array Slot), va_P D vwCl (oPort C a0 a1 a2 a3 a4 a5 a6 v []) H → va_D A (oPort C a0 a1 a2 a3 a4 a5 a6 v []) → va_S A s.heap H locs → lv_has ls 3 [(2, .int i1), (1, .int i2), (0, .ref a0)] → f_X1_dried_L4 v n i1 i2 = some r → W p l e (headSpec wsX1_dried (rmX1_dried)).room s m (List.toArray [Value.ref a0]) below meth c H locs 0 0 Q (F0 m 4 ls []) := by
      intro n
      induction n with
      | zero =>
        intro i1 i2 H locs ls hP hD hS hl hf
        exact absurd hf (fun h => by cases h)
      | succ n ih =>
        intro i1 i2 H locs ls hP hD hS hl hf
        rw [f_X1_dried_L4] at hf
        refine lv_iload_n hx hb dX1_dried_4 rfl (lv_at hl 0 rfl) ?_
        refine lv_aload_n hx hb dX1_dried_5 rfl (lv_at hl 2 rfl) ?_
        refine va_get (D := D) (ci := 1) (v := .int (pCount v)) (C := RX1) (T := TX1) (N := 10) hx hb hts hi_RX1 hown hK hP 0 rfl rfl 6 (by decide) (hts (.fieldLink RX1 50 "TravelMarks$Port" "count" "I") (List.mem_of_getElem? (i := 1) rfl)) (fun _ h9 => h9) rfl dX1_dried_6 ?_
        refine lv_icmp_ge (tgt := 33) hx hb dX1_dried_9 (by decide) (fun c3 => ?_) (fun c3 => ?_)
        · replace hf := if_te c3 hf
          refine lv_iload_n hx hb dX1_dried_33 rfl (lv_at hl 1 rfl) ?_
          cases hf
          exact kri hQ hAe hx hb hr hlocks hP hD hK hS dX1_dried_34
        · replace hf := if_fe c3 hf
          refine lv_aload_n hx hb dX1_dried_12 rfl (lv_at hl 2 rfl) ?_
          refine va_get (D := D) (ci := 1) (v := .ref a3) (C := RX1) (T := TX1) (N := 10) hx hb hts hi_RX1 hown hK hP 0 rfl rfl 2 (by decide) (hts (.fieldLink RX1 18 "TravelMarks$Port" "ink" "[I") (List.mem_of_getElem? (i := 2) rfl)) (fun _ h9 => h9) rfl dX1_dried_13 ?_
          refine lv_iload_n hx hb dX1_dried_16 rfl (lv_at hl 0 rfl) ?_
          obtain ⟨y5, ey5, hi4, hf⟩ := rdA_x hf
          refine va_iald hx hb hK hP 3 0 rfl rfl hi4 dX1_dried_17 ?_
          refine lv_ren ey5 ?_
          obtain ⟨j7, hj7, hf⟩ := lj_e hf
          have Hj7 : ∀ (i6 : Int32) (H : Heap) (locs : List Loc) (ls : Array Slot), va_P D vwCl (oPort C a0 a1 a2 a3 a4 a5 a6 v []) H → va_D A (oPort C a0 a1 a2 a3 a4 a5 a6 v []) → va_S A s.heap H locs → lv_has ls 3 [(2, .int i1), (1, .int i6), (0, .ref a0)] → j7 i6 = some r → W p l e (headSpec wsX1_dried (rmX1_dried)).room s m (List.toArray [Value.ref a0]) below meth c H locs 0 0 Q (F0 m 27 ls []) := by
            intro i6 H locs ls hP hD hS hl hf
            rw [hj7] at hf
            obtain ⟨t8, et8, hf⟩ := lj_e hf
            refine lv_iinc (v := t8) (lv' := [(2, .int t8), (1, .int i6), (0, .ref a0)]) hx hb dX1_dried_27 hl (k := 0) rfl (by rw [et8]; rfl) (by decide) rfl (fun ls hl => ?_)
            refine lv_goto (tgt := 4) hx hb dX1_dried_30 (by decide) ?_
            exact ih t8 i6 H locs ls hP hD hS (lv_sub hl [0, 1, 2] rfl) hf
          refine lv_if_ne (tgt := 27) hx hb dX1_dried_18 (by decide) (fun c9 => ?_) (fun c9 => ?_)
          · replace hf := if_fe c9 hf
            exact Hj7 i2 H locs ls hP hD hS (lv_sub hl [0, 1, 2] rfl) hf
          · replace hf := if_te c9 hf
            refine lv_iload_n hx hb dX1_dried_21 rfl (lv_at hl 1 rfl) ?_
            refine lv_iconst (v := 1) hx hb dX1_dried_22 rfl ?_
            refine lv_iload_n hx hb dX1_dried_23 rfl (lv_at hl 0 rfl) ?_
            refine lv_ishl hx hb dX1_dried_24 ?_
            refine lv_ior hx hb dX1_dried_25 ?_
            obtain ⟨t10, et10, hf⟩ := lj_e hf
            refine lv_ren et10 ?_
            refine lv_istore_n (lv' := [(1, .int t10), (2, .int i1), (0, .ref a0)]) hx hb dX1_dried_26 rfl hl (by decide) rfl (fun ls hl => ?_)
            exact Hj7 t10 H locs ls hP hD hS (lv_sub hl [1, 0, 2] rfl) hf
    exact hL4 N 0 0 H locs ls hP hD hS (lv_sub hl [0, 1, 2] rfl) hf
  exact main _ _ hP hD hS

def rmX1_mostOnOne : Room := { frames := 1, cells := 0, slots := 0, locals := 23 }
theorem hdX1_mostOnOne : yX1_mostOnOne.cls = RX1 ∧ yX1_mostOnOne.cls ≠ "java/lang/invoke/MethodHandle" ∧ yX1_mostOnOne.cls ≠ "java/lang/invoke/VarHandle" ∧ (parseMethodDescriptor yX1_mostOnOne.desc).map (fun d => d.parameters.length) = some 0 := by decide +kernel
set_option maxHeartbeats 40000000 in
set_option maxRecDepth 100000 in
theorem c_X1_mostOnOne (l : Launch) (E : Nat → Nat) (D : va_G) (C : Nat → ClassId) (a0 a1 a2 a3 a4 a5 a6 : Nat) (sz : Nat) (N : Nat) (v : PV)  (r : Int32) (hf : f_X1_mostOnOne N v = some r) : Met l yX1_mostOnOne wsX1_mostOnOne rmX1_mostOnOne (PC E D C [.ref a0] (oPort C a0 a1 a2 a3 a4 a5 a6 v []) sz) (QI D C (oPort C a0 a1 a2 a3 a4 a5 a6 v []) (oPort C a0 a1 a2 a3 a4 a5 a6 v []) sz r) 0 0 (va_A (oPort C a0 a1 a2 a3 a4 a5 a6 v []) sz) := by
  refine Met.ofW (cc := cX1_mostOnOne) (maxL := 3) (ret := (some .int)) (by decide) rfl ?_
  intro p e s m args below meth c s₁ B hml hv
  obtain ⟨rfl, hsz, hP, hK, hD0, hE⟩ := hv
  have hx := B.exec
  have hb := B.bytes
  have hr := B.returns
  have hts := atoms_spec (ws := wsX1_mostOnOne) B.pre
  have hown : s.vm.findClass RX1 = some m.cls := findClass_of_methodNamed B.named
  have hlocks := B.notSynchronized
  subst hsz
  have hD := hD0.self (sz := s.heap.size)
  obtain ⟨A, hAe⟩ := nm_ex (va_A (oPort C a0 a1 a2 a3 a4 a5 a6 v []) s.heap.size)
  rw [← hAe] at hD hE ⊢
  have hA : ∀ q : Nat, s.heap.size ≤ q → A q := fun q h => by rw [hAe]; exact Or.inr h
  have hS : va_S A s.heap s.heap [] := va_S.rf
  have hl := lv_entry ([.ref a0]) (n := 3) (Nat.le_of_ble_eq_true rfl)
  rw [lg_entry_eq]
  generalize (lg_sl ([.ref a0]) ++ List.replicate (3 - (lg_sl ([.ref a0])).length) Slot.unset).toArray = ls at hl ⊢
  have hl : lv_has ls 3 [(0, .ref a0)] := hl
  obtain ⟨Q, hQ⟩ := nm_ex (MQ below (QI D C (oPort C a0 a1 a2 a3 a4 a5 a6 v []) (oPort C a0 a1 a2 a3 a4 a5 a6 v []) s.heap.size r) (List.toArray [Value.ref a0]) s 0 0 A)
  show W p l e (headSpec wsX1_mostOnOne (rmX1_mostOnOne)).room s m (List.toArray [Value.ref a0]) below meth c s.heap [] 0 0 (MQ below (QI D C (oPort C a0 a1 a2 a3 a4 a5 a6 v []) (oPort C a0 a1 a2 a3 a4 a5 a6 v []) s.heap.size r) (List.toArray [Value.ref a0]) s 0 0 A) _
  rw [← hQ]
  unfold f_X1_mostOnOne at hf
  have main : ∀ (H : Heap) (locs : List Loc), va_P D vwCl (oPort C a0 a1 a2 a3 a4 a5 a6 v []) H → va_D A (oPort C a0 a1 a2 a3 a4 a5 a6 v []) → va_S A s.heap H locs → W p l e (headSpec wsX1_mostOnOne (rmX1_mostOnOne)).room s m (List.toArray [Value.ref a0]) below meth c H locs 0 0 Q (F0 m 0 ls []) := by
    intro H locs hP hD hS
    refine lv_iconst (v := 0) hx hb dX1_mostOnOne_0 rfl ?_
    refine lv_istore_n (lv' := [(1, .int 0), (0, .ref a0)]) hx hb dX1_mostOnOne_1 rfl hl (by decide) rfl (fun ls hl => ?_)
    refine lv_iconst (v := 0) hx hb dX1_mostOnOne_2 rfl ?_
    refine lv_istore_n (lv' := [(2, .int 0), (1, .int 0), (0, .ref a0)]) hx hb dX1_mostOnOne_3 rfl hl (by decide) rfl (fun ls hl => ?_)
    have hL4 : ∀ (n : Nat) (i1 : Int32) (i2 : Int32) (H : Heap) (locs : List Loc) (ls : Array Slot), va_P D vwCl (oPort C a0 a1 a2 a3 a4 a5 a6 v []) H → va_D A (oPort C a0 a1 a2 a3 a4 a5 a6 v []) → va_S A s.heap H locs → lv_has ls 3 [(2, .int i1), (1, .int i2), (0, .ref a0)] → f_X1_mostOnOne_L4 N v n i1 i2 = some r → W p l e (headSpec wsX1_mostOnOne (rmX1_mostOnOne)).room s m (List.toArray [Value.ref a0]) below meth c H locs 0 0 Q (F0 m 4 ls []) := by
      intro n
      induction n with
      | zero =>
        intro i1 i2 H locs ls hP hD hS hl hf
        exact absurd hf (fun h => by cases h)
      | succ n ih =>
        intro i1 i2 H locs ls hP hD hS hl hf
        rw [f_X1_mostOnOne_L4] at hf
        refine lv_iload_n hx hb dX1_mostOnOne_4 rfl (lv_at hl 0 rfl) ?_
        refine lv_bipush (v := 8) hx hb dX1_mostOnOne_5 rfl ?_
        refine lv_icmp_ge (tgt := 26) hx hb dX1_mostOnOne_7 (by decide) (fun c3 => ?_) (fun c3 => ?_)
        · replace hf := if_te c3 hf
          refine lv_iload_n hx hb dX1_mostOnOne_26 rfl (lv_at hl 1 rfl) ?_
          cases hf
          exact kri hQ hAe hx hb hr hlocks hP hD hK hS dX1_mostOnOne_27
        · replace hf := if_fe c3 hf
          refine lv_iload_n hx hb dX1_mostOnOne_10 rfl (lv_at hl 1 rfl) ?_
          refine lv_aload_n hx hb dX1_mostOnOne_11 rfl (lv_at hl 2 rfl) ?_
          refine lv_iload_n hx hb dX1_mostOnOne_12 rfl (lv_at hl 0 rfl) ?_
          obtain ⟨r4, h5, hf⟩ := ob1_e hf
          refine kci (Wx := (oPort C a0 a1 a2 a3 a4 a5 a6 v [])) (va_runV (As := [.int i1]) (rest := [.int i2]) ⟨hx, hb, hml, hown, hts⟩ (c_X1_loadOf l E D C a0 a1 a2 a3 a4 a5 a6 H.size N v i1 r4 h5) (cwV 1 hts gX1_mostOnOne_X1_loadOf rfl rfl rfl hdX1_loadOf ⟨Nat.le_of_ble_eq_true rfl, Nat.le_of_ble_eq_true rfl⟩) (kpreV hP hD hK hS hE hA [0, 1, 2, 3, 4, 5, 6] rfl rfl 0 rfl rfl rfl) rfl rfl hl.1 rfl (lv_room (Nat.le_of_ble_eq_true rfl)) dX1_mostOnOne_13 ⟨Nat.zero_le _, Nat.zero_le _⟩) hP hD hS hA [0, 1, 2, 3, 4, 5, 6] rfl rfl rfl (fun H locs hP hD hS => ?_)
          refine va_mmax hx hb (by rw [hml]; exact hl.1.symm) hown (hts (.methodLink RX1 105 Lib.Math.max.name) (List.mem_of_getElem? (i := 1) rfl)) (hts (.static Lib.Math.max.name) (List.mem_of_getElem? (i := 2) rfl)) (hts (.initialized "java/lang/Math") (List.mem_of_getElem? (i := 3) rfl)) (hts (.code Lib.Math.max.name Lib.Math.max.code 2 (some .int)) (List.mem_of_getElem? (i := 4) rfl)) (Nat.le_of_ble_eq_true rfl) (Nat.le_of_ble_eq_true rfl) (Nat.zero_le _) (Nat.zero_le _) dX1_mostOnOne_16 ?_
          obtain ⟨t6, et6, hf⟩ := lj_e hf
          refine lv_ren et6 ?_
          refine lv_istore_n (lv' := [(1, .int t6), (2, .int i1), (0, .ref a0)]) hx hb dX1_mostOnOne_19 rfl hl (by decide) rfl (fun ls hl => ?_)
          obtain ⟨t7, et7, hf⟩ := lj_e hf
          refine lv_iinc (v := t7) (lv' := [(2, .int t7), (1, .int t6), (0, .ref a0)]) hx hb dX1_mostOnOne_20 hl (k := 1) rfl (by rw [et7]; rfl) (by decide) rfl (fun ls hl => ?_)
          refine lv_goto (tgt := 4) hx hb dX1_mostOnOne_23 (by decide) ?_
          exact ih t7 t6 H locs ls hP hD hS (lv_sub hl [0, 1, 2] rfl) hf
    exact hL4 N 0 0 H locs ls hP hD hS (lv_sub hl [0, 1, 2] rfl) hf
  exact main _ _ hP hD hS

def rmX1_hoursUntilOn : Room := { frames := 4, cells := 0, slots := 0, locals := 91 }
theorem hdX1_hoursUntilOn : yX1_hoursUntilOn.cls = RX1 ∧ yX1_hoursUntilOn.cls ≠ "java/lang/invoke/MethodHandle" ∧ yX1_hoursUntilOn.cls ≠ "java/lang/invoke/VarHandle" ∧ (parseMethodDescriptor yX1_hoursUntilOn.desc).map (fun d => d.parameters.length) = some 3 := by decide +kernel
set_option maxHeartbeats 40000000 in
set_option maxRecDepth 100000 in
theorem c_X1_hoursUntilOn (l : Launch) (E : Nat → Nat) (D : va_G) (C : Nat → ClassId) (a0 a1 a2 a3 a4 a5 a6 : Nat) (sz : Nat) (N : Nat) (v : PV) (x0 : Int32) (x1 : Int32) (x2 : Int32) (r : Int32) (v' : PV) (hf : f_X1_hoursUntilOn N v x0 x1 x2 = some (r, v')) : Met l yX1_hoursUntilOn wsX1_hoursUntilOn rmX1_hoursUntilOn (PC E D C [.ref a0, .int x0, .int x1, .int x2] (oPort C a0 a1 a2 a3 a4 a5 a6 v []) sz) (QI D C (oPort C a0 a1 a2 a3 a4 a5 a6 v []) (oPort C a0 a1 a2 a3 a4 a5 a6 (v') []) sz r) 0 0 (va_A (oPort C a0 a1 a2 a3 a4 a5 a6 v []) sz) := by
  refine Met.ofW (cc := cX1_hoursUntilOn) (maxL := 5) (ret := (some .int)) (by decide) rfl ?_
  intro p e s m args below meth c s₁ B hml hv
  obtain ⟨rfl, hsz, hP, hK, hD0, hE⟩ := hv
  have hx := B.exec
  have hb := B.bytes
  have hr := B.returns
  have hts := atoms_spec (ws := wsX1_hoursUntilOn) B.pre
  have hown : s.vm.findClass RX1 = some m.cls := findClass_of_methodNamed B.named
  have hlocks := B.notSynchronized
  subst hsz
  have hi_RX1 : ∀ w ∈ wsX10, w ∈ wsX1_hoursUntilOn := fun _ h => List.mem_cons_of_mem _ (List.mem_append_right _ h)
  have hD := hD0.self (sz := s.heap.size)
  obtain ⟨A, hAe⟩ := nm_ex (va_A (oPort C a0 a1 a2 a3 a4 a5 a6 v []) s.heap.size)
  rw [← hAe] at hD hE ⊢
  have hA : ∀ q : Nat, s.heap.size ≤ q → A q := fun q h => by rw [hAe]; exact Or.inr h
  have hS : va_S A s.heap s.heap [] := va_S.rf
  have hl := lv_entry ([.ref a0, .int x0, .int x1, .int x2]) (n := 5) (Nat.le_of_ble_eq_true rfl)
  rw [lg_entry_eq]
  generalize (lg_sl ([.ref a0, .int x0, .int x1, .int x2]) ++ List.replicate (5 - (lg_sl ([.ref a0, .int x0, .int x1, .int x2])).length) Slot.unset).toArray = ls at hl ⊢
  have hl : lv_has ls 5 [(0, .ref a0), (1, .int x0), (2, .int x1), (3, .int x2)] := hl
  obtain ⟨Q, hQ⟩ := nm_ex (MQ below (QI D C (oPort C a0 a1 a2 a3 a4 a5 a6 v []) (oPort C a0 a1 a2 a3 a4 a5 a6 (v') []) s.heap.size r) (List.toArray [Value.ref a0, Value.int x0, Value.int x1, Value.int x2]) s 0 0 A)
  show W p l e (headSpec wsX1_hoursUntilOn (rmX1_hoursUntilOn)).room s m (List.toArray [Value.ref a0, Value.int x0, Value.int x1, Value.int x2]) below meth c s.heap [] 0 0 (MQ below (QI D C (oPort C a0 a1 a2 a3 a4 a5 a6 v []) (oPort C a0 a1 a2 a3 a4 a5 a6 (v') []) s.heap.size r) (List.toArray [Value.ref a0, Value.int x0, Value.int x1, Value.int x2]) s 0 0 A) _
  rw [← hQ]
  unfold f_X1_hoursUntilOn at hf
  have main : ∀ (H : Heap) (locs : List Loc), va_P D vwCl (oPort C a0 a1 a2 a3 a4 a5 a6 v []) H → va_D A (oPort C a0 a1 a2 a3 a4 a5 a6 v []) → va_S A s.heap H locs → W p l e (headSpec wsX1_hoursUntilOn (rmX1_hoursUntilOn)).room s m (List.toArray [Value.ref a0, Value.int x0, Value.int x1, Value.int x2]) below meth c H locs 0 0 Q (F0 m 0 ls []) := by
    intro H locs hP hD hS
    refine lv_iconst (v := 0) hx hb dX1_hoursUntilOn_0 rfl ?_
    refine lv_istore (lv' := [(4, .int 0), (0, .ref a0), (1, .int x0), (2, .int x1), (3, .int x2)]) hx hb dX1_hoursUntilOn_1 hl (by decide) rfl (fun ls hl => ?_)
    have hL3 : ∀ (n : Nat) (i1 : Int32) (v2 : PV) (H : Heap) (locs : List Loc) (ls : Array Slot), va_P D vwCl (oPort C a0 a1 a2 a3 a4 a5 a6 v2 []) H → va_D A (oPort C a0 a1 a2 a3 a4 a5 a6 v2 []) → va_S A s.heap H locs → lv_has ls 5 [(4, .int i1), (0, .ref a0), (1, .int x0), (2, .int x1), (3, .int x2)] → f_X1_hoursUntilOn_L3 N x0 x1 x2 n i1 v2 = some (r, v') → W p l e (headSpec wsX1_hoursUntilOn (rmX1_hoursUntilOn)).room s m (List.toArray [Value.ref a0, Value.int x0, Value.int x1, Value.int x2]) below meth c H locs 0 0 Q (F0 m 3 ls []) := by
      intro n
      induction n with
      | zero =>
        intro i1 v2 H locs ls hP hD hS hl hf
        exact absurd hf (fun h => by cases h)
      | succ n ih =>
        intro i1 v2 H locs ls hP hD hS hl hf
        rw [f_X1_hoursUntilOn_L3] at hf
        refine lv_iload hx hb dX1_hoursUntilOn_3 (lv_at hl 0 rfl) ?_
        refine lv_iload_n hx hb dX1_hoursUntilOn_5 rfl (lv_at hl 4 rfl) ?_
        refine lv_icmp_gt (tgt := 32) hx hb dX1_hoursUntilOn_6 (by decide) (fun c3 => ?_) (fun c3 => ?_)
        · replace hf := if_te c3 hf
          refine lv_bipush (v := (-3)) hx hb dX1_hoursUntilOn_32 rfl ?_
          cases hf
          exact kri hQ hAe hx hb hr hlocks hP hD hK hS dX1_hoursUntilOn_34
        · replace hf := if_fe c3 hf
          refine lv_aload_n hx hb dX1_hoursUntilOn_9 rfl (lv_at hl 1 rfl) ?_
          refine va_get (D := D) (ci := 1) (v := .ref a4) (C := RX1) (T := TX1) (N := 10) hx hb hts hi_RX1 hown hK hP 0 rfl rfl 3 (by decide) (hts (.fieldLink RX1 21 "TravelMarks$Port" "on" "[I") (List.mem_of_getElem? (i := 1) rfl)) (fun _ h9 => h9) rfl dX1_hoursUntilOn_10 ?_
          refine lv_iload_n hx hb dX1_hoursUntilOn_13 rfl (lv_at hl 2 rfl) ?_
          obtain ⟨y5, ey5, hi4, hf⟩ := rdA_x hf
          refine va_iald hx hb hK hP 4 0 rfl rfl hi4 dX1_hoursUntilOn_14 ?_
          refine lv_ren ey5 ?_
          refine lv_iload_n hx hb dX1_hoursUntilOn_15 rfl (lv_at hl 3 rfl) ?_
          refine lv_icmp_ne (tgt := 22) hx hb dX1_hoursUntilOn_16 (by decide) (fun c6 => ?_) (fun c6 => ?_)
          · replace hf := if_fe c6 hf
            refine lv_aload_n hx hb dX1_hoursUntilOn_22 rfl (lv_at hl 1 rfl) ?_
            obtain ⟨v7, h8, hf⟩ := ob1_e hf
            refine kcv (Wx := (oPort C a0 a1 a2 a3 a4 a5 a6 v7 [])) (va_runV (As := []) (rest := []) ⟨hx, hb, hml, hown, hts⟩ (c_X1_passHour l E D C a0 a1 a2 a3 a4 a5 a6 H.size N v2 v7 h8) (cwV 0 hts gX1_hoursUntilOn_X1_passHour rfl rfl rfl hdX1_passHour ⟨Nat.le_of_ble_eq_true rfl, Nat.le_of_ble_eq_true rfl⟩) (kpreV hP hD hK hS hE hA [0, 1, 2, 3, 4, 5, 6] rfl rfl 0 rfl rfl rfl) rfl rfl hl.1 rfl (lv_room (Nat.le_of_ble_eq_true rfl)) dX1_hoursUntilOn_23 ⟨Nat.zero_le _, Nat.zero_le _⟩) hP hD hS hA [0, 1, 2, 3, 4, 5, 6] rfl rfl rfl (fun H locs hP hD hS => ?_)
            obtain ⟨t9, et9, hf⟩ := lj_e hf
            refine lv_iinc (v := t9) (lv' := [(4, .int t9), (0, .ref a0), (1, .int x0), (2, .int x1), (3, .int x2)]) hx hb dX1_hoursUntilOn_26 hl (k := 0) rfl (by rw [et9]; rfl) (by decide) rfl (fun ls hl => ?_)
            refine lv_goto (tgt := 3) hx hb dX1_hoursUntilOn_29 (by decide) ?_
            exact ih t9 v7 H locs ls hP hD hS (lv_sub hl [0, 1, 2, 3, 4] rfl) hf
          · replace hf := if_te c6 hf
            refine lv_iload hx hb dX1_hoursUntilOn_19 (lv_at hl 0 rfl) ?_
            cases hf
            exact kri hQ hAe hx hb hr hlocks hP hD hK hS dX1_hoursUntilOn_21
    exact hL3 N 0 v H locs ls hP hD hS (lv_sub hl [0, 1, 2, 3, 4] rfl) hf
  exact main _ _ hP hD hS

def rmX1_hoursUntilBare : Room := { frames := 4, cells := 0, slots := 0, locals := 91 }
theorem hdX1_hoursUntilBare : yX1_hoursUntilBare.cls = RX1 ∧ yX1_hoursUntilBare.cls ≠ "java/lang/invoke/MethodHandle" ∧ yX1_hoursUntilBare.cls ≠ "java/lang/invoke/VarHandle" ∧ (parseMethodDescriptor yX1_hoursUntilBare.desc).map (fun d => d.parameters.length) = some 2 := by decide +kernel
set_option maxHeartbeats 40000000 in
set_option maxRecDepth 100000 in
theorem c_X1_hoursUntilBare (l : Launch) (E : Nat → Nat) (D : va_G) (C : Nat → ClassId) (a0 a1 a2 a3 a4 a5 a6 : Nat) (sz : Nat) (N : Nat) (v : PV) (x0 : Int32) (x1 : Int32) (r : Int32) (v' : PV) (hf : f_X1_hoursUntilBare N v x0 x1 = some (r, v')) : Met l yX1_hoursUntilBare wsX1_hoursUntilBare rmX1_hoursUntilBare (PC E D C [.ref a0, .int x0, .int x1] (oPort C a0 a1 a2 a3 a4 a5 a6 v []) sz) (QI D C (oPort C a0 a1 a2 a3 a4 a5 a6 v []) (oPort C a0 a1 a2 a3 a4 a5 a6 (v') []) sz r) 0 0 (va_A (oPort C a0 a1 a2 a3 a4 a5 a6 v []) sz) := by
  refine Met.ofW (cc := cX1_hoursUntilBare) (maxL := 4) (ret := (some .int)) (by decide) rfl ?_
  intro p e s m args below meth c s₁ B hml hv
  obtain ⟨rfl, hsz, hP, hK, hD0, hE⟩ := hv
  have hx := B.exec
  have hb := B.bytes
  have hr := B.returns
  have hts := atoms_spec (ws := wsX1_hoursUntilBare) B.pre
  have hown : s.vm.findClass RX1 = some m.cls := findClass_of_methodNamed B.named
  have hlocks := B.notSynchronized
  subst hsz
  have hD := hD0.self (sz := s.heap.size)
  obtain ⟨A, hAe⟩ := nm_ex (va_A (oPort C a0 a1 a2 a3 a4 a5 a6 v []) s.heap.size)
  rw [← hAe] at hD hE ⊢
  have hA : ∀ q : Nat, s.heap.size ≤ q → A q := fun q h => by rw [hAe]; exact Or.inr h
  have hS : va_S A s.heap s.heap [] := va_S.rf
  have hl := lv_entry ([.ref a0, .int x0, .int x1]) (n := 4) (Nat.le_of_ble_eq_true rfl)
  rw [lg_entry_eq]
  generalize (lg_sl ([.ref a0, .int x0, .int x1]) ++ List.replicate (4 - (lg_sl ([.ref a0, .int x0, .int x1])).length) Slot.unset).toArray = ls at hl ⊢
  have hl : lv_has ls 4 [(0, .ref a0), (1, .int x0), (2, .int x1)] := hl
  obtain ⟨Q, hQ⟩ := nm_ex (MQ below (QI D C (oPort C a0 a1 a2 a3 a4 a5 a6 v []) (oPort C a0 a1 a2 a3 a4 a5 a6 (v') []) s.heap.size r) (List.toArray [Value.ref a0, Value.int x0, Value.int x1]) s 0 0 A)
  show W p l e (headSpec wsX1_hoursUntilBare (rmX1_hoursUntilBare)).room s m (List.toArray [Value.ref a0, Value.int x0, Value.int x1]) below meth c s.heap [] 0 0 (MQ below (QI D C (oPort C a0 a1 a2 a3 a4 a5 a6 v []) (oPort C a0 a1 a2 a3 a4 a5 a6 (v') []) s.heap.size r) (List.toArray [Value.ref a0, Value.int x0, Value.int x1]) s 0 0 A) _
  rw [← hQ]
  unfold f_X1_hoursUntilBare at hf
  have main : ∀ (H : Heap) (locs : List Loc), va_P D vwCl (oPort C a0 a1 a2 a3 a4 a5 a6 v []) H → va_D A (oPort C a0 a1 a2 a3 a4 a5 a6 v []) → va_S A s.heap H locs → W p l e (headSpec wsX1_hoursUntilBare (rmX1_hoursUntilBare)).room s m (List.toArray [Value.ref a0, Value.int x0, Value.int x1]) below meth c H locs 0 0 Q (F0 m 0 ls []) := by
    intro H locs hP hD hS
    refine lv_iconst (v := 0) hx hb dX1_hoursUntilBare_0 rfl ?_
    refine lv_istore_n (lv' := [(3, .int 0), (0, .ref a0), (1, .int x0), (2, .int x1)]) hx hb dX1_hoursUntilBare_1 rfl hl (by decide) rfl (fun ls hl => ?_)
    have hL2 : ∀ (n : Nat) (i1 : Int32) (v2 : PV) (H : Heap) (locs : List Loc) (ls : Array Slot), va_P D vwCl (oPort C a0 a1 a2 a3 a4 a5 a6 v2 []) H → va_D A (oPort C a0 a1 a2 a3 a4 a5 a6 v2 []) → va_S A s.heap H locs → lv_has ls 4 [(3, .int i1), (0, .ref a0), (1, .int x0), (2, .int x1)] → f_X1_hoursUntilBare_L2 N x0 x1 n i1 v2 = some (r, v') → W p l e (headSpec wsX1_hoursUntilBare (rmX1_hoursUntilBare)).room s m (List.toArray [Value.ref a0, Value.int x0, Value.int x1]) below meth c H locs 0 0 Q (F0 m 2 ls []) := by
      intro n
      induction n with
      | zero =>
        intro i1 v2 H locs ls hP hD hS hl hf
        exact absurd hf (fun h => by cases h)
      | succ n ih =>
        intro i1 v2 H locs ls hP hD hS hl hf
        rw [f_X1_hoursUntilBare_L2] at hf
        refine lv_iload_n hx hb dX1_hoursUntilBare_2 rfl (lv_at hl 0 rfl) ?_
        refine lv_iload_n hx hb dX1_hoursUntilBare_3 rfl (lv_at hl 3 rfl) ?_
        refine lv_icmp_gt (tgt := 27) hx hb dX1_hoursUntilBare_4 (by decide) (fun c3 => ?_) (fun c3 => ?_)
        · replace hf := if_te c3 hf
          refine lv_bipush (v := (-3)) hx hb dX1_hoursUntilBare_27 rfl ?_
          cases hf
          exact kri hQ hAe hx hb hr hlocks hP hD hK hS dX1_hoursUntilBare_29
        · replace hf := if_fe c3 hf
          refine lv_aload_n hx hb dX1_hoursUntilBare_7 rfl (lv_at hl 1 rfl) ?_
          refine lv_iload_n hx hb dX1_hoursUntilBare_8 rfl (lv_at hl 2 rfl) ?_
          obtain ⟨r4, h5, hf⟩ := ob1_e hf
          refine kci (Wx := (oPort C a0 a1 a2 a3 a4 a5 a6 v2 [])) (va_runV (As := [.int x0]) (rest := []) ⟨hx, hb, hml, hown, hts⟩ (c_X1_marksOn l E D C a0 a1 a2 a3 a4 a5 a6 H.size N v2 x0 r4 h5) (cwV 1 hts gX1_hoursUntilBare_X1_marksOn rfl rfl rfl hdX1_marksOn ⟨Nat.le_of_ble_eq_true rfl, Nat.le_of_ble_eq_true rfl⟩) (kpreV hP hD hK hS hE hA [0, 1, 2, 3, 4, 5, 6] rfl rfl 0 rfl rfl rfl) rfl rfl hl.1 rfl (lv_room (Nat.le_of_ble_eq_true rfl)) dX1_hoursUntilBare_9 ⟨Nat.zero_le _, Nat.zero_le _⟩) hP hD hS hA [0, 1, 2, 3, 4, 5, 6] rfl rfl rfl (fun H locs hP hD hS => ?_)
          refine lv_if_ne (tgt := 17) hx hb dX1_hoursUntilBare_12 (by decide) (fun c6 => ?_) (fun c6 => ?_)
          · replace hf := if_fe c6 hf
            refine lv_aload_n hx hb dX1_hoursUntilBare_17 rfl (lv_at hl 1 rfl) ?_
            obtain ⟨v7, h8, hf⟩ := ob1_e hf
            refine kcv (Wx := (oPort C a0 a1 a2 a3 a4 a5 a6 v7 [])) (va_runV (As := []) (rest := []) ⟨hx, hb, hml, hown, hts⟩ (c_X1_passHour l E D C a0 a1 a2 a3 a4 a5 a6 H.size N v2 v7 h8) (cwV 0 hts gX1_hoursUntilBare_X1_passHour rfl rfl rfl hdX1_passHour ⟨Nat.le_of_ble_eq_true rfl, Nat.le_of_ble_eq_true rfl⟩) (kpreV hP hD hK hS hE hA [0, 1, 2, 3, 4, 5, 6] rfl rfl 0 rfl rfl rfl) rfl rfl hl.1 rfl (lv_room (Nat.le_of_ble_eq_true rfl)) dX1_hoursUntilBare_18 ⟨Nat.zero_le _, Nat.zero_le _⟩) hP hD hS hA [0, 1, 2, 3, 4, 5, 6] rfl rfl rfl (fun H locs hP hD hS => ?_)
            obtain ⟨t9, et9, hf⟩ := lj_e hf
            refine lv_iinc (v := t9) (lv' := [(3, .int t9), (0, .ref a0), (1, .int x0), (2, .int x1)]) hx hb dX1_hoursUntilBare_21 hl (k := 0) rfl (by rw [et9]; rfl) (by decide) rfl (fun ls hl => ?_)
            refine lv_goto (tgt := 2) hx hb dX1_hoursUntilBare_24 (by decide) ?_
            exact ih t9 v7 H locs ls hP hD hS (lv_sub hl [0, 1, 2, 3] rfl) hf
          · replace hf := if_te c6 hf
            refine lv_iload_n hx hb dX1_hoursUntilBare_15 rfl (lv_at hl 0 rfl) ?_
            cases hf
            exact kri hQ hAe hx hb hr hlocks hP hD hK hS dX1_hoursUntilBare_16
    exact hL2 N 0 v H locs ls hP hD hS (lv_sub hl [0, 1, 2, 3] rfl) hf
  exact main _ _ hP hD hS

def rmX1_hoursUntilDry : Room := { frames := 4, cells := 0, slots := 0, locals := 91 }
theorem hdX1_hoursUntilDry : yX1_hoursUntilDry.cls = RX1 ∧ yX1_hoursUntilDry.cls ≠ "java/lang/invoke/MethodHandle" ∧ yX1_hoursUntilDry.cls ≠ "java/lang/invoke/VarHandle" ∧ (parseMethodDescriptor yX1_hoursUntilDry.desc).map (fun d => d.parameters.length) = some 1 := by decide +kernel
set_option maxHeartbeats 40000000 in
set_option maxRecDepth 100000 in
theorem c_X1_hoursUntilDry (l : Launch) (E : Nat → Nat) (D : va_G) (C : Nat → ClassId) (a0 a1 a2 a3 a4 a5 a6 : Nat) (sz : Nat) (N : Nat) (v : PV) (x0 : Int32) (r : Int32) (v' : PV) (hf : f_X1_hoursUntilDry N v x0 = some (r, v')) : Met l yX1_hoursUntilDry wsX1_hoursUntilDry rmX1_hoursUntilDry (PC E D C [.ref a0, .int x0] (oPort C a0 a1 a2 a3 a4 a5 a6 v []) sz) (QI D C (oPort C a0 a1 a2 a3 a4 a5 a6 v []) (oPort C a0 a1 a2 a3 a4 a5 a6 (v') []) sz r) 0 0 (va_A (oPort C a0 a1 a2 a3 a4 a5 a6 v []) sz) := by
  refine Met.ofW (cc := cX1_hoursUntilDry) (maxL := 3) (ret := (some .int)) (by decide) rfl ?_
  intro p e s m args below meth c s₁ B hml hv
  obtain ⟨rfl, hsz, hP, hK, hD0, hE⟩ := hv
  have hx := B.exec
  have hb := B.bytes
  have hr := B.returns
  have hts := atoms_spec (ws := wsX1_hoursUntilDry) B.pre
  have hown : s.vm.findClass RX1 = some m.cls := findClass_of_methodNamed B.named
  have hlocks := B.notSynchronized
  subst hsz
  have hD := hD0.self (sz := s.heap.size)
  obtain ⟨A, hAe⟩ := nm_ex (va_A (oPort C a0 a1 a2 a3 a4 a5 a6 v []) s.heap.size)
  rw [← hAe] at hD hE ⊢
  have hA : ∀ q : Nat, s.heap.size ≤ q → A q := fun q h => by rw [hAe]; exact Or.inr h
  have hS : va_S A s.heap s.heap [] := va_S.rf
  have hl := lv_entry ([.ref a0, .int x0]) (n := 3) (Nat.le_of_ble_eq_true rfl)
  rw [lg_entry_eq]
  generalize (lg_sl ([.ref a0, .int x0]) ++ List.replicate (3 - (lg_sl ([.ref a0, .int x0])).length) Slot.unset).toArray = ls at hl ⊢
  have hl : lv_has ls 3 [(0, .ref a0), (1, .int x0)] := hl
  obtain ⟨Q, hQ⟩ := nm_ex (MQ below (QI D C (oPort C a0 a1 a2 a3 a4 a5 a6 v []) (oPort C a0 a1 a2 a3 a4 a5 a6 (v') []) s.heap.size r) (List.toArray [Value.ref a0, Value.int x0]) s 0 0 A)
  show W p l e (headSpec wsX1_hoursUntilDry (rmX1_hoursUntilDry)).room s m (List.toArray [Value.ref a0, Value.int x0]) below meth c s.heap [] 0 0 (MQ below (QI D C (oPort C a0 a1 a2 a3 a4 a5 a6 v []) (oPort C a0 a1 a2 a3 a4 a5 a6 (v') []) s.heap.size r) (List.toArray [Value.ref a0, Value.int x0]) s 0 0 A) _
  rw [← hQ]
  unfold f_X1_hoursUntilDry at hf
  have main : ∀ (H : Heap) (locs : List Loc), va_P D vwCl (oPort C a0 a1 a2 a3 a4 a5 a6 v []) H → va_D A (oPort C a0 a1 a2 a3 a4 a5 a6 v []) → va_S A s.heap H locs → W p l e (headSpec wsX1_hoursUntilDry (rmX1_hoursUntilDry)).room s m (List.toArray [Value.ref a0, Value.int x0]) below meth c H locs 0 0 Q (F0 m 0 ls []) := by
    intro H locs hP hD hS
    refine lv_iconst (v := 0) hx hb dX1_hoursUntilDry_0 rfl ?_
    refine lv_istore_n (lv' := [(2, .int 0), (0, .ref a0), (1, .int x0)]) hx hb dX1_hoursUntilDry_1 rfl hl (by decide) rfl (fun ls hl => ?_)
    have hL2 : ∀ (n : Nat) (i1 : Int32) (v2 : PV) (H : Heap) (locs : List Loc) (ls : Array Slot), va_P D vwCl (oPort C a0 a1 a2 a3 a4 a5 a6 v2 []) H → va_D A (oPort C a0 a1 a2 a3 a4 a5 a6 v2 []) → va_S A s.heap H locs → lv_has ls 3 [(2, .int i1), (0, .ref a0), (1, .int x0)] → f_X1_hoursUntilDry_L2 N x0 n i1 v2 = some (r, v') → W p l e (headSpec wsX1_hoursUntilDry (rmX1_hoursUntilDry)).room s m (List.toArray [Value.ref a0, Value.int x0]) below meth c H locs 0 0 Q (F0 m 2 ls []) := by
      intro n
      induction n with
      | zero =>
        intro i1 v2 H locs ls hP hD hS hl hf
        exact absurd hf (fun h => by cases h)
      | succ n ih =>
        intro i1 v2 H locs ls hP hD hS hl hf
        rw [f_X1_hoursUntilDry_L2] at hf
        refine lv_iload_n hx hb dX1_hoursUntilDry_2 rfl (lv_at hl 0 rfl) ?_
        refine lv_iload_n hx hb dX1_hoursUntilDry_3 rfl (lv_at hl 2 rfl) ?_
        refine lv_icmp_gt (tgt := 26) hx hb dX1_hoursUntilDry_4 (by decide) (fun c3 => ?_) (fun c3 => ?_)
        · replace hf := if_te c3 hf
          refine lv_bipush (v := (-3)) hx hb dX1_hoursUntilDry_26 rfl ?_
          cases hf
          exact kri hQ hAe hx hb hr hlocks hP hD hK hS dX1_hoursUntilDry_28
        · replace hf := if_fe c3 hf
          refine lv_aload_n hx hb dX1_hoursUntilDry_7 rfl (lv_at hl 1 rfl) ?_
          obtain ⟨r4, h5, hf⟩ := ob1_e hf
          refine kci (Wx := (oPort C a0 a1 a2 a3 a4 a5 a6 v2 [])) (va_runV (As := []) (rest := []) ⟨hx, hb, hml, hown, hts⟩ (c_X1_allInk l E D C a0 a1 a2 a3 a4 a5 a6 H.size N v2 r4 h5) (cwV 0 hts gX1_hoursUntilDry_X1_allInk rfl rfl rfl hdX1_allInk ⟨Nat.le_of_ble_eq_true rfl, Nat.le_of_ble_eq_true rfl⟩) (kpreV hP hD hK hS hE hA [0, 1, 2, 3, 4, 5, 6] rfl rfl 0 rfl rfl rfl) rfl rfl hl.1 rfl (lv_room (Nat.le_of_ble_eq_true rfl)) dX1_hoursUntilDry_8 ⟨Nat.zero_le _, Nat.zero_le _⟩) hP hD hS hA [0, 1, 2, 3, 4, 5, 6] rfl rfl rfl (fun H locs hP hD hS => ?_)
          refine lv_if_ne (tgt := 16) hx hb dX1_hoursUntilDry_11 (by decide) (fun c6 => ?_) (fun c6 => ?_)
          · replace hf := if_fe c6 hf
            refine lv_aload_n hx hb dX1_hoursUntilDry_16 rfl (lv_at hl 1 rfl) ?_
            obtain ⟨v7, h8, hf⟩ := ob1_e hf
            refine kcv (Wx := (oPort C a0 a1 a2 a3 a4 a5 a6 v7 [])) (va_runV (As := []) (rest := []) ⟨hx, hb, hml, hown, hts⟩ (c_X1_passHour l E D C a0 a1 a2 a3 a4 a5 a6 H.size N v2 v7 h8) (cwV 0 hts gX1_hoursUntilDry_X1_passHour rfl rfl rfl hdX1_passHour ⟨Nat.le_of_ble_eq_true rfl, Nat.le_of_ble_eq_true rfl⟩) (kpreV hP hD hK hS hE hA [0, 1, 2, 3, 4, 5, 6] rfl rfl 0 rfl rfl rfl) rfl rfl hl.1 rfl (lv_room (Nat.le_of_ble_eq_true rfl)) dX1_hoursUntilDry_17 ⟨Nat.zero_le _, Nat.zero_le _⟩) hP hD hS hA [0, 1, 2, 3, 4, 5, 6] rfl rfl rfl (fun H locs hP hD hS => ?_)
            obtain ⟨t9, et9, hf⟩ := lj_e hf
            refine lv_iinc (v := t9) (lv' := [(2, .int t9), (0, .ref a0), (1, .int x0)]) hx hb dX1_hoursUntilDry_20 hl (k := 0) rfl (by rw [et9]; rfl) (by decide) rfl (fun ls hl => ?_)
            refine lv_goto (tgt := 2) hx hb dX1_hoursUntilDry_23 (by decide) ?_
            exact ih t9 v7 H locs ls hP hD hS (lv_sub hl [0, 1, 2] rfl) hf
          · replace hf := if_te c6 hf
            refine lv_iload_n hx hb dX1_hoursUntilDry_14 rfl (lv_at hl 0 rfl) ?_
            cases hf
            exact kri hQ hAe hx hb hr hlocks hP hD hK hS dX1_hoursUntilDry_15
    exact hL2 N 0 v H locs ls hP hD hS (lv_sub hl [0, 1, 2] rfl) hf
  exact main _ _ hP hD hS

def rmX5_isSheet : Room := { frames := 1, cells := 0, slots := 0, locals := 22 }
theorem hdX5_isSheet : yX5_isSheet.cls ≠ "java/lang/invoke/MethodHandle" ∧ yX5_isSheet.cls ≠ "java/lang/invoke/VarHandle" ∧ (parseMethodDescriptor yX5_isSheet.desc).map (fun d => d.parameters.length) = some 1 := by decide +kernel
set_option maxHeartbeats 40000000 in
set_option maxRecDepth 100000 in
theorem c_X5_isSheet (l : Launch) (E : Nat → Nat) (D : va_G) (C : Nat → ClassId) (sz : Nat)  (x0 : Int32) (r : Int32) (hf : f_X5_isSheet x0 = r) : Met l yX5_isSheet wsX5_isSheet rmX5_isSheet (PC E D C [.int x0] [] sz) (QZ D C [] [] sz r) 0 0 (va_A [] sz) := by
  refine Met.ofW (cc := cX5_isSheet) (maxL := 1) (ret := (some .boolean)) (by decide) rfl ?_
  intro p e s m args below meth c s₁ B hml hv
  obtain ⟨rfl, hsz, hP, hK, hD0, hE⟩ := hv
  have hx := B.exec
  have hb := B.bytes
  have hr := B.returns
  have hts := atoms_spec (ws := wsX5_isSheet) B.pre
  have hown : s.vm.findClass RX5 = some m.cls := findClass_of_methodNamed B.named
  have hlocks := B.notSynchronized
  subst hsz
  have hD := hD0.self (sz := s.heap.size)
  obtain ⟨A, hAe⟩ := nm_ex (va_A [] s.heap.size)
  rw [← hAe] at hD hE ⊢
  have hA : ∀ q : Nat, s.heap.size ≤ q → A q := fun q h => by rw [hAe]; exact Or.inr h
  have hS : va_S A s.heap s.heap [] := va_S.rf
  have hl := lv_entry ([.int x0]) (n := 1) (Nat.le_of_ble_eq_true rfl)
  rw [lg_entry_eq]
  generalize (lg_sl ([.int x0]) ++ List.replicate (1 - (lg_sl ([.int x0])).length) Slot.unset).toArray = ls at hl ⊢
  have hl : lv_has ls 1 [(0, .int x0)] := hl
  obtain ⟨Q, hQ⟩ := nm_ex (MQ below (QZ D C [] [] s.heap.size r) (List.toArray [Value.int x0]) s 0 0 A)
  show W p l e (headSpec wsX5_isSheet (rmX5_isSheet)).room s m (List.toArray [Value.int x0]) below meth c s.heap [] 0 0 (MQ below (QZ D C [] [] s.heap.size r) (List.toArray [Value.int x0]) s 0 0 A) _
  rw [← hQ]
  unfold f_X5_isSheet at hf
  have main : ∀ (H : Heap) (locs : List Loc), va_P D vwCl [] H → va_D A [] → va_S A s.heap H locs → W p l e (headSpec wsX5_isSheet (rmX5_isSheet)).room s m (List.toArray [Value.int x0]) below meth c H locs 0 0 Q (F0 m 0 ls []) := by
    intro H locs hP hD hS
    refine lv_iload_n hx hb dX5_isSheet_0 rfl (lv_at hl 0 rfl) ?_
    refine lv_iconst (v := 0) hx hb dX5_isSheet_1 rfl ?_
    refine lv_iconst (v := 3) hx hb dX5_isSheet_2 rfl ?_
    refine kcz (Wx := []) (va_runS (As := [.int x0, .int 0, .int 3]) (rest := []) ⟨hx, hb, hml, hown, hts⟩ (c_X5_within l E D C H.size x0 0 3 _ rfl) (va_cwS 3 hts gX5_isSheet_X5_within rfl rfl rfl hdX5_within ⟨Nat.le_of_ble_eq_true rfl, Nat.le_of_ble_eq_true rfl⟩) (kpre hP hD hK hS hE hA [] rfl rfl) rfl rfl hl.1 rfl (lv_room (Nat.le_of_ble_eq_true rfl)) dX5_isSheet_3 ⟨Nat.zero_le _, Nat.zero_le _⟩) hP hD hS hA [] rfl rfl rfl (fun H locs hz1 hP hD hS => ?_)
    cases hf
    exact krz hQ hAe hx hb hr hlocks hz1 hP hD hK hS dX5_isSheet_6
  exact main _ _ hP hD hS

def rmX1_rowPart : Room := { frames := 1, cells := 0, slots := 0, locals := 21 }
theorem hdX1_rowPart : yX1_rowPart.cls = RX1 ∧ yX1_rowPart.cls ≠ "java/lang/invoke/MethodHandle" ∧ yX1_rowPart.cls ≠ "java/lang/invoke/VarHandle" ∧ (parseMethodDescriptor yX1_rowPart.desc).map (fun d => d.parameters.length) = some 2 := by decide +kernel
set_option maxHeartbeats 40000000 in
set_option maxRecDepth 100000 in
theorem c_X1_rowPart (l : Launch) (E : Nat → Nat) (D : va_G) (C : Nat → ClassId) (a0 a1 a2 a3 a4 a5 a6 : Nat) (sz : Nat) (v : PV) (x0 : Int32) (x1 : Int32) (r : Int32) (hf : f_X1_rowPart v x0 x1 = some r) : Met l yX1_rowPart wsX1_rowPart rmX1_rowPart (PC E D C [.ref a0, .int x0, .int x1] (oPort C a0 a1 a2 a3 a4 a5 a6 v []) sz) (QI D C (oPort C a0 a1 a2 a3 a4 a5 a6 v []) (oPort C a0 a1 a2 a3 a4 a5 a6 v []) sz r) 0 0 (va_A (oPort C a0 a1 a2 a3 a4 a5 a6 v []) sz) := by
  refine Met.ofW (cc := cX1_rowPart) (maxL := 3) (ret := (some .int)) (by decide) rfl ?_
  intro p e s m args below meth c s₁ B hml hv
  obtain ⟨rfl, hsz, hP, hK, hD0, hE⟩ := hv
  have hx := B.exec
  have hb := B.bytes
  have hr := B.returns
  have hts := atoms_spec (ws := wsX1_rowPart) B.pre
  have hown : s.vm.findClass RX1 = some m.cls := findClass_of_methodNamed B.named
  have hlocks := B.notSynchronized
  subst hsz
  have hi_RX1 : ∀ w ∈ wsX10, w ∈ wsX1_rowPart := fun _ h => List.mem_cons_of_mem _ (List.mem_append_right _ h)
  have hD := hD0.self (sz := s.heap.size)
  obtain ⟨A, hAe⟩ := nm_ex (va_A (oPort C a0 a1 a2 a3 a4 a5 a6 v []) s.heap.size)
  rw [← hAe] at hD hE ⊢
  have hA : ∀ q : Nat, s.heap.size ≤ q → A q := fun q h => by rw [hAe]; exact Or.inr h
  have hS : va_S A s.heap s.heap [] := va_S.rf
  have hl := lv_entry ([.ref a0, .int x0, .int x1]) (n := 3) (Nat.le_of_ble_eq_true rfl)
  rw [lg_entry_eq]
  generalize (lg_sl ([.ref a0, .int x0, .int x1]) ++ List.replicate (3 - (lg_sl ([.ref a0, .int x0, .int x1])).length) Slot.unset).toArray = ls at hl ⊢
  have hl : lv_has ls 3 [(0, .ref a0), (1, .int x0), (2, .int x1)] := hl
  obtain ⟨Q, hQ⟩ := nm_ex (MQ below (QI D C (oPort C a0 a1 a2 a3 a4 a5 a6 v []) (oPort C a0 a1 a2 a3 a4 a5 a6 v []) s.heap.size r) (List.toArray [Value.ref a0, Value.int x0, Value.int x1]) s 0 0 A)
  show W p l e (headSpec wsX1_rowPart (rmX1_rowPart)).room s m (List.toArray [Value.ref a0, Value.int x0, Value.int x1]) below meth c s.heap [] 0 0 (MQ below (QI D C (oPort C a0 a1 a2 a3 a4 a5 a6 v []) (oPort C a0 a1 a2 a3 a4 a5 a6 v []) s.heap.size r) (List.toArray [Value.ref a0, Value.int x0, Value.int x1]) s 0 0 A) _
  rw [← hQ]
  unfold f_X1_rowPart at hf
  have main : ∀ (H : Heap) (locs : List Loc), va_P D vwCl (oPort C a0 a1 a2 a3 a4 a5 a6 v []) H → va_D A (oPort C a0 a1 a2 a3 a4 a5 a6 v []) → va_S A s.heap H locs → W p l e (headSpec wsX1_rowPart (rmX1_rowPart)).room s m (List.toArray [Value.ref a0, Value.int x0, Value.int x1]) below meth c H locs 0 0 Q (F0 m 0 ls []) := by
    intro H locs hP hD hS
    refine lv_iload_n hx hb dX1_rowPart_0 rfl (lv_at hl 2 rfl) ?_
    by_cases c1 : x1 = 0
    · replace hf := if_te c1 hf
      refine lv_lookup (x := x1) (tgt := 28) (off := 27) hx hb dX1_rowPart_1 (by decide) (by rw [c1]; try rfl) (by decide) ?_
      refine lv_aload_n hx hb dX1_rowPart_28 rfl (lv_at hl 0 rfl) ?_
      refine va_get (D := D) (ci := 1) (v := .ref a4) (C := RX1) (T := TX1) (N := 10) hx hb hts hi_RX1 hown hK hP 0 rfl rfl 3 (by decide) (hts (.fieldLink RX1 21 "TravelMarks$Port" "on" "[I") (List.mem_of_getElem? (i := 1) rfl)) (fun _ h9 => h9) rfl dX1_rowPart_29 ?_
      refine lv_iload_n hx hb dX1_rowPart_32 rfl (lv_at hl 1 rfl) ?_
      obtain ⟨y3, ey3, hi2, hf⟩ := rdA_x hf
      refine va_iald hx hb hK hP 4 0 rfl rfl hi2 dX1_rowPart_33 ?_
      refine lv_ren ey3 ?_
      cases hf
      exact kri hQ hAe hx hb hr hlocks hP hD hK hS dX1_rowPart_34
    replace hf := if_fe c1 hf
    by_cases c4 : x1 = 1
    · replace hf := if_te c4 hf
      refine lv_lookup (x := x1) (tgt := 35) (off := 34) hx hb dX1_rowPart_1 (by decide) (by rw [c4]; try rfl) (by decide) ?_
      refine lv_aload_n hx hb dX1_rowPart_35 rfl (lv_at hl 0 rfl) ?_
      refine va_get (D := D) (ci := 1) (v := .ref a3) (C := RX1) (T := TX1) (N := 10) hx hb hts hi_RX1 hown hK hP 0 rfl rfl 2 (by decide) (hts (.fieldLink RX1 18 "TravelMarks$Port" "ink" "[I") (List.mem_of_getElem? (i := 2) rfl)) (fun _ h9 => h9) rfl dX1_rowPart_36 ?_
      refine lv_iload_n hx hb dX1_rowPart_39 rfl (lv_at hl 1 rfl) ?_
      obtain ⟨y6, ey6, hi5, hf⟩ := rdA_x hf
      refine va_iald hx hb hK hP 3 0 rfl rfl hi5 dX1_rowPart_40 ?_
      refine lv_ren ey6 ?_
      cases hf
      exact kri hQ hAe hx hb hr hlocks hP hD hK hS dX1_rowPart_41
    replace hf := if_fe c4 hf
    refine lv_lookup (x := x1) (tgt := 42) (off := 41) hx hb dX1_rowPart_1 (by decide) (by rw [lv_osw c1 (by decide)]; rw [lv_osw c4 (by decide)]; try rfl) (by decide) ?_
    refine lv_aload_n hx hb dX1_rowPart_42 rfl (lv_at hl 0 rfl) ?_
    refine va_get (D := D) (ci := 1) (v := .int (pWent v)) (C := RX1) (T := TX1) (N := 10) hx hb hts hi_RX1 hown hK hP 0 rfl rfl 9 (by decide) (hts (.fieldLink RX1 66 "TravelMarks$Port" "went" "I") (List.mem_of_getElem? (i := 3) rfl)) (fun _ h9 => h9) rfl dX1_rowPart_43 ?_
    refine lv_iload_n hx hb dX1_rowPart_46 rfl (lv_at hl 1 rfl) ?_
    refine kcz (Wx := (oPort C a0 a1 a2 a3 a4 a5 a6 v [])) (va_runSN (As := [.int (pWent v), .int x0]) (rest := []) ⟨hx, hb, hml, hown, hts⟩ (c_X5_has l E D C H.size (pWent v) x0 _ rfl) ⟨va_cnB 2 hts gX1_rowPart_X5_has_n88 rfl rfl rfl (hE.1.2 _ (List.mem_of_getElem? (i := 2) rfl)) (hts (.initialized RX5) (List.mem_of_getElem? (i := 5) rfl)) hdX5_has ⟨Nat.le_of_ble_eq_true rfl, Nat.le_of_ble_eq_true rfl⟩, (hts (.static yX5_has) (List.mem_of_getElem? (i := 4) rfl)), trivial⟩ (kpre hP hD hK hS hE hA [] rfl rfl) rfl rfl hl.1 rfl (lv_room (Nat.le_of_ble_eq_true rfl)) dX1_rowPart_47 ⟨Nat.zero_le _, Nat.zero_le _⟩) hP hD hS hA [] rfl rfl rfl (fun H locs hz7 hP hD hS => ?_)
    refine lv_if_eq (tgt := 57) hx hb dX1_rowPart_50 (by decide) (fun c8 => ?_) (fun c8 => ?_)
    · replace hf := if_te c8 hf
      refine lv_iconst (v := 0) hx hb dX1_rowPart_57 rfl ?_
      cases hf
      exact kri hQ hAe hx hb hr hlocks hP hD hK hS dX1_rowPart_58
    · replace hf := if_fe c8 hf
      refine lv_iconst (v := 1) hx hb dX1_rowPart_53 rfl ?_
      refine lv_goto (tgt := 58) hx hb dX1_rowPart_54 (by decide) ?_
      cases hf
      exact kri hQ hAe hx hb hr hlocks hP hD hK hS dX1_rowPart_58
  exact main _ _ hP hD hS

def rmX2_become : Room := { frames := 0, cells := 0, slots := 0, locals := 0 }
theorem hdX2_become : yX2_become.cls = RX2 ∧ yX2_become.cls ≠ "java/lang/invoke/MethodHandle" ∧ yX2_become.cls ≠ "java/lang/invoke/VarHandle" ∧ (parseMethodDescriptor yX2_become.desc).map (fun d => d.parameters.length) = some 2 := by decide +kernel
set_option maxHeartbeats 40000000 in
set_option maxRecDepth 100000 in
theorem c_X2_become (l : Launch) (E : Nat → Nat) (D : va_G) (C : Nat → ClassId) (a0 a1 : Nat) (sz : Nat) (N : Nat) (v : HV) (x0 : Int32) (x1 : Int32) (v' : HV) (hf : f_X2_become N v x0 x1 = some v') : Met l yX2_become wsX2_become rmX2_become (PC E D C [.ref a0, .int x0, .int x1] (oSheet C a0 a1 v []) sz) (QV D C (oSheet C a0 a1 v []) (oSheet C a0 a1 (v') []) sz) 0 0 (va_A (oSheet C a0 a1 v []) sz) := by
  refine Met.ofW (cc := cX2_become) (maxL := 4) (ret := none) (by decide) rfl ?_
  intro p e s m args below meth c s₁ B hml hv
  obtain ⟨rfl, hsz, hP, hK, hD0, hE⟩ := hv
  have hx := B.exec
  have hb := B.bytes
  have hr := B.returns
  have hts := atoms_spec (ws := wsX2_become) B.pre
  have hown : s.vm.findClass RX2 = some m.cls := findClass_of_methodNamed B.named
  have hlocks := B.notSynchronized
  subst hsz
  have hi_RX2 : ∀ w ∈ wsX20, w ∈ wsX2_become := fun _ h => List.mem_cons_of_mem _ (List.mem_append_right _ h)
  have hD := hD0.self (sz := s.heap.size)
  obtain ⟨A, hAe⟩ := nm_ex (va_A (oSheet C a0 a1 v []) s.heap.size)
  rw [← hAe] at hD hE ⊢
  have hA : ∀ q : Nat, s.heap.size ≤ q → A q := fun q h => by rw [hAe]; exact Or.inr h
  have hS : va_S A s.heap s.heap [] := va_S.rf
  have hl := lv_entry ([.ref a0, .int x0, .int x1]) (n := 4) (Nat.le_of_ble_eq_true rfl)
  rw [lg_entry_eq]
  generalize (lg_sl ([.ref a0, .int x0, .int x1]) ++ List.replicate (4 - (lg_sl ([.ref a0, .int x0, .int x1])).length) Slot.unset).toArray = ls at hl ⊢
  have hl : lv_has ls 4 [(0, .ref a0), (1, .int x0), (2, .int x1)] := hl
  obtain ⟨Q, hQ⟩ := nm_ex (MQ below (QV D C (oSheet C a0 a1 v []) (oSheet C a0 a1 (v') []) s.heap.size) (List.toArray [Value.ref a0, Value.int x0, Value.int x1]) s 0 0 A)
  show W p l e (headSpec wsX2_become (rmX2_become)).room s m (List.toArray [Value.ref a0, Value.int x0, Value.int x1]) below meth c s.heap [] 0 0 (MQ below (QV D C (oSheet C a0 a1 v []) (oSheet C a0 a1 (v') []) s.heap.size) (List.toArray [Value.ref a0, Value.int x0, Value.int x1]) s 0 0 A) _
  rw [← hQ]
  unfold f_X2_become at hf
  have main : ∀ (H : Heap) (locs : List Loc), va_P D vwCl (oSheet C a0 a1 v []) H → va_D A (oSheet C a0 a1 v []) → va_S A s.heap H locs → W p l e (headSpec wsX2_become (rmX2_become)).room s m (List.toArray [Value.ref a0, Value.int x0, Value.int x1]) below meth c H locs 0 0 Q (F0 m 0 ls []) := by
    intro H locs hP hD hS
    refine lv_iconst (v := 0) hx hb dX2_become_0 rfl ?_
    refine lv_istore_n (lv' := [(3, .int 0), (0, .ref a0), (1, .int x0), (2, .int x1)]) hx hb dX2_become_1 rfl hl (by decide) rfl (fun ls hl => ?_)
    obtain ⟨j2, hj2, hf⟩ := lj_e hf
    have Hj2 : ∀ (v1 : HV) (H : Heap) (locs : List Loc) (ls : Array Slot), va_P D vwCl (oSheet C a0 a1 v1 []) H → va_D A (oSheet C a0 a1 v1 []) → va_S A s.heap H locs → lv_has ls 4 [(0, .ref a0), (1, .int x0), (2, .int x1)] → j2 v1 = some v' → W p l e (headSpec wsX2_become (rmX2_become)).room s m (List.toArray [Value.ref a0, Value.int x0, Value.int x1]) below meth c H locs 0 0 Q (F0 m 21 ls []) := by
      intro v1 H locs ls hP hD hS hl hf
      rw [hj2] at hf
      refine lv_aload_n hx hb dX2_become_21 rfl (lv_at hl 0 rfl) ?_
      refine lv_iload_n hx hb dX2_become_22 rfl (lv_at hl 1 rfl) ?_
      refine va_put (D := D) (ci := 2) (v := .int x0) (ty := .int) (C := RX2) (T := TX2) (N := 3) hx hb hts hi_RX2 tyX2 tyX2_ok nmX2 hown hK hP hD hS 0 rfl rfl 1 (by decide) (hts (.fieldLink RX2 15 "TravelMarks$Sheet" "sort" "I") (List.mem_of_getElem? (i := 2) rfl)) (fun _ h9 => h9) rfl (tyX2_ok 1 (by decide)) rfl rfl (Nat.le_of_ble_eq_true rfl) dX2_become_23 (fun H locs hP hD hS => ?_)
      obtain ⟨v3, ev3, hf⟩ := lj_e hf
      have hP : va_P D vwCl (oSheet C a0 a1 v3 []) H := by rw [ev3]; exact hP
      have hD : va_D A (oSheet C a0 a1 v3 []) := by rw [ev3]; exact hD
      refine lv_aload_n hx hb dX2_become_26 rfl (lv_at hl 0 rfl) ?_
      refine lv_iload_n hx hb dX2_become_27 rfl (lv_at hl 2 rfl) ?_
      refine va_put (D := D) (ci := 2) (v := .int x1) (ty := .int) (C := RX2) (T := TX2) (N := 3) hx hb hts hi_RX2 tyX2 tyX2_ok nmX2 hown hK hP hD hS 0 rfl rfl 2 (by decide) (hts (.fieldLink RX2 19 "TravelMarks$Sheet" "size" "I") (List.mem_of_getElem? (i := 3) rfl)) (fun _ h9 => h9) rfl (tyX2_ok 2 (by decide)) rfl rfl (Nat.le_of_ble_eq_true rfl) dX2_become_28 (fun H locs hP hD hS => ?_)
      obtain ⟨v4, ev4, hf⟩ := lj_e hf
      have hP : va_P D vwCl (oSheet C a0 a1 v4 []) H := by rw [ev4]; exact hP
      have hD : va_D A (oSheet C a0 a1 v4 []) := by rw [ev4]; exact hD
      cases hf
      exact krv hQ hAe hx hb hr hlocks hP hD hK hS dX2_become_31
    have hL2 : ∀ (n : Nat) (i5 : Int32) (v6 : HV) (H : Heap) (locs : List Loc) (ls : Array Slot), va_P D vwCl (oSheet C a0 a1 v6 []) H → va_D A (oSheet C a0 a1 v6 []) → va_S A s.heap H locs → lv_has ls 4 [(3, .int i5), (0, .ref a0), (1, .int x0), (2, .int x1)] → f_X2_become_L2 j2 n i5 v6 = some v' → W p l e (headSpec wsX2_become (rmX2_become)).room s m (List.toArray [Value.ref a0, Value.int x0, Value.int x1]) below meth c H locs 0 0 Q (F0 m 2 ls []) := by
      intro n
      induction n with
      | zero =>
        intro i5 v6 H locs ls hP hD hS hl hf
        exact absurd hf (fun h => by cases h)
      | succ n ih =>
        intro i5 v6 H locs ls hP hD hS hl hf
        rw [f_X2_become_L2] at hf
        refine lv_iload_n hx hb dX2_become_2 rfl (lv_at hl 0 rfl) ?_
        refine lv_bipush (v := 40) hx hb dX2_become_3 rfl ?_
        refine lv_icmp_ge (tgt := 21) hx hb dX2_become_5 (by decide) (fun c7 => ?_) (fun c7 => ?_)
        · replace hf := if_te c7 hf
          exact Hj2 v6 H locs ls hP hD hS (lv_sub hl [1, 2, 3] rfl) hf
        · replace hf := if_fe c7 hf
          refine lv_aload_n hx hb dX2_become_8 rfl (lv_at hl 1 rfl) ?_
          refine va_get (D := D) (ci := 2) (v := .ref a1) (C := RX2) (T := TX2) (N := 3) hx hb hts hi_RX2 hown hK hP 0 rfl rfl 0 (by decide) (hts (.fieldLink RX2 9 "TravelMarks$Sheet" "items" "[J") (List.mem_of_getElem? (i := 1) rfl)) (fun _ h9 => h9) rfl dX2_become_9 ?_
          refine lv_iload_n hx hb dX2_become_12 rfl (lv_at hl 0 rfl) ?_
          refine lv_lconst (v := 0) hx hb dX2_become_13 rfl ?_
          obtain ⟨hi8, hf⟩ := ckA_e hf
          refine va_last hx hb hK hP hD hS 1 2 rfl rfl hi8 dX2_become_14 (fun H locs hP hD hS => ?_)
          obtain ⟨v9, ev9, hf⟩ := lj_e hf
          have hP : va_P D vwCl (oSheet C a0 a1 v9 []) H := by rw [ev9]; exact hP
          have hD : va_D A (oSheet C a0 a1 v9 []) := by rw [ev9]; exact hD
          obtain ⟨t10, et10, hf⟩ := lj_e hf
          refine lv_iinc (v := t10) (lv' := [(3, .int t10), (0, .ref a0), (1, .int x0), (2, .int x1)]) hx hb dX2_become_15 hl (k := 0) rfl (by rw [et10]; rfl) (by decide) rfl (fun ls hl => ?_)
          refine lv_goto (tgt := 2) hx hb dX2_become_18 (by decide) ?_
          exact ih t10 v9 H locs ls hP hD hS (lv_sub hl [0, 1, 2, 3] rfl) hf
    exact hL2 N 0 v H locs ls hP hD hS (lv_sub hl [0, 1, 2, 3] rfl) hf
  exact main _ _ hP hD hS

def rmX2_narrowed : Room := { frames := 0, cells := 0, slots := 0, locals := 0 }
theorem hdX2_narrowed : yX2_narrowed.cls = RX2 ∧ yX2_narrowed.cls ≠ "java/lang/invoke/MethodHandle" ∧ yX2_narrowed.cls ≠ "java/lang/invoke/VarHandle" ∧ (parseMethodDescriptor yX2_narrowed.desc).map (fun d => d.parameters.length) = some 1 := by decide +kernel
set_option maxHeartbeats 40000000 in
set_option maxRecDepth 100000 in
theorem c_X2_narrowed (l : Launch) (E : Nat → Nat) (D : va_G) (C : Nat → ClassId) (a0 a1 : Nat) (sz : Nat) (v : HV) (x0 : Int32) (r : Int64) (hf : f_X2_narrowed v x0 = r) : Met l yX2_narrowed wsX2_narrowed rmX2_narrowed (PC E D C [.ref a0, .int x0] (oSheet C a0 a1 v []) sz) (QL D C (oSheet C a0 a1 v []) (oSheet C a0 a1 v []) sz r) 0 0 (va_A (oSheet C a0 a1 v []) sz) := by
  refine Met.ofW (cc := cX2_narrowed) (maxL := 2) (ret := (some .long)) (by decide) rfl ?_
  intro p e s m args below meth c s₁ B hml hv
  obtain ⟨rfl, hsz, hP, hK, hD0, hE⟩ := hv
  have hx := B.exec
  have hb := B.bytes
  have hr := B.returns
  have hts := atoms_spec (ws := wsX2_narrowed) B.pre
  have hown : s.vm.findClass RX2 = some m.cls := findClass_of_methodNamed B.named
  have hlocks := B.notSynchronized
  subst hsz
  have hi_RX2 : ∀ w ∈ wsX20, w ∈ wsX2_narrowed := fun _ h => List.mem_cons_of_mem _ (List.mem_append_right _ h)
  have hD := hD0.self (sz := s.heap.size)
  obtain ⟨A, hAe⟩ := nm_ex (va_A (oSheet C a0 a1 v []) s.heap.size)
  rw [← hAe] at hD hE ⊢
  have hA : ∀ q : Nat, s.heap.size ≤ q → A q := fun q h => by rw [hAe]; exact Or.inr h
  have hS : va_S A s.heap s.heap [] := va_S.rf
  have hl := lv_entry ([.ref a0, .int x0]) (n := 2) (Nat.le_of_ble_eq_true rfl)
  rw [lg_entry_eq]
  generalize (lg_sl ([.ref a0, .int x0]) ++ List.replicate (2 - (lg_sl ([.ref a0, .int x0])).length) Slot.unset).toArray = ls at hl ⊢
  have hl : lv_has ls 2 [(0, .ref a0), (1, .int x0)] := hl
  obtain ⟨Q, hQ⟩ := nm_ex (MQ below (QL D C (oSheet C a0 a1 v []) (oSheet C a0 a1 v []) s.heap.size r) (List.toArray [Value.ref a0, Value.int x0]) s 0 0 A)
  show W p l e (headSpec wsX2_narrowed (rmX2_narrowed)).room s m (List.toArray [Value.ref a0, Value.int x0]) below meth c s.heap [] 0 0 (MQ below (QL D C (oSheet C a0 a1 v []) (oSheet C a0 a1 v []) s.heap.size r) (List.toArray [Value.ref a0, Value.int x0]) s 0 0 A) _
  rw [← hQ]
  unfold f_X2_narrowed at hf
  have main : ∀ (H : Heap) (locs : List Loc), va_P D vwCl (oSheet C a0 a1 v []) H → va_D A (oSheet C a0 a1 v []) → va_S A s.heap H locs → W p l e (headSpec wsX2_narrowed (rmX2_narrowed)).room s m (List.toArray [Value.ref a0, Value.int x0]) below meth c H locs 0 0 Q (F0 m 0 ls []) := by
    intro H locs hP hD hS
    refine lv_aload_n hx hb dX2_narrowed_0 rfl (lv_at hl 0 rfl) ?_
    refine va_get (D := D) (ci := 2) (v := .int (shSort v)) (C := RX2) (T := TX2) (N := 3) hx hb hts hi_RX2 hown hK hP 0 rfl rfl 1 (by decide) (hts (.fieldLink RX2 15 "TravelMarks$Sheet" "sort" "I") (List.mem_of_getElem? (i := 1) rfl)) (fun _ h9 => h9) rfl dX2_narrowed_1 ?_
    by_cases c1 : (shSort v) = 0
    · replace hf := if_te c1 hf
      refine lv_lookup (x := (shSort v)) (tgt := 32) (off := 28) hx hb dX2_narrowed_4 (by decide) (by rw [c1]; try rfl) (by decide) ?_
      refine lv_iload_n hx hb dX2_narrowed_32 rfl (lv_at hl 1 rfl) ?_
      refine lv_i2b hx hb dX2_narrowed_33 rfl ?_
      refine lv_i2l hx hb dX2_narrowed_34 rfl ?_
      cases hf
      exact krl hQ hAe hx hb hr hlocks hP hD hK hS dX2_narrowed_35
    replace hf := if_fe c1 hf
    by_cases c2 : (shSort v) = 1
    · replace hf := if_te c2 hf
      refine lv_lookup (x := (shSort v)) (tgt := 36) (off := 32) hx hb dX2_narrowed_4 (by decide) (by rw [c2]; try rfl) (by decide) ?_
      refine lv_iload_n hx hb dX2_narrowed_36 rfl (lv_at hl 1 rfl) ?_
      refine lv_i2s hx hb dX2_narrowed_37 rfl ?_
      refine lv_i2l hx hb dX2_narrowed_38 rfl ?_
      cases hf
      exact krl hQ hAe hx hb hr hlocks hP hD hK hS dX2_narrowed_39
    replace hf := if_fe c2 hf
    refine lv_lookup (x := (shSort v)) (tgt := 40) (off := 36) hx hb dX2_narrowed_4 (by decide) (by rw [lv_osw c1 (by decide)]; rw [lv_osw c2 (by decide)]; try rfl) (by decide) ?_
    refine lv_iload_n hx hb dX2_narrowed_40 rfl (lv_at hl 1 rfl) ?_
    refine lv_i2l hx hb dX2_narrowed_41 rfl ?_
    cases hf
    exact krl hQ hAe hx hb hr hlocks hP hD hK hS dX2_narrowed_42
  exact main _ _ hP hD hS

def rmX5_isShelf : Room := { frames := 1, cells := 0, slots := 0, locals := 22 }
theorem hdX5_isShelf : yX5_isShelf.cls ≠ "java/lang/invoke/MethodHandle" ∧ yX5_isShelf.cls ≠ "java/lang/invoke/VarHandle" ∧ (parseMethodDescriptor yX5_isShelf.desc).map (fun d => d.parameters.length) = some 1 := by decide +kernel
set_option maxHeartbeats 40000000 in
set_option maxRecDepth 100000 in
theorem c_X5_isShelf (l : Launch) (E : Nat → Nat) (D : va_G) (C : Nat → ClassId) (sz : Nat)  (x0 : Int32) (r : Int32) (hf : f_X5_isShelf x0 = r) : Met l yX5_isShelf wsX5_isShelf rmX5_isShelf (PC E D C [.int x0] [] sz) (QZ D C [] [] sz r) 0 0 (va_A [] sz) := by
  refine Met.ofW (cc := cX5_isShelf) (maxL := 1) (ret := (some .boolean)) (by decide) rfl ?_
  intro p e s m args below meth c s₁ B hml hv
  obtain ⟨rfl, hsz, hP, hK, hD0, hE⟩ := hv
  have hx := B.exec
  have hb := B.bytes
  have hr := B.returns
  have hts := atoms_spec (ws := wsX5_isShelf) B.pre
  have hown : s.vm.findClass RX5 = some m.cls := findClass_of_methodNamed B.named
  have hlocks := B.notSynchronized
  subst hsz
  have hD := hD0.self (sz := s.heap.size)
  obtain ⟨A, hAe⟩ := nm_ex (va_A [] s.heap.size)
  rw [← hAe] at hD hE ⊢
  have hA : ∀ q : Nat, s.heap.size ≤ q → A q := fun q h => by rw [hAe]; exact Or.inr h
  have hS : va_S A s.heap s.heap [] := va_S.rf
  have hl := lv_entry ([.int x0]) (n := 1) (Nat.le_of_ble_eq_true rfl)
  rw [lg_entry_eq]
  generalize (lg_sl ([.int x0]) ++ List.replicate (1 - (lg_sl ([.int x0])).length) Slot.unset).toArray = ls at hl ⊢
  have hl : lv_has ls 1 [(0, .int x0)] := hl
  obtain ⟨Q, hQ⟩ := nm_ex (MQ below (QZ D C [] [] s.heap.size r) (List.toArray [Value.int x0]) s 0 0 A)
  show W p l e (headSpec wsX5_isShelf (rmX5_isShelf)).room s m (List.toArray [Value.int x0]) below meth c s.heap [] 0 0 (MQ below (QZ D C [] [] s.heap.size r) (List.toArray [Value.int x0]) s 0 0 A) _
  rw [← hQ]
  unfold f_X5_isShelf at hf
  have main : ∀ (H : Heap) (locs : List Loc), va_P D vwCl [] H → va_D A [] → va_S A s.heap H locs → W p l e (headSpec wsX5_isShelf (rmX5_isShelf)).room s m (List.toArray [Value.int x0]) below meth c H locs 0 0 Q (F0 m 0 ls []) := by
    intro H locs hP hD hS
    refine lv_iload_n hx hb dX5_isShelf_0 rfl (lv_at hl 0 rfl) ?_
    refine lv_iconst (v := 0) hx hb dX5_isShelf_1 rfl ?_
    refine lv_iconst (v := 3) hx hb dX5_isShelf_2 rfl ?_
    refine kcz (Wx := []) (va_runS (As := [.int x0, .int 0, .int 3]) (rest := []) ⟨hx, hb, hml, hown, hts⟩ (c_X5_within l E D C H.size x0 0 3 _ rfl) (va_cwS 3 hts gX5_isShelf_X5_within rfl rfl rfl hdX5_within ⟨Nat.le_of_ble_eq_true rfl, Nat.le_of_ble_eq_true rfl⟩) (kpre hP hD hK hS hE hA [] rfl rfl) rfl rfl hl.1 rfl (lv_room (Nat.le_of_ble_eq_true rfl)) dX5_isShelf_3 ⟨Nat.zero_le _, Nat.zero_le _⟩) hP hD hS hA [] rfl rfl rfl (fun H locs hz1 hP hD hS => ?_)
    cases hf
    exact krz hQ hAe hx hb hr hlocks hz1 hP hD hK hS dX5_isShelf_6
  exact main _ _ hP hD hS

def rmX3_holdMark : Room := { frames := 0, cells := 0, slots := 0, locals := 0 }
theorem hdX3_holdMark : yX3_holdMark.cls = RX3 ∧ yX3_holdMark.cls ≠ "java/lang/invoke/MethodHandle" ∧ yX3_holdMark.cls ≠ "java/lang/invoke/VarHandle" ∧ (parseMethodDescriptor yX3_holdMark.desc).map (fun d => d.parameters.length) = some 1 := by decide +kernel
set_option maxHeartbeats 40000000 in
set_option maxRecDepth 100000 in
theorem c_X3_holdMark (l : Launch) (E : Nat → Nat) (D : va_G) (C : Nat → ClassId) (a0 : Nat) (sz : Nat) (v : FV) (x0 : Int32) (v' : FV) (hf : f_X3_holdMark v x0 = some v') : Met l yX3_holdMark wsX3_holdMark rmX3_holdMark (PC E D C [.ref a0, .int x0] (oShelf C a0 v []) sz) (QV D C (oShelf C a0 v []) (oShelf C a0 (v') []) sz) 0 0 (va_A (oShelf C a0 v []) sz) := by
  refine Met.ofW (cc := cX3_holdMark) (maxL := 2) (ret := none) (by decide) rfl ?_
  intro p e s m args below meth c s₁ B hml hv
  obtain ⟨rfl, hsz, hP, hK, hD0, hE⟩ := hv
  have hx := B.exec
  have hb := B.bytes
  have hr := B.returns
  have hts := atoms_spec (ws := wsX3_holdMark) B.pre
  have hown : s.vm.findClass RX3 = some m.cls := findClass_of_methodNamed B.named
  have hlocks := B.notSynchronized
  subst hsz
  have hi_RX3 : ∀ w ∈ wsX30, w ∈ wsX3_holdMark := fun _ h => List.mem_cons_of_mem _ (List.mem_append_right _ h)
  have hD := hD0.self (sz := s.heap.size)
  obtain ⟨A, hAe⟩ := nm_ex (va_A (oShelf C a0 v []) s.heap.size)
  rw [← hAe] at hD hE ⊢
  have hA : ∀ q : Nat, s.heap.size ≤ q → A q := fun q h => by rw [hAe]; exact Or.inr h
  have hS : va_S A s.heap s.heap [] := va_S.rf
  have hl := lv_entry ([.ref a0, .int x0]) (n := 2) (Nat.le_of_ble_eq_true rfl)
  rw [lg_entry_eq]
  generalize (lg_sl ([.ref a0, .int x0]) ++ List.replicate (2 - (lg_sl ([.ref a0, .int x0])).length) Slot.unset).toArray = ls at hl ⊢
  have hl : lv_has ls 2 [(0, .ref a0), (1, .int x0)] := hl
  obtain ⟨Q, hQ⟩ := nm_ex (MQ below (QV D C (oShelf C a0 v []) (oShelf C a0 (v') []) s.heap.size) (List.toArray [Value.ref a0, Value.int x0]) s 0 0 A)
  show W p l e (headSpec wsX3_holdMark (rmX3_holdMark)).room s m (List.toArray [Value.ref a0, Value.int x0]) below meth c s.heap [] 0 0 (MQ below (QV D C (oShelf C a0 v []) (oShelf C a0 (v') []) s.heap.size) (List.toArray [Value.ref a0, Value.int x0]) s 0 0 A) _
  rw [← hQ]
  unfold f_X3_holdMark at hf
  have main : ∀ (H : Heap) (locs : List Loc), va_P D vwCl (oShelf C a0 v []) H → va_D A (oShelf C a0 v []) → va_S A s.heap H locs → W p l e (headSpec wsX3_holdMark (rmX3_holdMark)).room s m (List.toArray [Value.ref a0, Value.int x0]) below meth c H locs 0 0 Q (F0 m 0 ls []) := by
    intro H locs hP hD hS
    refine lv_aload_n hx hb dX3_holdMark_0 rfl (lv_at hl 0 rfl) ?_
    refine lv_iconst (v := 0) hx hb dX3_holdMark_1 rfl ?_
    refine va_put (D := D) (ci := 3) (v := .int 0) (ty := .int) (C := RX3) (T := TX3) (N := 4) hx hb hts hi_RX3 tyX3 tyX3_ok nmX3 hown hK hP hD hS 0 rfl rfl 0 (by decide) (hts (.fieldLink RX3 9 "TravelMarks$Shelf" "holding" "I") (List.mem_of_getElem? (i := 1) rfl)) (fun _ h9 => h9) rfl (tyX3_ok 0 (by decide)) rfl rfl (Nat.le_of_ble_eq_true rfl) dX3_holdMark_2 (fun H locs hP hD hS => ?_)
    obtain ⟨v1, ev1, hf⟩ := lj_e hf
    have hP : va_P D vwCl (oShelf C a0 v1 []) H := by rw [ev1]; exact hP
    have hD : va_D A (oShelf C a0 v1 []) := by rw [ev1]; exact hD
    refine lv_aload_n hx hb dX3_holdMark_5 rfl (lv_at hl 0 rfl) ?_
    refine lv_iload_n hx hb dX3_holdMark_6 rfl (lv_at hl 1 rfl) ?_
    refine va_put (D := D) (ci := 3) (v := .int x0) (ty := .int) (C := RX3) (T := TX3) (N := 4) hx hb hts hi_RX3 tyX3 tyX3_ok nmX3 hown hK hP hD hS 0 rfl rfl 1 (by decide) (hts (.fieldLink RX3 15 "TravelMarks$Shelf" "number" "I") (List.mem_of_getElem? (i := 2) rfl)) (fun _ h9 => h9) rfl (tyX3_ok 1 (by decide)) rfl rfl (Nat.le_of_ble_eq_true rfl) dX3_holdMark_7 (fun H locs hP hD hS => ?_)
    obtain ⟨v2, ev2, hf⟩ := lj_e hf
    have hP : va_P D vwCl (oShelf C a0 v2 []) H := by rw [ev2]; exact hP
    have hD : va_D A (oShelf C a0 v2 []) := by rw [ev2]; exact hD
    cases hf
    exact krv hQ hAe hx hb hr hlocks hP hD hK hS dX3_holdMark_10
  exact main _ _ hP hD hS

def rmX3_holdRow : Room := { frames := 0, cells := 0, slots := 0, locals := 0 }
theorem hdX3_holdRow : yX3_holdRow.cls = RX3 ∧ yX3_holdRow.cls ≠ "java/lang/invoke/MethodHandle" ∧ yX3_holdRow.cls ≠ "java/lang/invoke/VarHandle" ∧ (parseMethodDescriptor yX3_holdRow.desc).map (fun d => d.parameters.length) = some 1 := by decide +kernel
set_option maxHeartbeats 40000000 in
set_option maxRecDepth 100000 in
theorem c_X3_holdRow (l : Launch) (E : Nat → Nat) (D : va_G) (C : Nat → ClassId) (a0 b0_0 b0_1 : Nat) (sz : Nat) (v : FV) (w0 : HV)  (v' : FV) (hf : f_X3_holdRow v w0 = some v') : Met l yX3_holdRow wsX3_holdRow rmX3_holdRow (PC E D C [.ref a0, .ref b0_0] (oShelf C a0 v (oSheet C b0_0 b0_1 w0 [])) sz) (QV D C (oShelf C a0 v (oSheet C b0_0 b0_1 w0 [])) (oShelf C a0 (v') (oSheet C b0_0 b0_1 w0 [])) sz) 0 0 (va_A (oShelf C a0 v (oSheet C b0_0 b0_1 w0 [])) sz) := by
  refine Met.ofW (cc := cX3_holdRow) (maxL := 2) (ret := none) (by decide) rfl ?_
  intro p e s m args below meth c s₁ B hml hv
  obtain ⟨rfl, hsz, hP, hK, hD0, hE⟩ := hv
  have hx := B.exec
  have hb := B.bytes
  have hr := B.returns
  have hts := atoms_spec (ws := wsX3_holdRow) B.pre
  have hown : s.vm.findClass RX3 = some m.cls := findClass_of_methodNamed B.named
  have hlocks := B.notSynchronized
  subst hsz
  have hi_RX2 : ∀ w ∈ wsX20, w ∈ wsX3_holdRow := fun _ h => List.mem_cons_of_mem _ (List.mem_append_left _ (List.mem_append_right _ h))
  have hi_RX3 : ∀ w ∈ wsX30, w ∈ wsX3_holdRow := fun _ h => List.mem_cons_of_mem _ (List.mem_append_right _ h)
  have hD := hD0.self (sz := s.heap.size)
  obtain ⟨A, hAe⟩ := nm_ex (va_A (oShelf C a0 v (oSheet C b0_0 b0_1 w0 [])) s.heap.size)
  rw [← hAe] at hD hE ⊢
  have hA : ∀ q : Nat, s.heap.size ≤ q → A q := fun q h => by rw [hAe]; exact Or.inr h
  have hS : va_S A s.heap s.heap [] := va_S.rf
  have hl := lv_entry ([.ref a0, .ref b0_0]) (n := 2) (Nat.le_of_ble_eq_true rfl)
  rw [lg_entry_eq]
  generalize (lg_sl ([.ref a0, .ref b0_0]) ++ List.replicate (2 - (lg_sl ([.ref a0, .ref b0_0])).length) Slot.unset).toArray = ls at hl ⊢
  have hl : lv_has ls 2 [(0, .ref a0), (1, .ref b0_0)] := hl
  obtain ⟨Q, hQ⟩ := nm_ex (MQ below (QV D C (oShelf C a0 v (oSheet C b0_0 b0_1 w0 [])) (oShelf C a0 (v') (oSheet C b0_0 b0_1 w0 [])) s.heap.size) (List.toArray [Value.ref a0, Value.ref b0_0]) s 0 0 A)
  show W p l e (headSpec wsX3_holdRow (rmX3_holdRow)).room s m (List.toArray [Value.ref a0, Value.ref b0_0]) below meth c s.heap [] 0 0 (MQ below (QV D C (oShelf C a0 v (oSheet C b0_0 b0_1 w0 [])) (oShelf C a0 (v') (oSheet C b0_0 b0_1 w0 [])) s.heap.size) (List.toArray [Value.ref a0, Value.ref b0_0]) s 0 0 A) _
  rw [← hQ]
  unfold f_X3_holdRow at hf
  have main : ∀ (H : Heap) (locs : List Loc), va_P D vwCl (oShelf C a0 v (oSheet C b0_0 b0_1 w0 [])) H → va_D A (oShelf C a0 v (oSheet C b0_0 b0_1 w0 [])) → va_S A s.heap H locs → W p l e (headSpec wsX3_holdRow (rmX3_holdRow)).room s m (List.toArray [Value.ref a0, Value.ref b0_0]) below meth c H locs 0 0 Q (F0 m 0 ls []) := by
    intro H locs hP hD hS
    refine lv_aload_n hx hb dX3_holdRow_0 rfl (lv_at hl 0 rfl) ?_
    refine lv_aload_n hx hb dX3_holdRow_1 rfl (lv_at hl 1 rfl) ?_
    refine va_get (D := D) (ci := 2) (v := .int (shSort w0)) (C := RX2) (T := TX2) (N := 3) hx hb hts hi_RX2 hown hK hP 1 rfl rfl 1 (by decide) (hts (.fieldLink RX3 18 "TravelMarks$Sheet" "sort" "I") (List.mem_of_getElem? (i := 1) rfl)) (fun _ h9 => h9) rfl dX3_holdRow_2 ?_
    refine lv_iconst (v := (-1)) hx hb dX3_holdRow_5 rfl ?_
    obtain ⟨j2, hj2, hf⟩ := lj_e hf
    have Hj2 : ∀ (k1 : Int32) (H : Heap) (locs : List Loc) (ls : Array Slot), va_P D vwCl (oShelf C a0 v (oSheet C b0_0 b0_1 w0 [])) H → va_D A (oShelf C a0 v (oSheet C b0_0 b0_1 w0 [])) → va_S A s.heap H locs → lv_has ls 2 [(0, .ref a0), (1, .ref b0_0)] → j2 k1 = some v' → W p l e (headSpec wsX3_holdRow (rmX3_holdRow)).room s m (List.toArray [Value.ref a0, Value.ref b0_0]) below meth c H locs 0 0 Q (F0 m 14 ls [.int k1, .ref a0]) := by
      intro k1 H locs ls hP hD hS hl hf
      rw [hj2] at hf
      refine va_put (D := D) (ci := 3) (v := .int k1) (ty := .int) (C := RX3) (T := TX3) (N := 4) hx hb hts hi_RX3 tyX3 tyX3_ok nmX3 hown hK hP hD hS 0 rfl rfl 0 (by decide) (hts (.fieldLink RX3 9 "TravelMarks$Shelf" "holding" "I") (List.mem_of_getElem? (i := 2) rfl)) (fun _ h9 => h9) rfl (tyX3_ok 0 (by decide)) rfl rfl (Nat.le_of_ble_eq_true rfl) dX3_holdRow_14 (fun H locs hP hD hS => ?_)
      obtain ⟨v3, ev3, hf⟩ := lj_e hf
      have hP : va_P D vwCl (oShelf C a0 v3 (oSheet C b0_0 b0_1 w0 [])) H := by rw [ev3]; exact hP
      have hD : va_D A (oShelf C a0 v3 (oSheet C b0_0 b0_1 w0 [])) := by rw [ev3]; exact hD
      refine lv_aload_n hx hb dX3_holdRow_17 rfl (lv_at hl 0 rfl) ?_
      refine lv_aload_n hx hb dX3_holdRow_18 rfl (lv_at hl 1 rfl) ?_
      refine va_get (D := D) (ci := 2) (v := .int (shSort w0)) (C := RX2) (T := TX2) (N := 3) hx hb hts hi_RX2 hown hK hP 1 rfl rfl 1 (by decide) (hts (.fieldLink RX3 18 "TravelMarks$Sheet" "sort" "I") (List.mem_of_getElem? (i := 1) rfl)) (fun _ h9 => h9) rfl dX3_holdRow_19 ?_
      obtain ⟨t4, et4, hf⟩ := lj_e hf
      refine lv_ren et4 ?_
      refine va_put (D := D) (ci := 3) (v := .int t4) (ty := .int) (C := RX3) (T := TX3) (N := 4) hx hb hts hi_RX3 tyX3 tyX3_ok nmX3 hown hK hP hD hS 0 rfl rfl 2 (by decide) (hts (.fieldLink RX3 23 "TravelMarks$Shelf" "sort" "I") (List.mem_of_getElem? (i := 3) rfl)) (fun _ h9 => h9) rfl (tyX3_ok 2 (by decide)) rfl rfl (Nat.le_of_ble_eq_true rfl) dX3_holdRow_22 (fun H locs hP hD hS => ?_)
      obtain ⟨v5, ev5, hf⟩ := lj_e hf
      have hP : va_P D vwCl (oShelf C a0 v5 (oSheet C b0_0 b0_1 w0 [])) H := by rw [ev5]; exact hP
      have hD : va_D A (oShelf C a0 v5 (oSheet C b0_0 b0_1 w0 [])) := by rw [ev5]; exact hD
      refine lv_aload_n hx hb dX3_holdRow_25 rfl (lv_at hl 0 rfl) ?_
      refine lv_aload_n hx hb dX3_holdRow_26 rfl (lv_at hl 1 rfl) ?_
      refine va_get (D := D) (ci := 2) (v := .int (shSize w0)) (C := RX2) (T := TX2) (N := 3) hx hb hts hi_RX2 hown hK hP 1 rfl rfl 2 (by decide) (hts (.fieldLink RX3 24 "TravelMarks$Sheet" "size" "I") (List.mem_of_getElem? (i := 4) rfl)) (fun _ h9 => h9) rfl dX3_holdRow_27 ?_
      obtain ⟨t6, et6, hf⟩ := lj_e hf
      refine lv_ren et6 ?_
      refine va_put (D := D) (ci := 3) (v := .int t6) (ty := .int) (C := RX3) (T := TX3) (N := 4) hx hb hts hi_RX3 tyX3 tyX3_ok nmX3 hown hK hP hD hS 0 rfl rfl 3 (by decide) (hts (.fieldLink RX3 27 "TravelMarks$Shelf" "size" "I") (List.mem_of_getElem? (i := 5) rfl)) (fun _ h9 => h9) rfl (tyX3_ok 3 (by decide)) rfl rfl (Nat.le_of_ble_eq_true rfl) dX3_holdRow_30 (fun H locs hP hD hS => ?_)
      obtain ⟨v7, ev7, hf⟩ := lj_e hf
      have hP : va_P D vwCl (oShelf C a0 v7 (oSheet C b0_0 b0_1 w0 [])) H := by rw [ev7]; exact hP
      have hD : va_D A (oShelf C a0 v7 (oSheet C b0_0 b0_1 w0 [])) := by rw [ev7]; exact hD
      cases hf
      exact krv hQ hAe hx hb hr hlocks hP hD hK hS dX3_holdRow_33
    refine lv_icmp_ne (tgt := 13) hx hb dX3_holdRow_6 (by decide) (fun c8 => ?_) (fun c8 => ?_)
    · replace hf := if_fe c8 hf
      refine lv_iconst (v := 1) hx hb dX3_holdRow_13 rfl ?_
      exact Hj2 1 H locs ls hP hD hS (lv_sub hl [0, 1] rfl) hf
    · replace hf := if_te c8 hf
      refine lv_iconst (v := 2) hx hb dX3_holdRow_9 rfl ?_
      refine lv_goto (tgt := 14) hx hb dX3_holdRow_10 (by decide) ?_
      exact Hj2 2 H locs ls hP hD hS (lv_sub hl [0, 1] rfl) hf
  exact main _ _ hP hD hS

def rmX0_forget : Room := { frames := 0, cells := 0, slots := 0, locals := 0 }
theorem hdX0_forget : yX0_forget.cls = RX0 ∧ yX0_forget.cls ≠ "java/lang/invoke/MethodHandle" ∧ yX0_forget.cls ≠ "java/lang/invoke/VarHandle" ∧ (parseMethodDescriptor yX0_forget.desc).map (fun d => d.parameters.length) = some 0 := by decide +kernel
set_option maxHeartbeats 40000000 in
set_option maxRecDepth 100000 in
theorem c_X0_forget (l : Launch) (E : Nat → Nat) (D : va_G) (C : Nat → ClassId) (a0 a1 : Nat) (sz : Nat) (v : DV)  (v' : DV) (hf : f_X0_forget v = some v') : Met l yX0_forget wsX0_forget rmX0_forget (PC E D C [.ref a0] (oDeed C a0 a1 v []) sz) (QV D C (oDeed C a0 a1 v []) (oDeed C a0 a1 (v') []) sz) 0 0 (va_A (oDeed C a0 a1 v []) sz) := by
  refine Met.ofW (cc := cX0_forget) (maxL := 1) (ret := none) (by decide) rfl ?_
  intro p e s m args below meth c s₁ B hml hv
  obtain ⟨rfl, hsz, hP, hK, hD0, hE⟩ := hv
  have hx := B.exec
  have hb := B.bytes
  have hr := B.returns
  have hts := atoms_spec (ws := wsX0_forget) B.pre
  have hown : s.vm.findClass RX0 = some m.cls := findClass_of_methodNamed B.named
  have hlocks := B.notSynchronized
  subst hsz
  have hi_RX0 : ∀ w ∈ wsX00, w ∈ wsX0_forget := fun _ h => List.mem_cons_of_mem _ (List.mem_append_right _ h)
  have hD := hD0.self (sz := s.heap.size)
  obtain ⟨A, hAe⟩ := nm_ex (va_A (oDeed C a0 a1 v []) s.heap.size)
  rw [← hAe] at hD hE ⊢
  have hA : ∀ q : Nat, s.heap.size ≤ q → A q := fun q h => by rw [hAe]; exact Or.inr h
  have hS : va_S A s.heap s.heap [] := va_S.rf
  have hl := lv_entry ([.ref a0]) (n := 1) (Nat.le_of_ble_eq_true rfl)
  rw [lg_entry_eq]
  generalize (lg_sl ([.ref a0]) ++ List.replicate (1 - (lg_sl ([.ref a0])).length) Slot.unset).toArray = ls at hl ⊢
  have hl : lv_has ls 1 [(0, .ref a0)] := hl
  obtain ⟨Q, hQ⟩ := nm_ex (MQ below (QV D C (oDeed C a0 a1 v []) (oDeed C a0 a1 (v') []) s.heap.size) (List.toArray [Value.ref a0]) s 0 0 A)
  show W p l e (headSpec wsX0_forget (rmX0_forget)).room s m (List.toArray [Value.ref a0]) below meth c s.heap [] 0 0 (MQ below (QV D C (oDeed C a0 a1 v []) (oDeed C a0 a1 (v') []) s.heap.size) (List.toArray [Value.ref a0]) s 0 0 A) _
  rw [← hQ]
  unfold f_X0_forget at hf
  have main : ∀ (H : Heap) (locs : List Loc), va_P D vwCl (oDeed C a0 a1 v []) H → va_D A (oDeed C a0 a1 v []) → va_S A s.heap H locs → W p l e (headSpec wsX0_forget (rmX0_forget)).room s m (List.toArray [Value.ref a0]) below meth c H locs 0 0 Q (F0 m 0 ls []) := by
    intro H locs hP hD hS
    refine lv_aload_n hx hb dX0_forget_0 rfl (lv_at hl 0 rfl) ?_
    refine lv_iconst (v := 0) hx hb dX0_forget_1 rfl ?_
    refine va_put (D := D) (ci := 0) (v := .int 0) (ty := .int) (C := RX0) (T := TX0) (N := 6) hx hb hts hi_RX0 tyX0 tyX0_ok nmX0 hown hK hP hD hS 0 rfl rfl 1 (by decide) (hts (.fieldLink RX0 15 "TravelMarks$Deed" "ran" "I") (List.mem_of_getElem? (i := 1) rfl)) (fun _ h9 => h9) rfl (tyX0_ok 1 (by decide)) rfl rfl (Nat.le_of_ble_eq_true rfl) dX0_forget_2 (fun H locs hP hD hS => ?_)
    obtain ⟨v1, ev1, hf⟩ := lj_e hf
    have hP : va_P D vwCl (oDeed C a0 a1 v1 []) H := by rw [ev1]; exact hP
    have hD : va_D A (oDeed C a0 a1 v1 []) := by rw [ev1]; exact hD
    refine lv_aload_n hx hb dX0_forget_5 rfl (lv_at hl 0 rfl) ?_
    refine lv_iconst (v := 0) hx hb dX0_forget_6 rfl ?_
    refine va_put (D := D) (ci := 0) (v := .int 0) (ty := .boolean) (C := RX0) (T := TX0) (N := 6) hx hb hts hi_RX0 tyX0 tyX0_ok nmX0 hown hK hP hD hS 0 rfl rfl 5 (by decide) (hts (.fieldLink RX0 19 "TravelMarks$Deed" "partedBy0" "Z") (List.mem_of_getElem? (i := 2) rfl)) (fun _ h9 => h9) rfl (tyX0_ok 5 (by decide)) zb_0.1 zb_0.2 (Nat.le_of_ble_eq_true rfl) dX0_forget_7 (fun H locs hP hD hS => ?_)
    obtain ⟨v2, ev2, hf⟩ := lj_e hf
    have hP : va_P D vwCl (oDeed C a0 a1 v2 []) H := by rw [ev2]; exact hP
    have hD : va_D A (oDeed C a0 a1 v2 []) := by rw [ev2]; exact hD
    cases hf
    exact krv hQ hAe hx hb hr hlocks hP hD hK hS dX0_forget_10
  exact main _ _ hP hD hS

def rmX0_withBody : Room := { frames := 2, cells := 0, slots := 0, locals := 42 }
theorem hdX0_withBody : yX0_withBody.cls ≠ "java/lang/invoke/MethodHandle" ∧ yX0_withBody.cls ≠ "java/lang/invoke/VarHandle" ∧ (parseMethodDescriptor yX0_withBody.desc).map (fun d => d.parameters.length) = some 2 := by decide +kernel
set_option maxHeartbeats 40000000 in
set_option maxRecDepth 100000 in
theorem c_X0_withBody (l : Launch) (E : Nat → Nat) (D : va_G) (C : Nat → ClassId) (sz : Nat) (N : Nat)  (x0 : Int32) (x1 : Int32) (r : Int32) (hf : f_X0_withBody N x0 x1 = some r) : Met l yX0_withBody wsX0_withBody rmX0_withBody (PC E D C [.int x0, .int x1] [] sz) (QI D C [] [] sz r) 0 0 (va_A [] sz) := by
  refine Met.ofW (cc := cX0_withBody) (maxL := 4) (ret := (some .int)) (by decide) rfl ?_
  intro p e s m args below meth c s₁ B hml hv
  obtain ⟨rfl, hsz, hP, hK, hD0, hE⟩ := hv
  have hx := B.exec
  have hb := B.bytes
  have hr := B.returns
  have hts := atoms_spec (ws := wsX0_withBody) B.pre
  have hown : s.vm.findClass RX0 = some m.cls := findClass_of_methodNamed B.named
  have hlocks := B.notSynchronized
  subst hsz
  have hD := hD0.self (sz := s.heap.size)
  obtain ⟨A, hAe⟩ := nm_ex (va_A [] s.heap.size)
  rw [← hAe] at hD hE ⊢
  have hA : ∀ q : Nat, s.heap.size ≤ q → A q := fun q h => by rw [hAe]; exact Or.inr h
  have hS : va_S A s.heap s.heap [] := va_S.rf
  have hl := lv_entry ([.int x0, .int x1]) (n := 4) (Nat.le_of_ble_eq_true rfl)
  rw [lg_entry_eq]
  generalize (lg_sl ([.int x0, .int x1]) ++ List.replicate (4 - (lg_sl ([.int x0, .int x1])).length) Slot.unset).toArray = ls at hl ⊢
  have hl : lv_has ls 4 [(0, .int x0), (1, .int x1)] := hl
  obtain ⟨Q, hQ⟩ := nm_ex (MQ below (QI D C [] [] s.heap.size r) (List.toArray [Value.int x0, Value.int x1]) s 0 0 A)
  show W p l e (headSpec wsX0_withBody (rmX0_withBody)).room s m (List.toArray [Value.int x0, Value.int x1]) below meth c s.heap [] 0 0 (MQ below (QI D C [] [] s.heap.size r) (List.toArray [Value.int x0, Value.int x1]) s 0 0 A) _
  rw [← hQ]
  unfold f_X0_withBody at hf
  have main : ∀ (H : Heap) (locs : List Loc), va_P D vwCl [] H → va_D A [] → va_S A s.heap H locs → W p l e (headSpec wsX0_withBody (rmX0_withBody)).room s m (List.toArray [Value.int x0, Value.int x1]) below meth c H locs 0 0 Q (F0 m 0 ls []) := by
    intro H locs hP hD hS
    refine lv_iload_n hx hb dX0_withBody_0 rfl (lv_at hl 0 rfl) ?_
    refine lv_istore_n (lv' := [(2, .int x0), (0, .int x0), (1, .int x1)]) hx hb dX0_withBody_1 rfl hl (by decide) rfl (fun ls hl => ?_)
    refine lv_iconst (v := 0) hx hb dX0_withBody_2 rfl ?_
    refine lv_istore_n (lv' := [(3, .int 0), (2, .int x0), (0, .int x0), (1, .int x1)]) hx hb dX0_withBody_3 rfl hl (by decide) rfl (fun ls hl => ?_)
    have hL4 : ∀ (n : Nat) (i1 : Int32) (i2 : Int32) (H : Heap) (locs : List Loc) (ls : Array Slot), va_P D vwCl [] H → va_D A [] → va_S A s.heap H locs → lv_has ls 4 [(3, .int i1), (2, .int i2), (1, .int x1)] → f_X0_withBody_L4 x1 n i1 i2 = some r → W p l e (headSpec wsX0_withBody (rmX0_withBody)).room s m (List.toArray [Value.int x0, Value.int x1]) below meth c H locs 0 0 Q (F0 m 4 ls []) := by
      intro n
      induction n with
      | zero =>
        intro i1 i2 H locs ls hP hD hS hl hf
        exact absurd hf (fun h => by cases h)
      | succ n ih =>
        intro i1 i2 H locs ls hP hD hS hl hf
        rw [f_X0_withBody_L4] at hf
        refine lv_iload_n hx hb dX0_withBody_4 rfl (lv_at hl 0 rfl) ?_
        refine lv_bipush (v := 6) hx hb dX0_withBody_5 rfl ?_
        refine lv_icmp_ge (tgt := 43) hx hb dX0_withBody_7 (by decide) (fun c3 => ?_) (fun c3 => ?_)
        · replace hf := if_te c3 hf
          refine lv_iconst (v := (-1)) hx hb dX0_withBody_43 rfl ?_
          cases hf
          exact kri hQ hAe hx hb hr hlocks hP hD hK hS dX0_withBody_44
        · replace hf := if_fe c3 hf
          refine lv_iload_n hx hb dX0_withBody_10 rfl (lv_at hl 1 rfl) ?_
          refine kcz (Wx := []) (va_runSN (As := [.int i2]) (rest := []) ⟨hx, hb, hml, hown, hts⟩ (c_X5_isKind l E D C H.size i2 _ rfl) ⟨va_cnB 1 hts gX0_withBody_X5_isKind_n54 rfl rfl rfl (hE.1.2 _ (List.mem_of_getElem? (i := 3) rfl)) (hts (.initialized RX5) (List.mem_of_getElem? (i := 3) rfl)) hdX5_isKind ⟨Nat.le_of_ble_eq_true rfl, Nat.le_of_ble_eq_true rfl⟩, (hts (.static yX5_isKind) (List.mem_of_getElem? (i := 2) rfl)), trivial⟩ (kpre hP hD hK hS hE hA [] rfl rfl) rfl rfl hl.1 rfl (lv_room (Nat.le_of_ble_eq_true rfl)) dX0_withBody_11 ⟨Nat.zero_le _, Nat.zero_le _⟩) hP hD hS hA [] rfl rfl rfl (fun H locs hz4 hP hD hS => ?_)
          refine lv_if_eq (tgt := 43) hx hb dX0_withBody_14 (by decide) (fun c5 => ?_) (fun c5 => ?_)
          · replace hf := if_te c5 hf
            refine lv_iconst (v := (-1)) hx hb dX0_withBody_43 rfl ?_
            cases hf
            exact kri hQ hAe hx hb hr hlocks hP hD hK hS dX0_withBody_44
          · replace hf := if_fe c5 hf
            refine va_gets hx hb (tZ4 hE) hS hown (hts (.fieldLink RX0 40 "TravelMarks$Deed" "BODIES" "[I") (List.mem_of_getElem? (i := 1) rfl)) (fun _ h9 => h9) dX0_withBody_17 ?_
            refine lv_iload_n hx hb dX0_withBody_20 rfl (lv_at hl 1 rfl) ?_
            refine lv_iconst (v := 4) hx hb dX0_withBody_21 rfl ?_
            refine lv_imul hx hb dX0_withBody_22 ?_
            refine lv_iload_n hx hb dX0_withBody_23 rfl (lv_at hl 2 rfl) ?_
            refine lv_iadd hx hb dX0_withBody_24 ?_
            obtain ⟨y7, ey7, hi6, hf⟩ := rdA_x hf
            refine va_ti hx hb (tT4 hE) hS hi6 (v := .int (tbBodies (((i2 * 4) + x1)).toNatClampNeg)) rfl dX0_withBody_25 ?_
            refine lv_ren ey7 ?_
            refine lv_if_eq (tgt := 31) hx hb dX0_withBody_26 (by decide) (fun c8 => ?_) (fun c8 => ?_)
            · replace hf := if_te c8 hf
              refine va_getsN hx hb (tZ3 hE) hS hown ((hE.1.1 _ (List.mem_of_getElem? (i := 3) rfl)).use rfl) (fun _ h9 => h9) dX0_withBody_31 ?_
              refine lv_iload_n hx hb dX0_withBody_34 rfl (lv_at hl 1 rfl) ?_
              obtain ⟨y10, ey10, hi9, hf⟩ := rdA_x hf
              refine va_ti hx hb (tT3 hE) hS hi9 (v := .int (tbAbove (i2).toNatClampNeg)) rfl dX0_withBody_35 ?_
              refine lv_ren ey10 ?_
              refine lv_istore_n (lv' := [(2, .int y10), (3, .int i1), (1, .int x1)]) hx hb dX0_withBody_36 rfl hl (by decide) rfl (fun ls hl => ?_)
              obtain ⟨t11, et11, hf⟩ := lj_e hf
              refine lv_iinc (v := t11) (lv' := [(3, .int t11), (2, .int y10), (1, .int x1)]) hx hb dX0_withBody_37 hl (k := 1) rfl (by rw [et11]; rfl) (by decide) rfl (fun ls hl => ?_)
              refine lv_goto (tgt := 4) hx hb dX0_withBody_40 (by decide) ?_
              exact ih t11 y10 H locs ls hP hD hS (lv_sub hl [0, 1, 2] rfl) hf
            · replace hf := if_fe c8 hf
              refine lv_iload_n hx hb dX0_withBody_29 rfl (lv_at hl 1 rfl) ?_
              cases hf
              exact kri hQ hAe hx hb hr hlocks hP hD hK hS dX0_withBody_30
    exact hL4 N 0 x0 H locs ls hP hD hS (lv_sub hl [0, 1, 3] rfl) hf
  exact main _ _ hP hD hS

def rmX0_note : Room := { frames := 0, cells := 0, slots := 0, locals := 0 }
theorem hdX0_note : yX0_note.cls = RX0 ∧ yX0_note.cls ≠ "java/lang/invoke/MethodHandle" ∧ yX0_note.cls ≠ "java/lang/invoke/VarHandle" ∧ (parseMethodDescriptor yX0_note.desc).map (fun d => d.parameters.length) = some 1 := by decide +kernel
set_option maxHeartbeats 40000000 in
set_option maxRecDepth 100000 in
theorem c_X0_note (l : Launch) (E : Nat → Nat) (D : va_G) (C : Nat → ClassId) (a0 a1 : Nat) (sz : Nat) (v : DV) (x0 : Int32) (v' : DV) (hf : f_X0_note v x0 = some v') : Met l yX0_note wsX0_note rmX0_note (PC E D C [.ref a0, .int x0] (oDeed C a0 a1 v []) sz) (QV D C (oDeed C a0 a1 v []) (oDeed C a0 a1 (v') []) sz) 0 0 (va_A (oDeed C a0 a1 v []) sz) := by
  refine Met.ofW (cc := cX0_note) (maxL := 2) (ret := none) (by decide) rfl ?_
  intro p e s m args below meth c s₁ B hml hv
  obtain ⟨rfl, hsz, hP, hK, hD0, hE⟩ := hv
  have hx := B.exec
  have hb := B.bytes
  have hr := B.returns
  have hts := atoms_spec (ws := wsX0_note) B.pre
  have hown : s.vm.findClass RX0 = some m.cls := findClass_of_methodNamed B.named
  have hlocks := B.notSynchronized
  subst hsz
  have hi_RX0 : ∀ w ∈ wsX00, w ∈ wsX0_note := fun _ h => List.mem_cons_of_mem _ (List.mem_append_right _ h)
  have hD := hD0.self (sz := s.heap.size)
  obtain ⟨A, hAe⟩ := nm_ex (va_A (oDeed C a0 a1 v []) s.heap.size)
  rw [← hAe] at hD hE ⊢
  have hA : ∀ q : Nat, s.heap.size ≤ q → A q := fun q h => by rw [hAe]; exact Or.inr h
  have hS : va_S A s.heap s.heap [] := va_S.rf
  have hl := lv_entry ([.ref a0, .int x0]) (n := 2) (Nat.le_of_ble_eq_true rfl)
  rw [lg_entry_eq]
  generalize (lg_sl ([.ref a0, .int x0]) ++ List.replicate (2 - (lg_sl ([.ref a0, .int x0])).length) Slot.unset).toArray = ls at hl ⊢
  have hl : lv_has ls 2 [(0, .ref a0), (1, .int x0)] := hl
  obtain ⟨Q, hQ⟩ := nm_ex (MQ below (QV D C (oDeed C a0 a1 v []) (oDeed C a0 a1 (v') []) s.heap.size) (List.toArray [Value.ref a0, Value.int x0]) s 0 0 A)
  show W p l e (headSpec wsX0_note (rmX0_note)).room s m (List.toArray [Value.ref a0, Value.int x0]) below meth c s.heap [] 0 0 (MQ below (QV D C (oDeed C a0 a1 v []) (oDeed C a0 a1 (v') []) s.heap.size) (List.toArray [Value.ref a0, Value.int x0]) s 0 0 A) _
  rw [← hQ]
  unfold f_X0_note at hf
  have main : ∀ (H : Heap) (locs : List Loc), va_P D vwCl (oDeed C a0 a1 v []) H → va_D A (oDeed C a0 a1 v []) → va_S A s.heap H locs → W p l e (headSpec wsX0_note (rmX0_note)).room s m (List.toArray [Value.ref a0, Value.int x0]) below meth c H locs 0 0 Q (F0 m 0 ls []) := by
    intro H locs hP hD hS
    refine lv_aload_n hx hb dX0_note_0 rfl (lv_at hl 0 rfl) ?_
    refine va_get (D := D) (ci := 0) (v := .int (ddRan v)) (C := RX0) (T := TX0) (N := 6) hx hb hts hi_RX0 hown hK hP 0 rfl rfl 1 (by decide) (hts (.fieldLink RX0 15 "TravelMarks$Deed" "ran" "I") (List.mem_of_getElem? (i := 1) rfl)) (fun _ h9 => h9) rfl dX0_note_1 ?_
    refine lv_bipush (v := 30) hx hb dX0_note_4 rfl ?_
    refine lv_icmp_ge (tgt := 29) hx hb dX0_note_6 (by decide) (fun c1 => ?_) (fun c1 => ?_)
    · replace hf := if_te c1 hf
      cases hf
      exact krv hQ hAe hx hb hr hlocks hP hD hK hS dX0_note_29
    · replace hf := if_fe c1 hf
      refine lv_aload_n hx hb dX0_note_9 rfl (lv_at hl 0 rfl) ?_
      refine va_get (D := D) (ci := 0) (v := .ref a1) (C := RX0) (T := TX0) (N := 6) hx hb hts hi_RX0 hown hK hP 0 rfl rfl 0 (by decide) (hts (.fieldLink RX0 11 "TravelMarks$Deed" "bodies" "[I") (List.mem_of_getElem? (i := 2) rfl)) (fun _ h9 => h9) rfl dX0_note_10 ?_
      refine lv_aload_n hx hb dX0_note_13 rfl (lv_at hl 0 rfl) ?_
      refine va_get (D := D) (ci := 0) (v := .int (ddRan v)) (C := RX0) (T := TX0) (N := 6) hx hb hts hi_RX0 hown hK hP 0 rfl rfl 1 (by decide) (hts (.fieldLink RX0 15 "TravelMarks$Deed" "ran" "I") (List.mem_of_getElem? (i := 1) rfl)) (fun _ h9 => h9) rfl dX0_note_14 ?_
      refine lv_iload_n hx hb dX0_note_17 rfl (lv_at hl 1 rfl) ?_
      obtain ⟨hi2, hf⟩ := ckA_e hf
      refine va_iast hx hb hK hP hD hS 1 0 rfl rfl hi2 dX0_note_18 (fun H locs hP hD hS => ?_)
      obtain ⟨v3, ev3, hf⟩ := lj_e hf
      have hP : va_P D vwCl (oDeed C a0 a1 v3 []) H := by rw [ev3]; exact hP
      have hD : va_D A (oDeed C a0 a1 v3 []) := by rw [ev3]; exact hD
      refine lv_aload_n hx hb dX0_note_19 rfl (lv_at hl 0 rfl) ?_
      refine lv_dup hx hb dX0_note_20 rfl ?_
      refine va_get (D := D) (ci := 0) (v := .int (ddRan v3)) (C := RX0) (T := TX0) (N := 6) hx hb hts hi_RX0 hown hK hP 0 rfl rfl 1 (by decide) (hts (.fieldLink RX0 15 "TravelMarks$Deed" "ran" "I") (List.mem_of_getElem? (i := 1) rfl)) (fun _ h9 => h9) rfl dX0_note_21 ?_
      refine lv_iconst (v := 1) hx hb dX0_note_24 rfl ?_
      refine lv_iadd hx hb dX0_note_25 ?_
      obtain ⟨t4, et4, hf⟩ := lj_e hf
      refine lv_ren et4 ?_
      refine va_put (D := D) (ci := 0) (v := .int t4) (ty := .int) (C := RX0) (T := TX0) (N := 6) hx hb hts hi_RX0 tyX0 tyX0_ok nmX0 hown hK hP hD hS 0 rfl rfl 1 (by decide) (hts (.fieldLink RX0 15 "TravelMarks$Deed" "ran" "I") (List.mem_of_getElem? (i := 1) rfl)) (fun _ h9 => h9) rfl (tyX0_ok 1 (by decide)) rfl rfl (Nat.le_of_ble_eq_true rfl) dX0_note_26 (fun H locs hP hD hS => ?_)
      obtain ⟨v5, ev5, hf⟩ := lj_e hf
      have hP : va_P D vwCl (oDeed C a0 a1 v5 []) H := by rw [ev5]; exact hP
      have hD : va_D A (oDeed C a0 a1 v5 []) := by rw [ev5]; exact hD
      cases hf
      exact krv hQ hAe hx hb hr hlocks hP hD hK hS dX0_note_29
  exact main _ _ hP hD hS

def rmX0_parted : Room := { frames := 0, cells := 0, slots := 0, locals := 0 }
theorem hdX0_parted : yX0_parted.cls = RX0 ∧ yX0_parted.cls ≠ "java/lang/invoke/MethodHandle" ∧ yX0_parted.cls ≠ "java/lang/invoke/VarHandle" ∧ (parseMethodDescriptor yX0_parted.desc).map (fun d => d.parameters.length) = some 1 := by decide +kernel
set_option maxHeartbeats 40000000 in
set_option maxRecDepth 100000 in
theorem c_X0_parted (l : Launch) (E : Nat → Nat) (D : va_G) (C : Nat → ClassId) (a0 a1 : Nat) (sz : Nat) (v : DV) (x0 : Int32) (r : Int32) (v' : DV) (hf : f_X0_parted v x0 = some (r, v')) : Met l yX0_parted wsX0_parted rmX0_parted (PC E D C [.ref a0, .int x0] (oDeed C a0 a1 v []) sz) (QI D C (oDeed C a0 a1 v []) (oDeed C a0 a1 (v') []) sz r) 0 0 (va_A (oDeed C a0 a1 v []) sz) := by
  refine Met.ofW (cc := cX0_parted) (maxL := 2) (ret := (some .int)) (by decide) rfl ?_
  intro p e s m args below meth c s₁ B hml hv
  obtain ⟨rfl, hsz, hP, hK, hD0, hE⟩ := hv
  have hx := B.exec
  have hb := B.bytes
  have hr := B.returns
  have hts := atoms_spec (ws := wsX0_parted) B.pre
  have hown : s.vm.findClass RX0 = some m.cls := findClass_of_methodNamed B.named
  have hlocks := B.notSynchronized
  subst hsz
  have hi_RX0 : ∀ w ∈ wsX00, w ∈ wsX0_parted := fun _ h => List.mem_cons_of_mem _ (List.mem_append_right _ h)
  have hD := hD0.self (sz := s.heap.size)
  obtain ⟨A, hAe⟩ := nm_ex (va_A (oDeed C a0 a1 v []) s.heap.size)
  rw [← hAe] at hD hE ⊢
  have hA : ∀ q : Nat, s.heap.size ≤ q → A q := fun q h => by rw [hAe]; exact Or.inr h
  have hS : va_S A s.heap s.heap [] := va_S.rf
  have hl := lv_entry ([.ref a0, .int x0]) (n := 2) (Nat.le_of_ble_eq_true rfl)
  rw [lg_entry_eq]
  generalize (lg_sl ([.ref a0, .int x0]) ++ List.replicate (2 - (lg_sl ([.ref a0, .int x0])).length) Slot.unset).toArray = ls at hl ⊢
  have hl : lv_has ls 2 [(0, .ref a0), (1, .int x0)] := hl
  obtain ⟨Q, hQ⟩ := nm_ex (MQ below (QI D C (oDeed C a0 a1 v []) (oDeed C a0 a1 (v') []) s.heap.size r) (List.toArray [Value.ref a0, Value.int x0]) s 0 0 A)
  show W p l e (headSpec wsX0_parted (rmX0_parted)).room s m (List.toArray [Value.ref a0, Value.int x0]) below meth c s.heap [] 0 0 (MQ below (QI D C (oDeed C a0 a1 v []) (oDeed C a0 a1 (v') []) s.heap.size r) (List.toArray [Value.ref a0, Value.int x0]) s 0 0 A) _
  rw [← hQ]
  unfold f_X0_parted at hf
  have main : ∀ (H : Heap) (locs : List Loc), va_P D vwCl (oDeed C a0 a1 v []) H → va_D A (oDeed C a0 a1 v []) → va_S A s.heap H locs → W p l e (headSpec wsX0_parted (rmX0_parted)).room s m (List.toArray [Value.ref a0, Value.int x0]) below meth c H locs 0 0 Q (F0 m 0 ls []) := by
    intro H locs hP hD hS
    refine lv_aload_n hx hb dX0_parted_0 rfl (lv_at hl 0 rfl) ?_
    refine va_get (D := D) (ci := 0) (v := .int (ddOn v)) (C := RX0) (T := TX0) (N := 6) hx hb hts hi_RX0 hown hK hP 0 rfl rfl 3 (by decide) (hts (.fieldLink RX0 26 "TravelMarks$Deed" "on" "I") (List.mem_of_getElem? (i := 1) rfl)) (fun _ h9 => h9) rfl dX0_parted_1 ?_
    refine lv_aload_n hx hb dX0_parted_4 rfl (lv_at hl 0 rfl) ?_
    refine va_get (D := D) (ci := 0) (v := .int (ddNumber v)) (C := RX0) (T := TX0) (N := 6) hx hb hts hi_RX0 hown hK hP 0 rfl rfl 2 (by decide) (hts (.fieldLink RX0 23 "TravelMarks$Deed" "number" "I") (List.mem_of_getElem? (i := 2) rfl)) (fun _ h9 => h9) rfl dX0_parted_5 ?_
    refine lv_icmp_ne (tgt := 18) hx hb dX0_parted_8 (by decide) (fun c1 => ?_) (fun c1 => ?_)
    · replace hf := if_fe c1 hf
      refine lv_iload_n hx hb dX0_parted_18 rfl (lv_at hl 1 rfl) ?_
      refine lv_aload_n hx hb dX0_parted_19 rfl (lv_at hl 0 rfl) ?_
      refine va_get (D := D) (ci := 0) (v := .int (ddOn v)) (C := RX0) (T := TX0) (N := 6) hx hb hts hi_RX0 hown hK hP 0 rfl rfl 3 (by decide) (hts (.fieldLink RX0 26 "TravelMarks$Deed" "on" "I") (List.mem_of_getElem? (i := 1) rfl)) (fun _ h9 => h9) rfl dX0_parted_20 ?_
      refine lv_aload_n hx hb dX0_parted_23 rfl (lv_at hl 0 rfl) ?_
      refine va_get (D := D) (ci := 0) (v := .int (ddNumber v)) (C := RX0) (T := TX0) (N := 6) hx hb hts hi_RX0 hown hK hP 0 rfl rfl 2 (by decide) (hts (.fieldLink RX0 23 "TravelMarks$Deed" "number" "I") (List.mem_of_getElem? (i := 2) rfl)) (fun _ h9 => h9) rfl dX0_parted_24 ?_
      refine lv_isub hx hb dX0_parted_27 ?_
      obtain ⟨hz2, hf⟩ := gdP_e hf
      refine lv_idiv hx hb dX0_parted_28 hz2 ?_
      obtain ⟨t3, et3, hf⟩ := lj_e hf
      refine lv_ren et3 ?_
      cases hf
      exact kri hQ hAe hx hb hr hlocks hP hD hK hS dX0_parted_29
    · replace hf := if_te c1 hf
      refine lv_aload_n hx hb dX0_parted_11 rfl (lv_at hl 0 rfl) ?_
      refine lv_iconst (v := 1) hx hb dX0_parted_12 rfl ?_
      refine va_put (D := D) (ci := 0) (v := .int 1) (ty := .boolean) (C := RX0) (T := TX0) (N := 6) hx hb hts hi_RX0 tyX0 tyX0_ok nmX0 hown hK hP hD hS 0 rfl rfl 5 (by decide) (hts (.fieldLink RX0 19 "TravelMarks$Deed" "partedBy0" "Z") (List.mem_of_getElem? (i := 3) rfl)) (fun _ h9 => h9) rfl (tyX0_ok 5 (by decide)) zb_1.1 zb_1.2 (Nat.le_of_ble_eq_true rfl) dX0_parted_13 (fun H locs hP hD hS => ?_)
      obtain ⟨v4, ev4, hf⟩ := lj_e hf
      have hP : va_P D vwCl (oDeed C a0 a1 v4 []) H := by rw [ev4]; exact hP
      have hD : va_D A (oDeed C a0 a1 v4 []) := by rw [ev4]; exact hD
      refine lv_iconst (v := 0) hx hb dX0_parted_16 rfl ?_
      cases hf
      exact kri hQ hAe hx hb hr hlocks hP hD hK hS dX0_parted_17
  exact main _ _ hP hD hS

def rmX0_run (d : Nat) : Room := { frames := 3 + d, cells := 0, slots := 0, locals := 65 + 29 * d }
theorem rlX0_run (d : Nat) : 8 + (10 + 11) + (65 + 29 * d) ≤ 65 + 29 * (d + 1) := by omega
theorem hdX0_run : yX0_run.cls ≠ "java/lang/invoke/MethodHandle" ∧ yX0_run.cls ≠ "java/lang/invoke/VarHandle" ∧ (parseMethodDescriptor yX0_run.desc).map (fun d => d.parameters.length) = some 5 := by decide +kernel
set_option maxHeartbeats 40000000 in
set_option maxRecDepth 100000 in
theorem c_X0_run (l : Launch) (E : Nat → Nat) (D : va_G) (C : Nat → ClassId) : ∀ (d : Nat) (b0_0 b0_1 : Nat) (sz : Nat) (N : Nat) (w0 : DV) (x1 : Int32) (x2 : Int32) (x3 : Int32) (x4 : Int32) (r : Int32) (w0' : DV) (hf : f_X0_run N d w0 x1 x2 x3 x4 = some (r, w0')), Met l yX0_run wsX0_run (rmX0_run d) (PC E D C [.ref b0_0, .int x1, .int x2, .int x3, .int x4] (oDeed C b0_0 b0_1 w0 []) sz) (QI D C (oDeed C b0_0 b0_1 w0 []) (oDeed C b0_0 b0_1 (w0') []) sz r) 0 0 (va_A (oDeed C b0_0 b0_1 w0 []) sz) := by
  intro d
  induction d with
  | zero =>
    intros
    rename_i hf
    exact absurd hf (fun h => by cases h)
  | succ d ihd =>
    intro b0_0 b0_1 sz N w0 x1 x2 x3 x4 r w0' hf
    refine Met.ofW (cc := cX0_run) (maxL := 10) (ret := (some .int)) (by decide) rfl ?_
    intro p e s m args below meth c s₁ B hml hv
    obtain ⟨rfl, hsz, hP, hK, hD0, hE⟩ := hv
    have hx := B.exec
    have hb := B.bytes
    have hr := B.returns
    have hts := atoms_spec (ws := wsX0_run) B.pre
    have hown : s.vm.findClass RX0 = some m.cls := findClass_of_methodNamed B.named
    have hlocks := B.notSynchronized
    subst hsz
    have hi_RX0 : ∀ w ∈ wsX00, w ∈ wsX0_run := fun _ h => List.mem_cons_of_mem _ (List.mem_append_right _ h)
    have hD := hD0.self (sz := s.heap.size)
    obtain ⟨A, hAe⟩ := nm_ex (va_A (oDeed C b0_0 b0_1 w0 []) s.heap.size)
    rw [← hAe] at hD hE ⊢
    have hA : ∀ q : Nat, s.heap.size ≤ q → A q := fun q h => by rw [hAe]; exact Or.inr h
    have hS : va_S A s.heap s.heap [] := va_S.rf
    have hl := lv_entry ([.ref b0_0, .int x1, .int x2, .int x3, .int x4]) (n := 10) (Nat.le_of_ble_eq_true rfl)
    rw [lg_entry_eq]
    generalize (lg_sl ([.ref b0_0, .int x1, .int x2, .int x3, .int x4]) ++ List.replicate (10 - (lg_sl ([.ref b0_0, .int x1, .int x2, .int x3, .int x4])).length) Slot.unset).toArray = ls at hl ⊢
    have hl : lv_has ls 10 [(0, .ref b0_0), (1, .int x1), (2, .int x2), (3, .int x3), (4, .int x4)] := hl
    obtain ⟨Q, hQ⟩ := nm_ex (MQ below (QI D C (oDeed C b0_0 b0_1 w0 []) (oDeed C b0_0 b0_1 (w0') []) s.heap.size r) (List.toArray [Value.ref b0_0, Value.int x1, Value.int x2, Value.int x3, Value.int x4]) s 0 0 A)
    show W p l e (headSpec wsX0_run (rmX0_run (d + 1))).room s m (List.toArray [Value.ref b0_0, Value.int x1, Value.int x2, Value.int x3, Value.int x4]) below meth c s.heap [] 0 0 (MQ below (QI D C (oDeed C b0_0 b0_1 w0 []) (oDeed C b0_0 b0_1 (w0') []) s.heap.size r) (List.toArray [Value.ref b0_0, Value.int x1, Value.int x2, Value.int x3, Value.int x4]) s 0 0 A) _
    rw [← hQ]
    rw [f_X0_run] at hf
    have main : ∀ (H : Heap) (locs : List Loc), va_P D vwCl (oDeed C b0_0 b0_1 w0 []) H → va_D A (oDeed C b0_0 b0_1 w0 []) → va_S A s.heap H locs → W p l e (headSpec wsX0_run (rmX0_run (d + 1))).room s m (List.toArray [Value.ref b0_0, Value.int x1, Value.int x2, Value.int x3, Value.int x4]) below meth c H locs 0 0 Q (F0 m 0 ls []) := by
      intro H locs hP hD hS
      refine lv_iload_n hx hb dX0_run_0 rfl (lv_at hl 1 rfl) ?_
      refine lv_iload_n hx hb dX0_run_1 rfl (lv_at hl 2 rfl) ?_
      obtain ⟨r1, h2, hf⟩ := ob1_e hf
      refine kci (Wx := (oDeed C b0_0 b0_1 w0 [])) (va_runS (As := [.int x1, .int x2]) (rest := []) ⟨hx, hb, hml, hown, hts⟩ (c_X0_withBody l E D C H.size N x1 x2 r1 h2) (va_cwS 2 hts gX0_run_X0_withBody rfl rfl rfl hdX0_withBody ⟨Nat.le_trans (Nat.le_of_ble_eq_true rfl) (Nat.le_add_right _ _), Nat.le_trans (Nat.le_of_ble_eq_true rfl) (Nat.le_add_right _ _)⟩) (kpre hP hD hK hS hE hA [] rfl rfl) rfl rfl hl.1 rfl (lv_room (Nat.le_of_ble_eq_true rfl)) dX0_run_2 ⟨Nat.zero_le _, Nat.zero_le _⟩) hP hD hS hA [] rfl rfl rfl (fun H locs hP hD hS => ?_)
      refine lv_istore (lv' := [(5, .int r1), (0, .ref b0_0), (1, .int x1), (2, .int x2), (3, .int x3), (4, .int x4)]) hx hb dX0_run_5 hl (by decide) rfl (fun ls hl => ?_)
      refine lv_aload_n hx hb dX0_run_7 rfl (lv_at hl 1 rfl) ?_
      refine va_get (D := D) (ci := 0) (v := .int (ddPartedBy0 w0)) (C := RX0) (T := TX0) (N := 6) hx hb hts hi_RX0 hown hK hP 0 rfl rfl 5 (by decide) (hts (.fieldLink RX0 19 "TravelMarks$Deed" "partedBy0" "Z") (List.mem_of_getElem? (i := 1) rfl)) (fun _ h9 => h9) rfl dX0_run_8 ?_
      refine lv_if_ne (tgt := 27) hx hb dX0_run_11 (by decide) (fun c3 => ?_) (fun c3 => ?_)
      · replace hf := if_fe c3 hf
        refine lv_iconst (v := 0) hx hb dX0_run_27 rfl ?_
        cases hf
        exact kri hQ hAe hx hb hr hlocks hP hD hK hS dX0_run_28
      · replace hf := if_te c3 hf
        refine lv_iload hx hb dX0_run_14 (lv_at hl 0 rfl) ?_
        refine lv_iconst (v := (-1)) hx hb dX0_run_16 rfl ?_
        refine lv_icmp_eq (tgt := 27) hx hb dX0_run_17 (by decide) (fun c4 => ?_) (fun c4 => ?_)
        · replace hf := if_te c4 hf
          refine lv_iconst (v := 0) hx hb dX0_run_27 rfl ?_
          cases hf
          exact kri hQ hAe hx hb hr hlocks hP hD hK hS dX0_run_28
        · replace hf := if_fe c4 hf
          refine lv_iload hx hb dX0_run_20 (lv_at hl 5 rfl) ?_
          refine lv_bipush (v := 40) hx hb dX0_run_22 rfl ?_
          refine lv_icmp_le (tgt := 29) hx hb dX0_run_24 (by decide) (fun c5 => ?_) (fun c5 => ?_)
          · replace hf := if_te c5 hf
            refine va_gets hx hb (tZ4 hE) hS hown (hts (.fieldLink RX0 40 "TravelMarks$Deed" "BODIES" "[I") (List.mem_of_getElem? (i := 2) rfl)) (fun _ h9 => h9) dX0_run_29 ?_
            refine lv_iload hx hb dX0_run_32 (lv_at hl 0 rfl) ?_
            refine lv_iconst (v := 4) hx hb dX0_run_34 rfl ?_
            refine lv_imul hx hb dX0_run_35 ?_
            refine lv_iload_n hx hb dX0_run_36 rfl (lv_at hl 3 rfl) ?_
            refine lv_iadd hx hb dX0_run_37 ?_
            obtain ⟨y7, ey7, hi6, hf⟩ := rdA_x hf
            refine va_ti hx hb (tT4 hE) hS hi6 (v := .int (tbBodies (((r1 * 4) + x2)).toNatClampNeg)) rfl dX0_run_38 ?_
            refine lv_ren ey7 ?_
            refine lv_istore (lv' := [(6, .int y7), (5, .int r1), (0, .ref b0_0), (1, .int x1), (2, .int x2), (3, .int x3), (4, .int x4)]) hx hb dX0_run_39 hl (by decide) rfl (fun ls hl => ?_)
            refine lv_aload_n hx hb dX0_run_41 rfl (lv_at hl 2 rfl) ?_
            refine lv_iload hx hb dX0_run_42 (lv_at hl 0 rfl) ?_
            obtain ⟨v8, h9, hf⟩ := ob1_e hf
            refine kcv (Wx := (oDeed C b0_0 b0_1 v8 [])) (va_runV (As := [.int y7]) (rest := []) ⟨hx, hb, hml, hown, hts⟩ (c_X0_note l E D C b0_0 b0_1 H.size w0 y7 v8 h9) (cwV 1 hts gX0_run_X0_note rfl rfl rfl hdX0_note ⟨Nat.le_trans (Nat.le_of_ble_eq_true rfl) (Nat.le_add_right _ _), Nat.le_trans (Nat.le_of_ble_eq_true rfl) (Nat.le_add_right _ _)⟩) (kpreV hP hD hK hS hE hA [0, 1] rfl rfl 0 rfl rfl rfl) rfl rfl hl.1 rfl (lv_room (Nat.le_of_ble_eq_true rfl)) dX0_run_44 ⟨Nat.zero_le _, Nat.zero_le _⟩) hP hD hS hA [0, 1] rfl rfl rfl (fun H locs hP hD hS => ?_)
            refine lv_aload_n hx hb dX0_run_47 rfl (lv_at hl 2 rfl) ?_
            refine va_get (D := D) (ci := 0) (v := .int (ddKind v8)) (C := RX0) (T := TX0) (N := 6) hx hb hts hi_RX0 hown hK hP 0 rfl rfl 4 (by decide) (hts (.fieldLink RX0 29 "TravelMarks$Deed" "kind" "I") (List.mem_of_getElem? (i := 3) rfl)) (fun _ h9 => h9) rfl dX0_run_48 ?_
            obtain ⟨t10, et10, hf⟩ := lj_e hf
            refine lv_ren et10 ?_
            refine lv_istore (lv' := [(7, .int t10), (6, .int y7), (5, .int r1), (0, .ref b0_0), (1, .int x1), (2, .int x2), (3, .int x3), (4, .int x4)]) hx hb dX0_run_51 hl (by decide) rfl (fun ls hl => ?_)
            refine va_getsN hx hb (tZ3 hE) hS hown ((hE.1.1 _ (List.mem_of_getElem? (i := 3) rfl)).use rfl) (fun _ h9 => h9) dX0_run_53 ?_
            refine lv_iload hx hb dX0_run_56 (lv_at hl 2 rfl) ?_
            obtain ⟨y12, ey12, hi11, hf⟩ := rdA_x hf
            refine va_ti hx hb (tT3 hE) hS hi11 (v := .int (tbAbove (r1).toNatClampNeg)) rfl dX0_run_58 ?_
            refine lv_ren ey12 ?_
            refine lv_istore (lv' := [(8, .int y12), (7, .int t10), (6, .int y7), (5, .int r1), (0, .ref b0_0), (1, .int x1), (2, .int x2), (3, .int x3), (4, .int x4)]) hx hb dX0_run_59 hl (by decide) rfl (fun ls hl => ?_)
            refine lv_iload hx hb dX0_run_61 (lv_at hl 8 rfl) ?_
            refine lv_iconst (v := 1) hx hb dX0_run_63 rfl ?_
            refine lv_iadd hx hb dX0_run_64 ?_
            obtain ⟨t13, et13, hf⟩ := lj_e hf
            refine lv_ren et13 ?_
            refine lv_istore (lv' := [(9, .int t13), (8, .int y12), (7, .int t10), (6, .int y7), (5, .int r1), (0, .ref b0_0), (1, .int x1), (2, .int x2), (3, .int x3), (4, .int x4)]) hx hb dX0_run_65 hl (by decide) rfl (fun ls hl => ?_)
            refine lv_iload hx hb dX0_run_67 (lv_at hl 3 rfl) ?_
            by_cases c14 : y7 = 10
            · replace hf := if_te c14 hf
              refine lv_tableIn (x := y7) (tgt := 292) (off := 223) hx hb dX0_run_69 (by rw [c14]; decide) (by rw [c14]; decide) (by rw [c14]; try rfl) (by decide) ?_
              refine lv_iload_n hx hb dX0_run_292 rfl (lv_at hl 8 rfl) ?_
              refine lv_iconst (v := 3) hx hb dX0_run_293 rfl ?_
              refine lv_imul hx hb dX0_run_294 ?_
              refine lv_aload_n hx hb dX0_run_295 rfl (lv_at hl 5 rfl) ?_
              refine va_get (D := D) (ci := 0) (v := .int (ddNumber v8)) (C := RX0) (T := TX0) (N := 6) hx hb hts hi_RX0 hown hK hP 0 rfl rfl 2 (by decide) (hts (.fieldLink RX0 23 "TravelMarks$Deed" "number" "I") (List.mem_of_getElem? (i := 4) rfl)) (fun _ h9 => h9) rfl dX0_run_296 ?_
              refine lv_iconst (v := 2) hx hb dX0_run_299 rfl ?_
              refine lv_imul hx hb dX0_run_300 ?_
              refine lv_iadd hx hb dX0_run_301 ?_
              obtain ⟨t15, et15, hf⟩ := lj_e hf
              refine lv_ren et15 ?_
              cases hf
              exact kri hQ hAe hx hb hr hlocks hP hD hK hS dX0_run_302
            replace hf := if_fe c14 hf
            by_cases c16 : y7 = 11
            · replace hf := if_te c16 hf
              refine lv_tableIn (x := y7) (tgt := 303) (off := 234) hx hb dX0_run_69 (by rw [c16]; decide) (by rw [c16]; decide) (by rw [c16]; try rfl) (by decide) ?_
              refine lv_aload_n hx hb dX0_run_303 rfl (lv_at hl 5 rfl) ?_
              refine lv_iload hx hb dX0_run_304 (lv_at hl 2 rfl) ?_
              refine lv_iconst (v := 0) hx hb dX0_run_306 rfl ?_
              refine lv_iload_n hx hb dX0_run_307 rfl (lv_at hl 8 rfl) ?_
              refine lv_iload hx hb dX0_run_308 (lv_at hl 0 rfl) ?_
              obtain ⟨r17, v18, h19, hf⟩ := ob2_e hf
              refine kci (Wx := (oDeed C b0_0 b0_1 v18 [])) (va_runS (As := [.ref b0_0, .int t10, .int 0, .int x3, .int t13]) (rest := []) ⟨hx, hb, hml, hown, hts⟩ (ihd b0_0 b0_1 H.size N v8 t10 0 x3 t13 r17 v18 h19) (va_cwS 5 hts gX0_run_X0_run rfl rfl rfl hdX0_run ⟨Nat.le_refl _, rlX0_run d⟩) (kpre hP hD hK hS hE hA [0, 1] rfl rfl) rfl rfl hl.1 rfl (lv_room (Nat.le_of_ble_eq_true rfl)) dX0_run_310 ⟨Nat.zero_le _, Nat.zero_le _⟩) hP hD hS hA [0, 1] rfl rfl rfl (fun H locs hP hD hS => ?_)
              refine lv_aload_n hx hb dX0_run_313 rfl (lv_at hl 5 rfl) ?_
              refine va_get (D := D) (ci := 0) (v := .int (ddOn v18)) (C := RX0) (T := TX0) (N := 6) hx hb hts hi_RX0 hown hK hP 0 rfl rfl 3 (by decide) (hts (.fieldLink RX0 26 "TravelMarks$Deed" "on" "I") (List.mem_of_getElem? (i := 5) rfl)) (fun _ h9 => h9) rfl dX0_run_314 ?_
              refine lv_isub hx hb dX0_run_317 ?_
              obtain ⟨t20, et20, hf⟩ := lj_e hf
              refine lv_ren et20 ?_
              cases hf
              exact kri hQ hAe hx hb hr hlocks hP hD hK hS dX0_run_318
            replace hf := if_fe c16 hf
            by_cases c21 : y7 = 12
            · replace hf := if_te c21 hf
              refine lv_tableIn (x := y7) (tgt := 319) (off := 250) hx hb dX0_run_69 (by rw [c21]; decide) (by rw [c21]; decide) (by rw [c21]; try rfl) (by decide) ?_
              refine lv_aload_n hx hb dX0_run_319 rfl (lv_at hl 5 rfl) ?_
              refine lv_iload_n hx hb dX0_run_320 rfl (lv_at hl 8 rfl) ?_
              obtain ⟨r22, v23, h24, hf⟩ := ob2_e hf
              refine kci (Wx := (oDeed C b0_0 b0_1 v23 [])) (va_runV (As := [.int x3]) (rest := []) ⟨hx, hb, hml, hown, hts⟩ (c_X0_parted l E D C b0_0 b0_1 H.size v8 x3 r22 v23 h24) (cwV 1 hts gX0_run_X0_parted rfl rfl rfl hdX0_parted ⟨Nat.le_trans (Nat.le_of_ble_eq_true rfl) (Nat.le_add_right _ _), Nat.le_trans (Nat.le_of_ble_eq_true rfl) (Nat.le_add_right _ _)⟩) (kpreV hP hD hK hS hE hA [0, 1] rfl rfl 0 rfl rfl rfl) rfl rfl hl.1 rfl (lv_room (Nat.le_of_ble_eq_true rfl)) dX0_run_321 ⟨Nat.zero_le _, Nat.zero_le _⟩) hP hD hS hA [0, 1] rfl rfl rfl (fun H locs hP hD hS => ?_)
              cases hf
              exact kri hQ hAe hx hb hr hlocks hP hD hK hS dX0_run_324
            replace hf := if_fe c21 hf
            by_cases c25 : y7 = 13
            · replace hf := if_te c25 hf
              refine lv_tableIn (x := y7) (tgt := 325) (off := 256) hx hb dX0_run_69 (by rw [c25]; decide) (by rw [c25]; decide) (by rw [c25]; try rfl) (by decide) ?_
              refine lv_aload_n hx hb dX0_run_325 rfl (lv_at hl 5 rfl) ?_
              refine lv_iload hx hb dX0_run_326 (lv_at hl 2 rfl) ?_
              refine lv_iconst (v := 1) hx hb dX0_run_328 rfl ?_
              refine lv_iload_n hx hb dX0_run_329 rfl (lv_at hl 8 rfl) ?_
              refine lv_iload hx hb dX0_run_330 (lv_at hl 0 rfl) ?_
              obtain ⟨r26, v27, h28, hf⟩ := ob2_e hf
              refine kci (Wx := (oDeed C b0_0 b0_1 v27 [])) (va_runS (As := [.ref b0_0, .int t10, .int 1, .int x3, .int t13]) (rest := []) ⟨hx, hb, hml, hown, hts⟩ (ihd b0_0 b0_1 H.size N v8 t10 1 x3 t13 r26 v27 h28) (va_cwS 5 hts gX0_run_X0_run rfl rfl rfl hdX0_run ⟨Nat.le_refl _, rlX0_run d⟩) (kpre hP hD hK hS hE hA [0, 1] rfl rfl) rfl rfl hl.1 rfl (lv_room (Nat.le_of_ble_eq_true rfl)) dX0_run_332 ⟨Nat.zero_le _, Nat.zero_le _⟩) hP hD hS hA [0, 1] rfl rfl rfl (fun H locs hP hD hS => ?_)
              refine lv_bipush (v := 120) hx hb dX0_run_335 rfl ?_
              refine lv_ixor hx hb dX0_run_337 ?_
              obtain ⟨t29, et29, hf⟩ := lj_e hf
              refine lv_ren et29 ?_
              cases hf
              exact kri hQ hAe hx hb hr hlocks hP hD hK hS dX0_run_338
            replace hf := if_fe c25 hf
            by_cases c30 : y7 = 14
            · replace hf := if_te c30 hf
              refine lv_tableIn (x := y7) (tgt := 499) (off := 430) hx hb dX0_run_69 (by rw [c30]; decide) (by rw [c30]; decide) (by rw [c30]; try rfl) (by decide) ?_
              refine lv_iconst (v := 0) hx hb dX0_run_499 rfl ?_
              cases hf
              exact kri hQ hAe hx hb hr hlocks hP hD hK hS dX0_run_500
            replace hf := if_fe c30 hf
            by_cases c31 : y7 = 15
            · replace hf := if_te c31 hf
              refine lv_tableIn (x := y7) (tgt := 499) (off := 430) hx hb dX0_run_69 (by rw [c31]; decide) (by rw [c31]; decide) (by rw [c31]; try rfl) (by decide) ?_
              refine lv_iconst (v := 0) hx hb dX0_run_499 rfl ?_
              cases hf
              exact kri hQ hAe hx hb hr hlocks hP hD hK hS dX0_run_500
            replace hf := if_fe c31 hf
            by_cases c32 : y7 = 16
            · replace hf := if_te c32 hf
              refine lv_tableIn (x := y7) (tgt := 499) (off := 430) hx hb dX0_run_69 (by rw [c32]; decide) (by rw [c32]; decide) (by rw [c32]; try rfl) (by decide) ?_
              refine lv_iconst (v := 0) hx hb dX0_run_499 rfl ?_
              cases hf
              exact kri hQ hAe hx hb hr hlocks hP hD hK hS dX0_run_500
            replace hf := if_fe c32 hf
            by_cases c33 : y7 = 17
            · replace hf := if_te c33 hf
              refine lv_tableIn (x := y7) (tgt := 499) (off := 430) hx hb dX0_run_69 (by rw [c33]; decide) (by rw [c33]; decide) (by rw [c33]; try rfl) (by decide) ?_
              refine lv_iconst (v := 0) hx hb dX0_run_499 rfl ?_
              cases hf
              exact kri hQ hAe hx hb hr hlocks hP hD hK hS dX0_run_500
            replace hf := if_fe c33 hf
            by_cases c34 : y7 = 18
            · replace hf := if_te c34 hf
              refine lv_tableIn (x := y7) (tgt := 499) (off := 430) hx hb dX0_run_69 (by rw [c34]; decide) (by rw [c34]; decide) (by rw [c34]; try rfl) (by decide) ?_
              refine lv_iconst (v := 0) hx hb dX0_run_499 rfl ?_
              cases hf
              exact kri hQ hAe hx hb hr hlocks hP hD hK hS dX0_run_500
            replace hf := if_fe c34 hf
            by_cases c35 : y7 = 19
            · replace hf := if_te c35 hf
              refine lv_tableIn (x := y7) (tgt := 499) (off := 430) hx hb dX0_run_69 (by rw [c35]; decide) (by rw [c35]; decide) (by rw [c35]; try rfl) (by decide) ?_
              refine lv_iconst (v := 0) hx hb dX0_run_499 rfl ?_
              cases hf
              exact kri hQ hAe hx hb hr hlocks hP hD hK hS dX0_run_500
            replace hf := if_fe c35 hf
            by_cases c36 : y7 = 20
            · replace hf := if_te c36 hf
              refine lv_tableIn (x := y7) (tgt := 339) (off := 270) hx hb dX0_run_69 (by rw [c36]; decide) (by rw [c36]; decide) (by rw [c36]; try rfl) (by decide) ?_
              refine lv_aload_n hx hb dX0_run_339 rfl (lv_at hl 5 rfl) ?_
              refine lv_iload hx hb dX0_run_340 (lv_at hl 1 rfl) ?_
              refine lv_iconst (v := 1) hx hb dX0_run_342 rfl ?_
              refine lv_iload_n hx hb dX0_run_343 rfl (lv_at hl 8 rfl) ?_
              refine lv_iload hx hb dX0_run_344 (lv_at hl 0 rfl) ?_
              obtain ⟨r37, v38, h39, hf⟩ := ob2_e hf
              refine kci (Wx := (oDeed C b0_0 b0_1 v38 [])) (va_runS (As := [.ref b0_0, .int y12, .int 1, .int x3, .int t13]) (rest := []) ⟨hx, hb, hml, hown, hts⟩ (ihd b0_0 b0_1 H.size N v8 y12 1 x3 t13 r37 v38 h39) (va_cwS 5 hts gX0_run_X0_run rfl rfl rfl hdX0_run ⟨Nat.le_refl _, rlX0_run d⟩) (kpre hP hD hK hS hE hA [0, 1] rfl rfl) rfl rfl hl.1 rfl (lv_room (Nat.le_of_ble_eq_true rfl)) dX0_run_346 ⟨Nat.zero_le _, Nat.zero_le _⟩) hP hD hS hA [0, 1] rfl rfl rfl (fun H locs hP hD hS => ?_)
              refine lv_iconst (v := 4) hx hb dX0_run_349 rfl ?_
              refine lv_imul hx hb dX0_run_350 ?_
              obtain ⟨t40, et40, hf⟩ := lj_e hf
              refine lv_ren et40 ?_
              cases hf
              exact kri hQ hAe hx hb hr hlocks hP hD hK hS dX0_run_351
            replace hf := if_fe c36 hf
            by_cases c41 : y7 = 21
            · replace hf := if_te c41 hf
              refine lv_tableIn (x := y7) (tgt := 499) (off := 430) hx hb dX0_run_69 (by rw [c41]; decide) (by rw [c41]; decide) (by rw [c41]; try rfl) (by decide) ?_
              refine lv_iconst (v := 0) hx hb dX0_run_499 rfl ?_
              cases hf
              exact kri hQ hAe hx hb hr hlocks hP hD hK hS dX0_run_500
            replace hf := if_fe c41 hf
            by_cases c42 : y7 = 22
            · replace hf := if_te c42 hf
              refine lv_tableIn (x := y7) (tgt := 499) (off := 430) hx hb dX0_run_69 (by rw [c42]; decide) (by rw [c42]; decide) (by rw [c42]; try rfl) (by decide) ?_
              refine lv_iconst (v := 0) hx hb dX0_run_499 rfl ?_
              cases hf
              exact kri hQ hAe hx hb hr hlocks hP hD hK hS dX0_run_500
            replace hf := if_fe c42 hf
            by_cases c43 : y7 = 23
            · replace hf := if_te c43 hf
              refine lv_tableIn (x := y7) (tgt := 499) (off := 430) hx hb dX0_run_69 (by rw [c43]; decide) (by rw [c43]; decide) (by rw [c43]; try rfl) (by decide) ?_
              refine lv_iconst (v := 0) hx hb dX0_run_499 rfl ?_
              cases hf
              exact kri hQ hAe hx hb hr hlocks hP hD hK hS dX0_run_500
            replace hf := if_fe c43 hf
            by_cases c44 : y7 = 24
            · replace hf := if_te c44 hf
              refine lv_tableIn (x := y7) (tgt := 499) (off := 430) hx hb dX0_run_69 (by rw [c44]; decide) (by rw [c44]; decide) (by rw [c44]; try rfl) (by decide) ?_
              refine lv_iconst (v := 0) hx hb dX0_run_499 rfl ?_
              cases hf
              exact kri hQ hAe hx hb hr hlocks hP hD hK hS dX0_run_500
            replace hf := if_fe c44 hf
            by_cases c45 : y7 = 25
            · replace hf := if_te c45 hf
              refine lv_tableIn (x := y7) (tgt := 499) (off := 430) hx hb dX0_run_69 (by rw [c45]; decide) (by rw [c45]; decide) (by rw [c45]; try rfl) (by decide) ?_
              refine lv_iconst (v := 0) hx hb dX0_run_499 rfl ?_
              cases hf
              exact kri hQ hAe hx hb hr hlocks hP hD hK hS dX0_run_500
            replace hf := if_fe c45 hf
            by_cases c46 : y7 = 26
            · replace hf := if_te c46 hf
              refine lv_tableIn (x := y7) (tgt := 499) (off := 430) hx hb dX0_run_69 (by rw [c46]; decide) (by rw [c46]; decide) (by rw [c46]; try rfl) (by decide) ?_
              refine lv_iconst (v := 0) hx hb dX0_run_499 rfl ?_
              cases hf
              exact kri hQ hAe hx hb hr hlocks hP hD hK hS dX0_run_500
            replace hf := if_fe c46 hf
            by_cases c47 : y7 = 27
            · replace hf := if_te c47 hf
              refine lv_tableIn (x := y7) (tgt := 499) (off := 430) hx hb dX0_run_69 (by rw [c47]; decide) (by rw [c47]; decide) (by rw [c47]; try rfl) (by decide) ?_
              refine lv_iconst (v := 0) hx hb dX0_run_499 rfl ?_
              cases hf
              exact kri hQ hAe hx hb hr hlocks hP hD hK hS dX0_run_500
            replace hf := if_fe c47 hf
            by_cases c48 : y7 = 28
            · replace hf := if_te c48 hf
              refine lv_tableIn (x := y7) (tgt := 499) (off := 430) hx hb dX0_run_69 (by rw [c48]; decide) (by rw [c48]; decide) (by rw [c48]; try rfl) (by decide) ?_
              refine lv_iconst (v := 0) hx hb dX0_run_499 rfl ?_
              cases hf
              exact kri hQ hAe hx hb hr hlocks hP hD hK hS dX0_run_500
            replace hf := if_fe c48 hf
            by_cases c49 : y7 = 29
            · replace hf := if_te c49 hf
              refine lv_tableIn (x := y7) (tgt := 499) (off := 430) hx hb dX0_run_69 (by rw [c49]; decide) (by rw [c49]; decide) (by rw [c49]; try rfl) (by decide) ?_
              refine lv_iconst (v := 0) hx hb dX0_run_499 rfl ?_
              cases hf
              exact kri hQ hAe hx hb hr hlocks hP hD hK hS dX0_run_500
            replace hf := if_fe c49 hf
            by_cases c50 : y7 = 30
            · replace hf := if_te c50 hf
              refine lv_tableIn (x := y7) (tgt := 352) (off := 283) hx hb dX0_run_69 (by rw [c50]; decide) (by rw [c50]; decide) (by rw [c50]; try rfl) (by decide) ?_
              refine lv_iconst (v := 0) hx hb dX0_run_352 rfl ?_
              refine lv_aload_n hx hb dX0_run_353 rfl (lv_at hl 5 rfl) ?_
              refine lv_iload hx hb dX0_run_354 (lv_at hl 1 rfl) ?_
              refine lv_iconst (v := 0) hx hb dX0_run_356 rfl ?_
              refine lv_iload_n hx hb dX0_run_357 rfl (lv_at hl 8 rfl) ?_
              refine lv_iload hx hb dX0_run_358 (lv_at hl 0 rfl) ?_
              obtain ⟨r51, v52, h53, hf⟩ := ob2_e hf
              refine kci (Wx := (oDeed C b0_0 b0_1 v52 [])) (va_runS (As := [.ref b0_0, .int y12, .int 0, .int x3, .int t13]) (rest := [.int 0]) ⟨hx, hb, hml, hown, hts⟩ (ihd b0_0 b0_1 H.size N v8 y12 0 x3 t13 r51 v52 h53) (va_cwS 5 hts gX0_run_X0_run rfl rfl rfl hdX0_run ⟨Nat.le_refl _, rlX0_run d⟩) (kpre hP hD hK hS hE hA [0, 1] rfl rfl) rfl rfl hl.1 rfl (lv_room (Nat.le_of_ble_eq_true rfl)) dX0_run_360 ⟨Nat.zero_le _, Nat.zero_le _⟩) hP hD hS hA [0, 1] rfl rfl rfl (fun H locs hP hD hS => ?_)
              refine lv_isub hx hb dX0_run_363 ?_
              obtain ⟨t54, et54, hf⟩ := lj_e hf
              refine lv_ren et54 ?_
              cases hf
              exact kri hQ hAe hx hb hr hlocks hP hD hK hS dX0_run_364
            replace hf := if_fe c50 hf
            by_cases c55 : y7 = 31
            · replace hf := if_te c55 hf
              refine lv_tableIn (x := y7) (tgt := 365) (off := 296) hx hb dX0_run_69 (by rw [c55]; decide) (by rw [c55]; decide) (by rw [c55]; try rfl) (by decide) ?_
              refine lv_aload_n hx hb dX0_run_365 rfl (lv_at hl 5 rfl) ?_
              refine lv_iload hx hb dX0_run_366 (lv_at hl 1 rfl) ?_
              refine lv_iconst (v := 3) hx hb dX0_run_368 rfl ?_
              refine lv_iload_n hx hb dX0_run_369 rfl (lv_at hl 8 rfl) ?_
              refine lv_iload hx hb dX0_run_370 (lv_at hl 0 rfl) ?_
              obtain ⟨r56, v57, h58, hf⟩ := ob2_e hf
              refine kci (Wx := (oDeed C b0_0 b0_1 v57 [])) (va_runS (As := [.ref b0_0, .int y12, .int 3, .int x3, .int t13]) (rest := []) ⟨hx, hb, hml, hown, hts⟩ (ihd b0_0 b0_1 H.size N v8 y12 3 x3 t13 r56 v57 h58) (va_cwS 5 hts gX0_run_X0_run rfl rfl rfl hdX0_run ⟨Nat.le_refl _, rlX0_run d⟩) (kpre hP hD hK hS hE hA [0, 1] rfl rfl) rfl rfl hl.1 rfl (lv_room (Nat.le_of_ble_eq_true rfl)) dX0_run_372 ⟨Nat.zero_le _, Nat.zero_le _⟩) hP hD hS hA [0, 1] rfl rfl rfl (fun H locs hP hD hS => ?_)
              refine lv_aload_n hx hb dX0_run_375 rfl (lv_at hl 5 rfl) ?_
              refine lv_iload hx hb dX0_run_376 (lv_at hl 2 rfl) ?_
              refine lv_iconst (v := 2) hx hb dX0_run_378 rfl ?_
              refine lv_aload_n hx hb dX0_run_379 rfl (lv_at hl 5 rfl) ?_
              refine va_get (D := D) (ci := 0) (v := .int (ddNumber v57)) (C := RX0) (T := TX0) (N := 6) hx hb hts hi_RX0 hown hK hP 0 rfl rfl 2 (by decide) (hts (.fieldLink RX0 23 "TravelMarks$Deed" "number" "I") (List.mem_of_getElem? (i := 4) rfl)) (fun _ h9 => h9) rfl dX0_run_380 ?_
              refine lv_iload hx hb dX0_run_383 (lv_at hl 0 rfl) ?_
              obtain ⟨r59, v60, h61, hf⟩ := ob2_e hf
              refine kci (Wx := (oDeed C b0_0 b0_1 v60 [])) (va_runS (As := [.ref b0_0, .int t10, .int 2, .int (ddNumber v57), .int t13]) (rest := [.int r56]) ⟨hx, hb, hml, hown, hts⟩ (ihd b0_0 b0_1 H.size N v57 t10 2 (ddNumber v57) t13 r59 v60 h61) (va_cwS 5 hts gX0_run_X0_run rfl rfl rfl hdX0_run ⟨Nat.le_refl _, rlX0_run d⟩) (kpre hP hD hK hS hE hA [0, 1] rfl rfl) rfl rfl hl.1 rfl (lv_room (Nat.le_of_ble_eq_true rfl)) dX0_run_385 ⟨Nat.zero_le _, Nat.zero_le _⟩) hP hD hS hA [0, 1] rfl rfl rfl (fun H locs hP hD hS => ?_)
              refine lv_iadd hx hb dX0_run_388 ?_
              obtain ⟨t62, et62, hf⟩ := lj_e hf
              refine lv_ren et62 ?_
              cases hf
              exact kri hQ hAe hx hb hr hlocks hP hD hK hS dX0_run_389
            replace hf := if_fe c55 hf
            by_cases c63 : y7 = 32
            · replace hf := if_te c63 hf
              refine lv_tableIn (x := y7) (tgt := 499) (off := 430) hx hb dX0_run_69 (by rw [c63]; decide) (by rw [c63]; decide) (by rw [c63]; try rfl) (by decide) ?_
              refine lv_iconst (v := 0) hx hb dX0_run_499 rfl ?_
              cases hf
              exact kri hQ hAe hx hb hr hlocks hP hD hK hS dX0_run_500
            replace hf := if_fe c63 hf
            by_cases c64 : y7 = 33
            · replace hf := if_te c64 hf
              refine lv_tableIn (x := y7) (tgt := 499) (off := 430) hx hb dX0_run_69 (by rw [c64]; decide) (by rw [c64]; decide) (by rw [c64]; try rfl) (by decide) ?_
              refine lv_iconst (v := 0) hx hb dX0_run_499 rfl ?_
              cases hf
              exact kri hQ hAe hx hb hr hlocks hP hD hK hS dX0_run_500
            replace hf := if_fe c64 hf
            by_cases c65 : y7 = 34
            · replace hf := if_te c65 hf
              refine lv_tableIn (x := y7) (tgt := 499) (off := 430) hx hb dX0_run_69 (by rw [c65]; decide) (by rw [c65]; decide) (by rw [c65]; try rfl) (by decide) ?_
              refine lv_iconst (v := 0) hx hb dX0_run_499 rfl ?_
              cases hf
              exact kri hQ hAe hx hb hr hlocks hP hD hK hS dX0_run_500
            replace hf := if_fe c65 hf
            by_cases c66 : y7 = 35
            · replace hf := if_te c66 hf
              refine lv_tableIn (x := y7) (tgt := 499) (off := 430) hx hb dX0_run_69 (by rw [c66]; decide) (by rw [c66]; decide) (by rw [c66]; try rfl) (by decide) ?_
              refine lv_iconst (v := 0) hx hb dX0_run_499 rfl ?_
              cases hf
              exact kri hQ hAe hx hb hr hlocks hP hD hK hS dX0_run_500
            replace hf := if_fe c66 hf
            by_cases c67 : y7 = 36
            · replace hf := if_te c67 hf
              refine lv_tableIn (x := y7) (tgt := 499) (off := 430) hx hb dX0_run_69 (by rw [c67]; decide) (by rw [c67]; decide) (by rw [c67]; try rfl) (by decide) ?_
              refine lv_iconst (v := 0) hx hb dX0_run_499 rfl ?_
              cases hf
              exact kri hQ hAe hx hb hr hlocks hP hD hK hS dX0_run_500
            replace hf := if_fe c67 hf
            by_cases c68 : y7 = 37
            · replace hf := if_te c68 hf
              refine lv_tableIn (x := y7) (tgt := 499) (off := 430) hx hb dX0_run_69 (by rw [c68]; decide) (by rw [c68]; decide) (by rw [c68]; try rfl) (by decide) ?_
              refine lv_iconst (v := 0) hx hb dX0_run_499 rfl ?_
              cases hf
              exact kri hQ hAe hx hb hr hlocks hP hD hK hS dX0_run_500
            replace hf := if_fe c68 hf
            by_cases c69 : y7 = 38
            · replace hf := if_te c69 hf
              refine lv_tableIn (x := y7) (tgt := 499) (off := 430) hx hb dX0_run_69 (by rw [c69]; decide) (by rw [c69]; decide) (by rw [c69]; try rfl) (by decide) ?_
              refine lv_iconst (v := 0) hx hb dX0_run_499 rfl ?_
              cases hf
              exact kri hQ hAe hx hb hr hlocks hP hD hK hS dX0_run_500
            replace hf := if_fe c69 hf
            by_cases c70 : y7 = 39
            · replace hf := if_te c70 hf
              refine lv_tableIn (x := y7) (tgt := 499) (off := 430) hx hb dX0_run_69 (by rw [c70]; decide) (by rw [c70]; decide) (by rw [c70]; try rfl) (by decide) ?_
              refine lv_iconst (v := 0) hx hb dX0_run_499 rfl ?_
              cases hf
              exact kri hQ hAe hx hb hr hlocks hP hD hK hS dX0_run_500
            replace hf := if_fe c70 hf
            by_cases c71 : y7 = 40
            · replace hf := if_te c71 hf
              refine lv_tableIn (x := y7) (tgt := 390) (off := 321) hx hb dX0_run_69 (by rw [c71]; decide) (by rw [c71]; decide) (by rw [c71]; try rfl) (by decide) ?_
              refine lv_aload_n hx hb dX0_run_390 rfl (lv_at hl 5 rfl) ?_
              refine lv_iload hx hb dX0_run_391 (lv_at hl 1 rfl) ?_
              refine lv_iconst (v := 0) hx hb dX0_run_393 rfl ?_
              refine lv_iload_n hx hb dX0_run_394 rfl (lv_at hl 8 rfl) ?_
              refine lv_iload hx hb dX0_run_395 (lv_at hl 0 rfl) ?_
              obtain ⟨r72, v73, h74, hf⟩ := ob2_e hf
              refine kci (Wx := (oDeed C b0_0 b0_1 v73 [])) (va_runS (As := [.ref b0_0, .int y12, .int 0, .int x3, .int t13]) (rest := []) ⟨hx, hb, hml, hown, hts⟩ (ihd b0_0 b0_1 H.size N v8 y12 0 x3 t13 r72 v73 h74) (va_cwS 5 hts gX0_run_X0_run rfl rfl rfl hdX0_run ⟨Nat.le_refl _, rlX0_run d⟩) (kpre hP hD hK hS hE hA [0, 1] rfl rfl) rfl rfl hl.1 rfl (lv_room (Nat.le_of_ble_eq_true rfl)) dX0_run_397 ⟨Nat.zero_le _, Nat.zero_le _⟩) hP hD hS hA [0, 1] rfl rfl rfl (fun H locs hP hD hS => ?_)
              refine lv_bipush (v := 9) hx hb dX0_run_400 rfl ?_
              refine lv_ixor hx hb dX0_run_402 ?_
              obtain ⟨t75, et75, hf⟩ := lj_e hf
              refine lv_ren et75 ?_
              cases hf
              exact kri hQ hAe hx hb hr hlocks hP hD hK hS dX0_run_403
            replace hf := if_fe c71 hf
            by_cases c76 : y7 = 41
            · replace hf := if_te c76 hf
              refine lv_tableIn (x := y7) (tgt := 404) (off := 335) hx hb dX0_run_69 (by rw [c76]; decide) (by rw [c76]; decide) (by rw [c76]; try rfl) (by decide) ?_
              refine lv_aload_n hx hb dX0_run_404 rfl (lv_at hl 5 rfl) ?_
              refine lv_iload hx hb dX0_run_405 (lv_at hl 1 rfl) ?_
              refine lv_iconst (v := 1) hx hb dX0_run_407 rfl ?_
              refine lv_iload_n hx hb dX0_run_408 rfl (lv_at hl 8 rfl) ?_
              refine lv_iload hx hb dX0_run_409 (lv_at hl 0 rfl) ?_
              obtain ⟨r77, v78, h79, hf⟩ := ob2_e hf
              refine kci (Wx := (oDeed C b0_0 b0_1 v78 [])) (va_runS (As := [.ref b0_0, .int y12, .int 1, .int x3, .int t13]) (rest := []) ⟨hx, hb, hml, hown, hts⟩ (ihd b0_0 b0_1 H.size N v8 y12 1 x3 t13 r77 v78 h79) (va_cwS 5 hts gX0_run_X0_run rfl rfl rfl hdX0_run ⟨Nat.le_refl _, rlX0_run d⟩) (kpre hP hD hK hS hE hA [0, 1] rfl rfl) rfl rfl hl.1 rfl (lv_room (Nat.le_of_ble_eq_true rfl)) dX0_run_411 ⟨Nat.zero_le _, Nat.zero_le _⟩) hP hD hS hA [0, 1] rfl rfl rfl (fun H locs hP hD hS => ?_)
              refine lv_aload_n hx hb dX0_run_414 rfl (lv_at hl 5 rfl) ?_
              refine lv_iload hx hb dX0_run_415 (lv_at hl 2 rfl) ?_
              refine lv_iconst (v := 0) hx hb dX0_run_417 rfl ?_
              refine lv_aload_n hx hb dX0_run_418 rfl (lv_at hl 5 rfl) ?_
              refine va_get (D := D) (ci := 0) (v := .int (ddOn v78)) (C := RX0) (T := TX0) (N := 6) hx hb hts hi_RX0 hown hK hP 0 rfl rfl 3 (by decide) (hts (.fieldLink RX0 26 "TravelMarks$Deed" "on" "I") (List.mem_of_getElem? (i := 5) rfl)) (fun _ h9 => h9) rfl dX0_run_419 ?_
              refine lv_iload hx hb dX0_run_422 (lv_at hl 0 rfl) ?_
              obtain ⟨r80, v81, h82, hf⟩ := ob2_e hf
              refine kci (Wx := (oDeed C b0_0 b0_1 v81 [])) (va_runS (As := [.ref b0_0, .int t10, .int 0, .int (ddOn v78), .int t13]) (rest := [.int r77]) ⟨hx, hb, hml, hown, hts⟩ (ihd b0_0 b0_1 H.size N v78 t10 0 (ddOn v78) t13 r80 v81 h82) (va_cwS 5 hts gX0_run_X0_run rfl rfl rfl hdX0_run ⟨Nat.le_refl _, rlX0_run d⟩) (kpre hP hD hK hS hE hA [0, 1] rfl rfl) rfl rfl hl.1 rfl (lv_room (Nat.le_of_ble_eq_true rfl)) dX0_run_424 ⟨Nat.zero_le _, Nat.zero_le _⟩) hP hD hS hA [0, 1] rfl rfl rfl (fun H locs hP hD hS => ?_)
              refine lv_iadd hx hb dX0_run_427 ?_
              obtain ⟨t83, et83, hf⟩ := lj_e hf
              refine lv_ren et83 ?_
              cases hf
              exact kri hQ hAe hx hb hr hlocks hP hD hK hS dX0_run_428
            replace hf := if_fe c76 hf
            by_cases c84 : y7 = 42
            · replace hf := if_te c84 hf
              refine lv_tableIn (x := y7) (tgt := 499) (off := 430) hx hb dX0_run_69 (by rw [c84]; decide) (by rw [c84]; decide) (by rw [c84]; try rfl) (by decide) ?_
              refine lv_iconst (v := 0) hx hb dX0_run_499 rfl ?_
              cases hf
              exact kri hQ hAe hx hb hr hlocks hP hD hK hS dX0_run_500
            replace hf := if_fe c84 hf
            by_cases c85 : y7 = 43
            · replace hf := if_te c85 hf
              refine lv_tableIn (x := y7) (tgt := 499) (off := 430) hx hb dX0_run_69 (by rw [c85]; decide) (by rw [c85]; decide) (by rw [c85]; try rfl) (by decide) ?_
              refine lv_iconst (v := 0) hx hb dX0_run_499 rfl ?_
              cases hf
              exact kri hQ hAe hx hb hr hlocks hP hD hK hS dX0_run_500
            replace hf := if_fe c85 hf
            by_cases c86 : y7 = 44
            · replace hf := if_te c86 hf
              refine lv_tableIn (x := y7) (tgt := 499) (off := 430) hx hb dX0_run_69 (by rw [c86]; decide) (by rw [c86]; decide) (by rw [c86]; try rfl) (by decide) ?_
              refine lv_iconst (v := 0) hx hb dX0_run_499 rfl ?_
              cases hf
              exact kri hQ hAe hx hb hr hlocks hP hD hK hS dX0_run_500
            replace hf := if_fe c86 hf
            by_cases c87 : y7 = 45
            · replace hf := if_te c87 hf
              refine lv_tableIn (x := y7) (tgt := 499) (off := 430) hx hb dX0_run_69 (by rw [c87]; decide) (by rw [c87]; decide) (by rw [c87]; try rfl) (by decide) ?_
              refine lv_iconst (v := 0) hx hb dX0_run_499 rfl ?_
              cases hf
              exact kri hQ hAe hx hb hr hlocks hP hD hK hS dX0_run_500
            replace hf := if_fe c87 hf
            by_cases c88 : y7 = 46
            · replace hf := if_te c88 hf
              refine lv_tableIn (x := y7) (tgt := 499) (off := 430) hx hb dX0_run_69 (by rw [c88]; decide) (by rw [c88]; decide) (by rw [c88]; try rfl) (by decide) ?_
              refine lv_iconst (v := 0) hx hb dX0_run_499 rfl ?_
              cases hf
              exact kri hQ hAe hx hb hr hlocks hP hD hK hS dX0_run_500
            replace hf := if_fe c88 hf
            by_cases c89 : y7 = 47
            · replace hf := if_te c89 hf
              refine lv_tableIn (x := y7) (tgt := 499) (off := 430) hx hb dX0_run_69 (by rw [c89]; decide) (by rw [c89]; decide) (by rw [c89]; try rfl) (by decide) ?_
              refine lv_iconst (v := 0) hx hb dX0_run_499 rfl ?_
              cases hf
              exact kri hQ hAe hx hb hr hlocks hP hD hK hS dX0_run_500
            replace hf := if_fe c89 hf
            by_cases c90 : y7 = 48
            · replace hf := if_te c90 hf
              refine lv_tableIn (x := y7) (tgt := 499) (off := 430) hx hb dX0_run_69 (by rw [c90]; decide) (by rw [c90]; decide) (by rw [c90]; try rfl) (by decide) ?_
              refine lv_iconst (v := 0) hx hb dX0_run_499 rfl ?_
              cases hf
              exact kri hQ hAe hx hb hr hlocks hP hD hK hS dX0_run_500
            replace hf := if_fe c90 hf
            by_cases c91 : y7 = 49
            · replace hf := if_te c91 hf
              refine lv_tableIn (x := y7) (tgt := 499) (off := 430) hx hb dX0_run_69 (by rw [c91]; decide) (by rw [c91]; decide) (by rw [c91]; try rfl) (by decide) ?_
              refine lv_iconst (v := 0) hx hb dX0_run_499 rfl ?_
              cases hf
              exact kri hQ hAe hx hb hr hlocks hP hD hK hS dX0_run_500
            replace hf := if_fe c91 hf
            by_cases c92 : y7 = 50
            · replace hf := if_te c92 hf
              refine lv_tableIn (x := y7) (tgt := 429) (off := 360) hx hb dX0_run_69 (by rw [c92]; decide) (by rw [c92]; decide) (by rw [c92]; try rfl) (by decide) ?_
              refine lv_aload_n hx hb dX0_run_429 rfl (lv_at hl 5 rfl) ?_
              refine lv_iload hx hb dX0_run_430 (lv_at hl 1 rfl) ?_
              refine lv_iconst (v := 2) hx hb dX0_run_432 rfl ?_
              refine lv_iload_n hx hb dX0_run_433 rfl (lv_at hl 8 rfl) ?_
              refine lv_iconst (v := 2) hx hb dX0_run_434 rfl ?_
              refine lv_imul hx hb dX0_run_435 ?_
              refine lv_iload hx hb dX0_run_436 (lv_at hl 0 rfl) ?_
              obtain ⟨r93, v94, h95, hf⟩ := ob2_e hf
              refine kci (Wx := (oDeed C b0_0 b0_1 v94 [])) (va_runS (As := [.ref b0_0, .int y12, .int 2, .int (x3 * 2), .int t13]) (rest := []) ⟨hx, hb, hml, hown, hts⟩ (ihd b0_0 b0_1 H.size N v8 y12 2 (x3 * 2) t13 r93 v94 h95) (va_cwS 5 hts gX0_run_X0_run rfl rfl rfl hdX0_run ⟨Nat.le_refl _, rlX0_run d⟩) (kpre hP hD hK hS hE hA [0, 1] rfl rfl) rfl rfl hl.1 rfl (lv_room (Nat.le_of_ble_eq_true rfl)) dX0_run_438 ⟨Nat.zero_le _, Nat.zero_le _⟩) hP hD hS hA [0, 1] rfl rfl rfl (fun H locs hP hD hS => ?_)
              refine lv_iconst (v := 3) hx hb dX0_run_441 rfl ?_
              refine lv_isub hx hb dX0_run_442 ?_
              obtain ⟨t96, et96, hf⟩ := lj_e hf
              refine lv_ren et96 ?_
              cases hf
              exact kri hQ hAe hx hb hr hlocks hP hD hK hS dX0_run_443
            replace hf := if_fe c92 hf
            by_cases c97 : y7 = 51
            · replace hf := if_te c97 hf
              refine lv_tableIn (x := y7) (tgt := 444) (off := 375) hx hb dX0_run_69 (by rw [c97]; decide) (by rw [c97]; decide) (by rw [c97]; try rfl) (by decide) ?_
              refine lv_aload_n hx hb dX0_run_444 rfl (lv_at hl 5 rfl) ?_
              refine lv_iload hx hb dX0_run_445 (lv_at hl 1 rfl) ?_
              refine lv_iconst (v := 0) hx hb dX0_run_447 rfl ?_
              refine lv_iload_n hx hb dX0_run_448 rfl (lv_at hl 8 rfl) ?_
              refine lv_iload hx hb dX0_run_449 (lv_at hl 0 rfl) ?_
              obtain ⟨r98, v99, h100, hf⟩ := ob2_e hf
              refine kci (Wx := (oDeed C b0_0 b0_1 v99 [])) (va_runS (As := [.ref b0_0, .int y12, .int 0, .int x3, .int t13]) (rest := []) ⟨hx, hb, hml, hown, hts⟩ (ihd b0_0 b0_1 H.size N v8 y12 0 x3 t13 r98 v99 h100) (va_cwS 5 hts gX0_run_X0_run rfl rfl rfl hdX0_run ⟨Nat.le_refl _, rlX0_run d⟩) (kpre hP hD hK hS hE hA [0, 1] rfl rfl) rfl rfl hl.1 rfl (lv_room (Nat.le_of_ble_eq_true rfl)) dX0_run_451 ⟨Nat.zero_le _, Nat.zero_le _⟩) hP hD hS hA [0, 1] rfl rfl rfl (fun H locs hP hD hS => ?_)
              refine lv_aload_n hx hb dX0_run_454 rfl (lv_at hl 5 rfl) ?_
              refine va_get (D := D) (ci := 0) (v := .int (ddOn v99)) (C := RX0) (T := TX0) (N := 6) hx hb hts hi_RX0 hown hK hP 0 rfl rfl 3 (by decide) (hts (.fieldLink RX0 26 "TravelMarks$Deed" "on" "I") (List.mem_of_getElem? (i := 5) rfl)) (fun _ h9 => h9) rfl dX0_run_455 ?_
              refine lv_iadd hx hb dX0_run_458 ?_
              obtain ⟨t101, et101, hf⟩ := lj_e hf
              refine lv_ren et101 ?_
              cases hf
              exact kri hQ hAe hx hb hr hlocks hP hD hK hS dX0_run_459
            replace hf := if_fe c97 hf
            by_cases c102 : y7 = 52
            · replace hf := if_te c102 hf
              refine lv_tableIn (x := y7) (tgt := 499) (off := 430) hx hb dX0_run_69 (by rw [c102]; decide) (by rw [c102]; decide) (by rw [c102]; try rfl) (by decide) ?_
              refine lv_iconst (v := 0) hx hb dX0_run_499 rfl ?_
              cases hf
              exact kri hQ hAe hx hb hr hlocks hP hD hK hS dX0_run_500
            replace hf := if_fe c102 hf
            by_cases c103 : y7 = 53
            · replace hf := if_te c103 hf
              refine lv_tableIn (x := y7) (tgt := 499) (off := 430) hx hb dX0_run_69 (by rw [c103]; decide) (by rw [c103]; decide) (by rw [c103]; try rfl) (by decide) ?_
              refine lv_iconst (v := 0) hx hb dX0_run_499 rfl ?_
              cases hf
              exact kri hQ hAe hx hb hr hlocks hP hD hK hS dX0_run_500
            replace hf := if_fe c103 hf
            by_cases c104 : y7 = 54
            · replace hf := if_te c104 hf
              refine lv_tableIn (x := y7) (tgt := 499) (off := 430) hx hb dX0_run_69 (by rw [c104]; decide) (by rw [c104]; decide) (by rw [c104]; try rfl) (by decide) ?_
              refine lv_iconst (v := 0) hx hb dX0_run_499 rfl ?_
              cases hf
              exact kri hQ hAe hx hb hr hlocks hP hD hK hS dX0_run_500
            replace hf := if_fe c104 hf
            by_cases c105 : y7 = 55
            · replace hf := if_te c105 hf
              refine lv_tableIn (x := y7) (tgt := 499) (off := 430) hx hb dX0_run_69 (by rw [c105]; decide) (by rw [c105]; decide) (by rw [c105]; try rfl) (by decide) ?_
              refine lv_iconst (v := 0) hx hb dX0_run_499 rfl ?_
              cases hf
              exact kri hQ hAe hx hb hr hlocks hP hD hK hS dX0_run_500
            replace hf := if_fe c105 hf
            by_cases c106 : y7 = 56
            · replace hf := if_te c106 hf
              refine lv_tableIn (x := y7) (tgt := 499) (off := 430) hx hb dX0_run_69 (by rw [c106]; decide) (by rw [c106]; decide) (by rw [c106]; try rfl) (by decide) ?_
              refine lv_iconst (v := 0) hx hb dX0_run_499 rfl ?_
              cases hf
              exact kri hQ hAe hx hb hr hlocks hP hD hK hS dX0_run_500
            replace hf := if_fe c106 hf
            by_cases c107 : y7 = 57
            · replace hf := if_te c107 hf
              refine lv_tableIn (x := y7) (tgt := 499) (off := 430) hx hb dX0_run_69 (by rw [c107]; decide) (by rw [c107]; decide) (by rw [c107]; try rfl) (by decide) ?_
              refine lv_iconst (v := 0) hx hb dX0_run_499 rfl ?_
              cases hf
              exact kri hQ hAe hx hb hr hlocks hP hD hK hS dX0_run_500
            replace hf := if_fe c107 hf
            by_cases c108 : y7 = 58
            · replace hf := if_te c108 hf
              refine lv_tableIn (x := y7) (tgt := 499) (off := 430) hx hb dX0_run_69 (by rw [c108]; decide) (by rw [c108]; decide) (by rw [c108]; try rfl) (by decide) ?_
              refine lv_iconst (v := 0) hx hb dX0_run_499 rfl ?_
              cases hf
              exact kri hQ hAe hx hb hr hlocks hP hD hK hS dX0_run_500
            replace hf := if_fe c108 hf
            by_cases c109 : y7 = 59
            · replace hf := if_te c109 hf
              refine lv_tableIn (x := y7) (tgt := 499) (off := 430) hx hb dX0_run_69 (by rw [c109]; decide) (by rw [c109]; decide) (by rw [c109]; try rfl) (by decide) ?_
              refine lv_iconst (v := 0) hx hb dX0_run_499 rfl ?_
              cases hf
              exact kri hQ hAe hx hb hr hlocks hP hD hK hS dX0_run_500
            replace hf := if_fe c109 hf
            by_cases c110 : y7 = 60
            · replace hf := if_te c110 hf
              refine lv_tableIn (x := y7) (tgt := 460) (off := 391) hx hb dX0_run_69 (by rw [c110]; decide) (by rw [c110]; decide) (by rw [c110]; try rfl) (by decide) ?_
              refine lv_bipush (v := 7) hx hb dX0_run_460 rfl ?_
              refine lv_aload_n hx hb dX0_run_462 rfl (lv_at hl 5 rfl) ?_
              refine lv_iload hx hb dX0_run_463 (lv_at hl 1 rfl) ?_
              refine lv_iconst (v := 3) hx hb dX0_run_465 rfl ?_
              refine lv_iload_n hx hb dX0_run_466 rfl (lv_at hl 8 rfl) ?_
              refine lv_iload hx hb dX0_run_467 (lv_at hl 0 rfl) ?_
              obtain ⟨r111, v112, h113, hf⟩ := ob2_e hf
              refine kci (Wx := (oDeed C b0_0 b0_1 v112 [])) (va_runS (As := [.ref b0_0, .int y12, .int 3, .int x3, .int t13]) (rest := [.int 7]) ⟨hx, hb, hml, hown, hts⟩ (ihd b0_0 b0_1 H.size N v8 y12 3 x3 t13 r111 v112 h113) (va_cwS 5 hts gX0_run_X0_run rfl rfl rfl hdX0_run ⟨Nat.le_refl _, rlX0_run d⟩) (kpre hP hD hK hS hE hA [0, 1] rfl rfl) rfl rfl hl.1 rfl (lv_room (Nat.le_of_ble_eq_true rfl)) dX0_run_469 ⟨Nat.zero_le _, Nat.zero_le _⟩) hP hD hS hA [0, 1] rfl rfl rfl (fun H locs hP hD hS => ?_)
              refine lv_isub hx hb dX0_run_472 ?_
              obtain ⟨t114, et114, hf⟩ := lj_e hf
              refine lv_ren et114 ?_
              cases hf
              exact kri hQ hAe hx hb hr hlocks hP hD hK hS dX0_run_473
            replace hf := if_fe c110 hf
            by_cases c115 : y7 = 61
            · replace hf := if_te c115 hf
              refine lv_tableIn (x := y7) (tgt := 474) (off := 405) hx hb dX0_run_69 (by rw [c115]; decide) (by rw [c115]; decide) (by rw [c115]; try rfl) (by decide) ?_
              refine lv_aload_n hx hb dX0_run_474 rfl (lv_at hl 5 rfl) ?_
              refine lv_iload hx hb dX0_run_475 (lv_at hl 1 rfl) ?_
              refine lv_iconst (v := 2) hx hb dX0_run_477 rfl ?_
              refine lv_iload_n hx hb dX0_run_478 rfl (lv_at hl 8 rfl) ?_
              refine lv_iload hx hb dX0_run_479 (lv_at hl 0 rfl) ?_
              obtain ⟨r116, v117, h118, hf⟩ := ob2_e hf
              refine kci (Wx := (oDeed C b0_0 b0_1 v117 [])) (va_runS (As := [.ref b0_0, .int y12, .int 2, .int x3, .int t13]) (rest := []) ⟨hx, hb, hml, hown, hts⟩ (ihd b0_0 b0_1 H.size N v8 y12 2 x3 t13 r116 v117 h118) (va_cwS 5 hts gX0_run_X0_run rfl rfl rfl hdX0_run ⟨Nat.le_refl _, rlX0_run d⟩) (kpre hP hD hK hS hE hA [0, 1] rfl rfl) rfl rfl hl.1 rfl (lv_room (Nat.le_of_ble_eq_true rfl)) dX0_run_481 ⟨Nat.zero_le _, Nat.zero_le _⟩) hP hD hS hA [0, 1] rfl rfl rfl (fun H locs hP hD hS => ?_)
              refine lv_aload_n hx hb dX0_run_484 rfl (lv_at hl 5 rfl) ?_
              refine lv_iload hx hb dX0_run_485 (lv_at hl 2 rfl) ?_
              refine lv_iconst (v := 0) hx hb dX0_run_487 rfl ?_
              refine lv_aload_n hx hb dX0_run_488 rfl (lv_at hl 5 rfl) ?_
              refine va_get (D := D) (ci := 0) (v := .int (ddNumber v117)) (C := RX0) (T := TX0) (N := 6) hx hb hts hi_RX0 hown hK hP 0 rfl rfl 2 (by decide) (hts (.fieldLink RX0 23 "TravelMarks$Deed" "number" "I") (List.mem_of_getElem? (i := 4) rfl)) (fun _ h9 => h9) rfl dX0_run_489 ?_
              refine lv_iload hx hb dX0_run_492 (lv_at hl 0 rfl) ?_
              obtain ⟨r119, v120, h121, hf⟩ := ob2_e hf
              refine kci (Wx := (oDeed C b0_0 b0_1 v120 [])) (va_runS (As := [.ref b0_0, .int t10, .int 0, .int (ddNumber v117), .int t13]) (rest := [.int r116]) ⟨hx, hb, hml, hown, hts⟩ (ihd b0_0 b0_1 H.size N v117 t10 0 (ddNumber v117) t13 r119 v120 h121) (va_cwS 5 hts gX0_run_X0_run rfl rfl rfl hdX0_run ⟨Nat.le_refl _, rlX0_run d⟩) (kpre hP hD hK hS hE hA [0, 1] rfl rfl) rfl rfl hl.1 rfl (lv_room (Nat.le_of_ble_eq_true rfl)) dX0_run_494 ⟨Nat.zero_le _, Nat.zero_le _⟩) hP hD hS hA [0, 1] rfl rfl rfl (fun H locs hP hD hS => ?_)
              refine lv_isub hx hb dX0_run_497 ?_
              obtain ⟨t122, et122, hf⟩ := lj_e hf
              refine lv_ren et122 ?_
              cases hf
              exact kri hQ hAe hx hb hr hlocks hP hD hK hS dX0_run_498
            replace hf := if_fe c115 hf
            refine lv_tableOut (x := y7) (tgt := 499) hx hb dX0_run_69 (swo_10_61 c14 c16 c21 c25 c30 c31 c32 c33 c34 c35 c36 c41 c42 c43 c44 c45 c46 c47 c48 c49 c50 c55 c63 c64 c65 c66 c67 c68 c69 c70 c71 c76 c84 c85 c86 c87 c88 c89 c90 c91 c92 c97 c102 c103 c104 c105 c106 c107 c108 c109 c110 c115) (by decide) ?_
            refine lv_iconst (v := 0) hx hb dX0_run_499 rfl ?_
            cases hf
            exact kri hQ hAe hx hb hr hlocks hP hD hK hS dX0_run_500
          · replace hf := if_fe c5 hf
            refine lv_iconst (v := 0) hx hb dX0_run_27 rfl ?_
            cases hf
            exact kri hQ hAe hx hb hr hlocks hP hD hK hS dX0_run_28
    exact main _ _ hP hD hS

def rmX0_doAct : Room := { frames := 16, cells := 0, slots := 0, locals := 442 }
theorem hdX0_doAct : yX0_doAct.cls = RX0 ∧ yX0_doAct.cls ≠ "java/lang/invoke/MethodHandle" ∧ yX0_doAct.cls ≠ "java/lang/invoke/VarHandle" ∧ (parseMethodDescriptor yX0_doAct.desc).map (fun d => d.parameters.length) = some 5 := by decide +kernel
set_option maxHeartbeats 40000000 in
set_option maxRecDepth 100000 in
theorem c_X0_doAct (l : Launch) (E : Nat → Nat) (D : va_G) (C : Nat → ClassId) (a0 a1 : Nat) (sz : Nat) (N : Nat) (v : DV) (x0 : Int32) (x1 : Int32) (x2 : Int32) (x3 : Int32) (x4 : Int32) (r : Int32) (v' : DV) (hf : f_X0_doAct N v x0 x1 x2 x3 x4 = some (r, v')) : Met l yX0_doAct wsX0_doAct rmX0_doAct (PC E D C [.ref a0, .int x0, .int x1, .int x2, .int x3, .int x4] (oDeed C a0 a1 v []) sz) (QI D C (oDeed C a0 a1 v []) (oDeed C a0 a1 (v') []) sz r) 0 0 (va_A (oDeed C a0 a1 v []) sz) := by
  refine Met.ofW (cc := cX0_doAct) (maxL := 7) (ret := (some .int)) (by decide) rfl ?_
  intro p e s m args below meth c s₁ B hml hv
  obtain ⟨rfl, hsz, hP, hK, hD0, hE⟩ := hv
  have hx := B.exec
  have hb := B.bytes
  have hr := B.returns
  have hts := atoms_spec (ws := wsX0_doAct) B.pre
  have hown : s.vm.findClass RX0 = some m.cls := findClass_of_methodNamed B.named
  have hlocks := B.notSynchronized
  subst hsz
  have hi_RX0 : ∀ w ∈ wsX00, w ∈ wsX0_doAct := fun _ h => List.mem_cons_of_mem _ (List.mem_append_right _ h)
  have hD := hD0.self (sz := s.heap.size)
  obtain ⟨A, hAe⟩ := nm_ex (va_A (oDeed C a0 a1 v []) s.heap.size)
  rw [← hAe] at hD hE ⊢
  have hA : ∀ q : Nat, s.heap.size ≤ q → A q := fun q h => by rw [hAe]; exact Or.inr h
  have hS : va_S A s.heap s.heap [] := va_S.rf
  have hl := lv_entry ([.ref a0, .int x0, .int x1, .int x2, .int x3, .int x4]) (n := 7) (Nat.le_of_ble_eq_true rfl)
  rw [lg_entry_eq]
  generalize (lg_sl ([.ref a0, .int x0, .int x1, .int x2, .int x3, .int x4]) ++ List.replicate (7 - (lg_sl ([.ref a0, .int x0, .int x1, .int x2, .int x3, .int x4])).length) Slot.unset).toArray = ls at hl ⊢
  have hl : lv_has ls 7 [(0, .ref a0), (1, .int x0), (2, .int x1), (3, .int x2), (4, .int x3), (5, .int x4)] := hl
  obtain ⟨Q, hQ⟩ := nm_ex (MQ below (QI D C (oDeed C a0 a1 v []) (oDeed C a0 a1 (v') []) s.heap.size r) (List.toArray [Value.ref a0, Value.int x0, Value.int x1, Value.int x2, Value.int x3, Value.int x4]) s 0 0 A)
  show W p l e (headSpec wsX0_doAct (rmX0_doAct)).room s m (List.toArray [Value.ref a0, Value.int x0, Value.int x1, Value.int x2, Value.int x3, Value.int x4]) below meth c s.heap [] 0 0 (MQ below (QI D C (oDeed C a0 a1 v []) (oDeed C a0 a1 (v') []) s.heap.size r) (List.toArray [Value.ref a0, Value.int x0, Value.int x1, Value.int x2, Value.int x3, Value.int x4]) s 0 0 A) _
  rw [← hQ]
  unfold f_X0_doAct at hf
  have main : ∀ (H : Heap) (locs : List Loc), va_P D vwCl (oDeed C a0 a1 v []) H → va_D A (oDeed C a0 a1 v []) → va_S A s.heap H locs → W p l e (headSpec wsX0_doAct (rmX0_doAct)).room s m (List.toArray [Value.ref a0, Value.int x0, Value.int x1, Value.int x2, Value.int x3, Value.int x4]) below meth c H locs 0 0 Q (F0 m 0 ls []) := by
    intro H locs hP hD hS
    refine lv_aload_n hx hb dX0_doAct_0 rfl (lv_at hl 0 rfl) ?_
    refine lv_iload_n hx hb dX0_doAct_1 rfl (lv_at hl 1 rfl) ?_
    refine va_put (D := D) (ci := 0) (v := .int x0) (ty := .int) (C := RX0) (T := TX0) (N := 6) hx hb hts hi_RX0 tyX0 tyX0_ok nmX0 hown hK hP hD hS 0 rfl rfl 2 (by decide) (hts (.fieldLink RX0 23 "TravelMarks$Deed" "number" "I") (List.mem_of_getElem? (i := 1) rfl)) (fun _ h9 => h9) rfl (tyX0_ok 2 (by decide)) rfl rfl (Nat.le_of_ble_eq_true rfl) dX0_doAct_2 (fun H locs hP hD hS => ?_)
    obtain ⟨v1, ev1, hf⟩ := lj_e hf
    have hP : va_P D vwCl (oDeed C a0 a1 v1 []) H := by rw [ev1]; exact hP
    have hD : va_D A (oDeed C a0 a1 v1 []) := by rw [ev1]; exact hD
    refine lv_aload_n hx hb dX0_doAct_5 rfl (lv_at hl 0 rfl) ?_
    refine lv_iload_n hx hb dX0_doAct_6 rfl (lv_at hl 2 rfl) ?_
    refine va_put (D := D) (ci := 0) (v := .int x1) (ty := .int) (C := RX0) (T := TX0) (N := 6) hx hb hts hi_RX0 tyX0 tyX0_ok nmX0 hown hK hP hD hS 0 rfl rfl 3 (by decide) (hts (.fieldLink RX0 26 "TravelMarks$Deed" "on" "I") (List.mem_of_getElem? (i := 2) rfl)) (fun _ h9 => h9) rfl (tyX0_ok 3 (by decide)) rfl rfl (Nat.le_of_ble_eq_true rfl) dX0_doAct_7 (fun H locs hP hD hS => ?_)
    obtain ⟨v2, ev2, hf⟩ := lj_e hf
    have hP : va_P D vwCl (oDeed C a0 a1 v2 []) H := by rw [ev2]; exact hP
    have hD : va_D A (oDeed C a0 a1 v2 []) := by rw [ev2]; exact hD
    refine lv_aload_n hx hb dX0_doAct_10 rfl (lv_at hl 0 rfl) ?_
    refine lv_iload_n hx hb dX0_doAct_11 rfl (lv_at hl 3 rfl) ?_
    refine va_put (D := D) (ci := 0) (v := .int x2) (ty := .int) (C := RX0) (T := TX0) (N := 6) hx hb hts hi_RX0 tyX0 tyX0_ok nmX0 hown hK hP hD hS 0 rfl rfl 4 (by decide) (hts (.fieldLink RX0 29 "TravelMarks$Deed" "kind" "I") (List.mem_of_getElem? (i := 3) rfl)) (fun _ h9 => h9) rfl (tyX0_ok 4 (by decide)) rfl rfl (Nat.le_of_ble_eq_true rfl) dX0_doAct_12 (fun H locs hP hD hS => ?_)
    obtain ⟨v3, ev3, hf⟩ := lj_e hf
    have hP : va_P D vwCl (oDeed C a0 a1 v3 []) H := by rw [ev3]; exact hP
    have hD : va_D A (oDeed C a0 a1 v3 []) := by rw [ev3]; exact hD
    refine lv_aload_n hx hb dX0_doAct_15 rfl (lv_at hl 0 rfl) ?_
    refine lv_aload_n hx hb dX0_doAct_16 rfl (lv_at hl 0 rfl) ?_
    refine va_get (D := D) (ci := 0) (v := .int (ddKind v3)) (C := RX0) (T := TX0) (N := 6) hx hb hts hi_RX0 hown hK hP 0 rfl rfl 4 (by decide) (hts (.fieldLink RX0 29 "TravelMarks$Deed" "kind" "I") (List.mem_of_getElem? (i := 3) rfl)) (fun _ h9 => h9) rfl dX0_doAct_17 ?_
    refine lv_iload hx hb dX0_doAct_20 (lv_at hl 4 rfl) ?_
    refine lv_iload hx hb dX0_doAct_22 (lv_at hl 5 rfl) ?_
    refine lv_iconst (v := 0) hx hb dX0_doAct_24 rfl ?_
    obtain ⟨r4, v5, h6, hf⟩ := ob2_e hf
    refine kci (Wx := (oDeed C a0 a1 v5 [])) (va_runS (As := [.ref a0, .int (ddKind v3), .int x3, .int x4, .int 0]) (rest := []) ⟨hx, hb, hml, hown, hts⟩ (c_X0_run l E D C 12 a0 a1 H.size N v3 (ddKind v3) x3 x4 0 r4 v5 h6) (va_cwS 5 hts gX0_doAct_X0_run rfl rfl rfl hdX0_run ⟨Nat.le_of_ble_eq_true rfl, Nat.le_of_ble_eq_true rfl⟩) (kpre hP hD hK hS hE hA [0, 1] rfl rfl) rfl rfl hl.1 rfl (lv_room (Nat.le_of_ble_eq_true rfl)) dX0_doAct_25 ⟨Nat.zero_le _, Nat.zero_le _⟩) hP hD hS hA [0, 1] rfl rfl rfl (fun H locs hP hD hS => ?_)
    refine lv_istore (lv' := [(6, .int r4), (0, .ref a0), (1, .int x0), (2, .int x1), (3, .int x2), (4, .int x3), (5, .int x4)]) hx hb dX0_doAct_28 hl (by decide) rfl (fun ls hl => ?_)
    refine lv_aload_n hx hb dX0_doAct_30 rfl (lv_at hl 1 rfl) ?_
    refine va_get (D := D) (ci := 0) (v := .int (ddPartedBy0 v5)) (C := RX0) (T := TX0) (N := 6) hx hb hts hi_RX0 hown hK hP 0 rfl rfl 5 (by decide) (hts (.fieldLink RX0 19 "TravelMarks$Deed" "partedBy0" "Z") (List.mem_of_getElem? (i := 4) rfl)) (fun _ h9 => h9) rfl dX0_doAct_31 ?_
    refine lv_if_eq (tgt := 42) hx hb dX0_doAct_34 (by decide) (fun c7 => ?_) (fun c7 => ?_)
    · replace hf := if_te c7 hf
      refine lv_iload hx hb dX0_doAct_42 (lv_at hl 0 rfl) ?_
      cases hf
      exact kri hQ hAe hx hb hr hlocks hP hD hK hS dX0_doAct_44
    · replace hf := if_fe c7 hf
      refine lv_bipush (v := (-15)) hx hb dX0_doAct_37 rfl ?_
      refine lv_goto (tgt := 44) hx hb dX0_doAct_39 (by decide) ?_
      cases hf
      exact kri hQ hAe hx hb hr hlocks hP hD hK hS dX0_doAct_44
  exact main _ _ hP hD hS

def rmX1_touches : Room := { frames := 0, cells := 0, slots := 0, locals := 0 }
theorem hdX1_touches : yX1_touches.cls = RX1 ∧ yX1_touches.cls ≠ "java/lang/invoke/MethodHandle" ∧ yX1_touches.cls ≠ "java/lang/invoke/VarHandle" ∧ (parseMethodDescriptor yX1_touches.desc).map (fun d => d.parameters.length) = some 0 := by decide +kernel
set_option maxHeartbeats 40000000 in
set_option maxRecDepth 100000 in
theorem c_X1_touches (l : Launch) (E : Nat → Nat) (D : va_G) (C : Nat → ClassId) (a0 a1 a2 a3 a4 a5 a6 : Nat) (sz : Nat) (N : Nat) (v : PV)  (r : Int32) (hf : f_X1_touches N v = some r) : Met l yX1_touches wsX1_touches rmX1_touches (PC E D C [.ref a0] (oPort C a0 a1 a2 a3 a4 a5 a6 v []) sz) (QI D C (oPort C a0 a1 a2 a3 a4 a5 a6 v []) (oPort C a0 a1 a2 a3 a4 a5 a6 v []) sz r) 0 0 (va_A (oPort C a0 a1 a2 a3 a4 a5 a6 v []) sz) := by
  refine Met.ofW (cc := cX1_touches) (maxL := 3) (ret := (some .int)) (by decide) rfl ?_
  intro p e s m args below meth c s₁ B hml hv
  obtain ⟨rfl, hsz, hP, hK, hD0, hE⟩ := hv
  have hx := B.exec
  have hb := B.bytes
  have hr := B.returns
  have hts := atoms_spec (ws := wsX1_touches) B.pre
  have hown : s.vm.findClass RX1 = some m.cls := findClass_of_methodNamed B.named
  have hlocks := B.notSynchronized
  subst hsz
  have hi_RX1 : ∀ w ∈ wsX10, w ∈ wsX1_touches := fun _ h => List.mem_cons_of_mem _ (List.mem_append_right _ h)
  have hD := hD0.self (sz := s.heap.size)
  obtain ⟨A, hAe⟩ := nm_ex (va_A (oPort C a0 a1 a2 a3 a4 a5 a6 v []) s.heap.size)
  rw [← hAe] at hD hE ⊢
  have hA : ∀ q : Nat, s.heap.size ≤ q → A q := fun q h => by rw [hAe]; exact Or.inr h
  have hS : va_S A s.heap s.heap [] := va_S.rf
  have hl := lv_entry ([.ref a0]) (n := 3) (Nat.le_of_ble_eq_true rfl)
  rw [lg_entry_eq]
  generalize (lg_sl ([.ref a0]) ++ List.replicate (3 - (lg_sl ([.ref a0])).length) Slot.unset).toArray = ls at hl ⊢
  have hl : lv_has ls 3 [(0, .ref a0)] := hl
  obtain ⟨Q, hQ⟩ := nm_ex (MQ below (QI D C (oPort C a0 a1 a2 a3 a4 a5 a6 v []) (oPort C a0 a1 a2 a3 a4 a5 a6 v []) s.heap.size r) (List.toArray [Value.ref a0]) s 0 0 A)
  show W p l e (headSpec wsX1_touches (rmX1_touches)).room s m (List.toArray [Value.ref a0]) below meth c s.heap [] 0 0 (MQ below (QI D C (oPort C a0 a1 a2 a3 a4 a5 a6 v []) (oPort C a0 a1 a2 a3 a4 a5 a6 v []) s.heap.size r) (List.toArray [Value.ref a0]) s 0 0 A) _
  rw [← hQ]
  unfold f_X1_touches at hf
  have main : ∀ (H : Heap) (locs : List Loc), va_P D vwCl (oPort C a0 a1 a2 a3 a4 a5 a6 v []) H → va_D A (oPort C a0 a1 a2 a3 a4 a5 a6 v []) → va_S A s.heap H locs → W p l e (headSpec wsX1_touches (rmX1_touches)).room s m (List.toArray [Value.ref a0]) below meth c H locs 0 0 Q (F0 m 0 ls []) := by
    intro H locs hP hD hS
    refine lv_iconst (v := 0) hx hb dX1_touches_0 rfl ?_
    refine lv_istore_n (lv' := [(1, .int 0), (0, .ref a0)]) hx hb dX1_touches_1 rfl hl (by decide) rfl (fun ls hl => ?_)
    refine lv_iconst (v := 0) hx hb dX1_touches_2 rfl ?_
    refine lv_istore_n (lv' := [(2, .int 0), (1, .int 0), (0, .ref a0)]) hx hb dX1_touches_3 rfl hl (by decide) rfl (fun ls hl => ?_)
    have hL4 : ∀ (n : Nat) (i1 : Int32) (i2 : Int32) (H : Heap) (locs : List Loc) (ls : Array Slot), va_P D vwCl (oPort C a0 a1 a2 a3 a4 a5 a6 v []) H → va_D A (oPort C a0 a1 a2 a3 a4 a5 a6 v []) → va_S A s.heap H locs → lv_has ls 3 [(2, .int i1), (1, .int i2), (0, .ref a0)] → f_X1_touches_L4 v n i1 i2 = some r → W p l e (headSpec wsX1_touches (rmX1_touches)).room s m (List.toArray [Value.ref a0]) below meth c H locs 0 0 Q (F0 m 4 ls []) := by
      intro n
      induction n with
      | zero =>
        intro i1 i2 H locs ls hP hD hS hl hf
        exact absurd hf (fun h => by cases h)
      | succ n ih =>
        intro i1 i2 H locs ls hP hD hS hl hf
        rw [f_X1_touches_L4] at hf
        refine lv_iload_n hx hb dX1_touches_4 rfl (lv_at hl 0 rfl) ?_
        refine lv_bipush (v := 6) hx hb dX1_touches_5 rfl ?_
        refine lv_icmp_ge (tgt := 29) hx hb dX1_touches_7 (by decide) (fun c3 => ?_) (fun c3 => ?_)
        · replace hf := if_te c3 hf
          refine lv_iload_n hx hb dX1_touches_29 rfl (lv_at hl 1 rfl) ?_
          cases hf
          exact kri hQ hAe hx hb hr hlocks hP hD hK hS dX1_touches_30
        · replace hf := if_fe c3 hf
          refine lv_aload_n hx hb dX1_touches_10 rfl (lv_at hl 2 rfl) ?_
          refine va_get (D := D) (ci := 1) (v := .ref a5) (C := RX1) (T := TX1) (N := 10) hx hb hts hi_RX1 hown hK hP 0 rfl rfl 4 (by decide) (hts (.fieldLink RX1 24 "TravelMarks$Port" "first" "[I") (List.mem_of_getElem? (i := 1) rfl)) (fun _ h9 => h9) rfl dX1_touches_11 ?_
          refine lv_iload_n hx hb dX1_touches_14 rfl (lv_at hl 0 rfl) ?_
          obtain ⟨y5, ey5, hi4, hf⟩ := rdA_x hf
          refine va_iald hx hb hK hP 5 0 rfl rfl hi4 dX1_touches_15 ?_
          refine lv_ren ey5 ?_
          refine lv_iconst (v := (-1)) hx hb dX1_touches_16 rfl ?_
          obtain ⟨j7, hj7, hf⟩ := lj_e hf
          have Hj7 : ∀ (i6 : Int32) (H : Heap) (locs : List Loc) (ls : Array Slot), va_P D vwCl (oPort C a0 a1 a2 a3 a4 a5 a6 v []) H → va_D A (oPort C a0 a1 a2 a3 a4 a5 a6 v []) → va_S A s.heap H locs → lv_has ls 3 [(2, .int i1), (1, .int i6), (0, .ref a0)] → j7 i6 = some r → W p l e (headSpec wsX1_touches (rmX1_touches)).room s m (List.toArray [Value.ref a0]) below meth c H locs 0 0 Q (F0 m 23 ls []) := by
            intro i6 H locs ls hP hD hS hl hf
            rw [hj7] at hf
            obtain ⟨t8, et8, hf⟩ := lj_e hf
            refine lv_iinc (v := t8) (lv' := [(2, .int t8), (1, .int i6), (0, .ref a0)]) hx hb dX1_touches_23 hl (k := 0) rfl (by rw [et8]; rfl) (by decide) rfl (fun ls hl => ?_)
            refine lv_goto (tgt := 4) hx hb dX1_touches_26 (by decide) ?_
            exact ih t8 i6 H locs ls hP hD hS (lv_sub hl [0, 1, 2] rfl) hf
          refine lv_icmp_eq (tgt := 23) hx hb dX1_touches_17 (by decide) (fun c9 => ?_) (fun c9 => ?_)
          · replace hf := if_te c9 hf
            exact Hj7 i2 H locs ls hP hD hS (lv_sub hl [0, 1, 2] rfl) hf
          · replace hf := if_fe c9 hf
            obtain ⟨t10, et10, hf⟩ := lj_e hf
            refine lv_iinc (v := t10) (lv' := [(1, .int t10), (2, .int i1), (0, .ref a0)]) hx hb dX1_touches_20 hl (k := 1) rfl (by rw [et10]; rfl) (by decide) rfl (fun ls hl => ?_)
            exact Hj7 t10 H locs ls hP hD hS (lv_sub hl [1, 0, 2] rfl) hf
    exact hL4 N 0 0 H locs ls hP hD hS (lv_sub hl [0, 1, 2] rfl) hf
  exact main _ _ hP hD hS

