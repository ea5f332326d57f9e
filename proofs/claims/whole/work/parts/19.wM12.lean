def rmX6_isName : Room := { frames := 1, cells := 0, slots := 0, locals := 21 }
theorem hdX6_isName : yX6_isName.cls = RX6 ∧ yX6_isName.cls ≠ "java/lang/invoke/MethodHandle" ∧ yX6_isName.cls ≠ "java/lang/invoke/VarHandle" ∧ (parseMethodDescriptor yX6_isName.desc).map (fun d => d.parameters.length) = some 5 := by decide +kernel
set_option maxHeartbeats 40000000 in
set_option maxRecDepth 100000 in
theorem c_X6_isName (l : Launch) (E : Nat → Nat) (D : va_G) (C : Nat → ClassId) (e0 e1 e2 e3 e4 e5 e6 e7 e8 e9 e10 e11 e12 e13 e14 e15 : Nat) (sz : Nat) (m_s : Nat → Int32) (m_held : Nat → Int32) (m_aside : Nat → Int32) (m_before : Nat → Int32) (m_isHeld : Int32) (m_tape : Nat → Int32) (m_taped : Int32) (m_token : Int32) (m_from : Int32) (m_to : Int32) (m_value : Int32) (m_isWrong : Int32) (m_due : Nat → Int32) (m_firsts : Nat → Int32) (m_rows : Nat → Int32) (m_rowN : Int32) (m_sortOf : Nat → Int32) (m_sizeOf : Nat → Int32) (m_numbers : Nat → Int32) (m_holdsWhat : Nat → Int32) (m_holdsWhich : Nat → Int32) (m_holdsMany : Nat → Int32) (m_bodies : Nat → Int32) (m_ran : Int32) (m_actKind : Int32) (m_actN : Int32) (m_actA : Int32) (m_isParted : Int32) (x0 : Int32) (x1 : Int32) (x2 : Int32) (x3 : Int32) (x4 : Int32) (r : Int32) (hf : f_X6_isName m_tape m_taped m_token m_from m_to x0 x1 x2 x3 x4 = some r) : Met l yX6_isName wsX6_isName rmX6_isName (PC E D C [.ref e0, .int x0, .int x1, .int x2, .int x3, .int x4] (oMM C e0 e1 e2 e3 e4 e5 e6 e7 e8 e9 e10 e11 e12 e13 e14 e15 m_s m_held m_aside m_before m_isHeld m_tape m_taped m_token m_from m_to m_value m_isWrong m_due m_firsts m_rows m_rowN m_sortOf m_sizeOf m_numbers m_holdsWhat m_holdsWhich m_holdsMany m_bodies m_ran m_actKind m_actN m_actA m_isParted []) sz) (QZ D C (oMM C e0 e1 e2 e3 e4 e5 e6 e7 e8 e9 e10 e11 e12 e13 e14 e15 m_s m_held m_aside m_before m_isHeld m_tape m_taped m_token m_from m_to m_value m_isWrong m_due m_firsts m_rows m_rowN m_sortOf m_sizeOf m_numbers m_holdsWhat m_holdsWhich m_holdsMany m_bodies m_ran m_actKind m_actN m_actA m_isParted []) (oMM C e0 e1 e2 e3 e4 e5 e6 e7 e8 e9 e10 e11 e12 e13 e14 e15 m_s m_held m_aside m_before m_isHeld m_tape m_taped m_token m_from m_to m_value m_isWrong m_due m_firsts m_rows m_rowN m_sortOf m_sizeOf m_numbers m_holdsWhat m_holdsWhich m_holdsMany m_bodies m_ran m_actKind m_actN m_actA m_isParted []) sz r) 0 0 (va_A (oMM C e0 e1 e2 e3 e4 e5 e6 e7 e8 e9 e10 e11 e12 e13 e14 e15 m_s m_held m_aside m_before m_isHeld m_tape m_taped m_token m_from m_to m_value m_isWrong m_due m_firsts m_rows m_rowN m_sortOf m_sizeOf m_numbers m_holdsWhat m_holdsWhich m_holdsMany m_bodies m_ran m_actKind m_actN m_actA m_isParted []) sz) := by
  refine Met.ofW (cc := cX6_isName) (maxL := 6) (ret := (some .boolean)) (by decide) rfl ?_
  intro p e s m args below meth c s₁ B hml hv
  obtain ⟨rfl, hsz, hP, hK, hD0, hE⟩ := hv
  have hx := B.exec
  have hb := B.bytes
  have hr := B.returns
  have hts := atoms_spec (ws := wsX6_isName) B.pre
  have hown : s.vm.findClass RX6 = some m.cls := findClass_of_methodNamed B.named
  have hlocks := B.notSynchronized
  subst hsz
  have hi_RX6 : ∀ w ∈ wsX60, w ∈ wsX6_isName := fun _ h => List.mem_cons_of_mem _ (List.mem_append_right _ h)
  have hD := hD0.self (sz := s.heap.size)
  obtain ⟨A, hAe⟩ := nm_ex (va_A (oMM C e0 e1 e2 e3 e4 e5 e6 e7 e8 e9 e10 e11 e12 e13 e14 e15 m_s m_held m_aside m_before m_isHeld m_tape m_taped m_token m_from m_to m_value m_isWrong m_due m_firsts m_rows m_rowN m_sortOf m_sizeOf m_numbers m_holdsWhat m_holdsWhich m_holdsMany m_bodies m_ran m_actKind m_actN m_actA m_isParted []) s.heap.size)
  rw [← hAe] at hD hE ⊢
  have hA : ∀ q : Nat, s.heap.size ≤ q → A q := fun q h => by rw [hAe]; exact Or.inr h
  have hS : va_S A s.heap s.heap [] := va_S.rf
  have hl := lv_entry ([.ref e0, .int x0, .int x1, .int x2, .int x3, .int x4]) (n := 6) (Nat.le_of_ble_eq_true rfl)
  rw [lg_entry_eq]
  generalize (lg_sl ([.ref e0, .int x0, .int x1, .int x2, .int x3, .int x4]) ++ List.replicate (6 - (lg_sl ([.ref e0, .int x0, .int x1, .int x2, .int x3, .int x4])).length) Slot.unset).toArray = ls at hl ⊢
  have hl : lv_has ls 6 [(0, .ref e0), (1, .int x0), (2, .int x1), (3, .int x2), (4, .int x3), (5, .int x4)] := hl
  obtain ⟨Q, hQ⟩ := nm_ex (MQ below (QZ D C (oMM C e0 e1 e2 e3 e4 e5 e6 e7 e8 e9 e10 e11 e12 e13 e14 e15 m_s m_held m_aside m_before m_isHeld m_tape m_taped m_token m_from m_to m_value m_isWrong m_due m_firsts m_rows m_rowN m_sortOf m_sizeOf m_numbers m_holdsWhat m_holdsWhich m_holdsMany m_bodies m_ran m_actKind m_actN m_actA m_isParted []) (oMM C e0 e1 e2 e3 e4 e5 e6 e7 e8 e9 e10 e11 e12 e13 e14 e15 m_s m_held m_aside m_before m_isHeld m_tape m_taped m_token m_from m_to m_value m_isWrong m_due m_firsts m_rows m_rowN m_sortOf m_sizeOf m_numbers m_holdsWhat m_holdsWhich m_holdsMany m_bodies m_ran m_actKind m_actN m_actA m_isParted []) s.heap.size r) (List.toArray [Value.ref e0, Value.int x0, Value.int x1, Value.int x2, Value.int x3, Value.int x4]) s 0 0 A)
  show W p l e (headSpec wsX6_isName (rmX6_isName)).room s m (List.toArray [Value.ref e0, Value.int x0, Value.int x1, Value.int x2, Value.int x3, Value.int x4]) below meth c s.heap [] 0 0 (MQ below (QZ D C (oMM C e0 e1 e2 e3 e4 e5 e6 e7 e8 e9 e10 e11 e12 e13 e14 e15 m_s m_held m_aside m_before m_isHeld m_tape m_taped m_token m_from m_to m_value m_isWrong m_due m_firsts m_rows m_rowN m_sortOf m_sizeOf m_numbers m_holdsWhat m_holdsWhich m_holdsMany m_bodies m_ran m_actKind m_actN m_actA m_isParted []) (oMM C e0 e1 e2 e3 e4 e5 e6 e7 e8 e9 e10 e11 e12 e13 e14 e15 m_s m_held m_aside m_before m_isHeld m_tape m_taped m_token m_from m_to m_value m_isWrong m_due m_firsts m_rows m_rowN m_sortOf m_sizeOf m_numbers m_holdsWhat m_holdsWhich m_holdsMany m_bodies m_ran m_actKind m_actN m_actA m_isParted []) s.heap.size r) (List.toArray [Value.ref e0, Value.int x0, Value.int x1, Value.int x2, Value.int x3, Value.int x4]) s 0 0 A) _
  rw [← hQ]
  unfold f_X6_isName at hf
  have main : ∀ (H : Heap) (locs : List Loc), va_P D vwCl (oMM C e0 e1 e2 e3 e4 e5 e6 e7 e8 e9 e10 e11 e12 e13 e14 e15 m_s m_held m_aside m_before m_isHeld m_tape m_taped m_token m_from m_to m_value m_isWrong m_due m_firsts m_rows m_rowN m_sortOf m_sizeOf m_numbers m_holdsWhat m_holdsWhich m_holdsMany m_bodies m_ran m_actKind m_actN m_actA m_isParted []) H → va_D A (oMM C e0 e1 e2 e3 e4 e5 e6 e7 e8 e9 e10 e11 e12 e13 e14 e15 m_s m_held m_aside m_before m_isHeld m_tape m_taped m_token m_from m_to m_value m_isWrong m_due m_firsts m_rows m_rowN m_sortOf m_sizeOf m_numbers m_holdsWhat m_holdsWhich m_holdsMany m_bodies m_ran m_actKind m_actN m_actA m_isParted []) → va_S A s.heap H locs → W p l e (headSpec wsX6_isName (rmX6_isName)).room s m (List.toArray [Value.ref e0, Value.int x0, Value.int x1, Value.int x2, Value.int x3, Value.int x4]) below meth c H locs 0 0 Q (F0 m 0 ls []) := by
    intro H locs hP hD hS
    refine lv_aload_n hx hb dX6_isName_0 rfl (lv_at hl 0 rfl) ?_
    refine va_get (D := D) (ci := 6) (v := .int m_token) (C := RX6) (T := TX6) (N := 28) hx hb hts hi_RX6 hown hK hP 0 rfl rfl 7 (by decide) (hts (.fieldLink RX6 87 "TravelMarksModel" "token" "I") (List.mem_of_getElem? (i := 1) rfl)) (fun _ h9 => h9) rfl dX6_isName_1 ?_
    refine lv_iconst (v := 1) hx hb dX6_isName_4 rfl ?_
    refine lv_icmp_ne (tgt := 81) hx hb dX6_isName_5 (by decide) (fun c1 => ?_) (fun c1 => ?_)
    · replace hf := if_fe c1 hf
      refine lv_iconst (v := 0) hx hb dX6_isName_81 rfl ?_
      cases hf
      exact krz hQ hAe hx hb hr hlocks zb_0 hP hD hK hS dX6_isName_82
    · replace hf := if_te c1 hf
      refine lv_aload_n hx hb dX6_isName_8 rfl (lv_at hl 0 rfl) ?_
      refine va_get (D := D) (ci := 6) (v := .int m_to) (C := RX6) (T := TX6) (N := 28) hx hb hts hi_RX6 hown hK hP 0 rfl rfl 9 (by decide) (hts (.fieldLink RX6 70 "TravelMarksModel" "to" "I") (List.mem_of_getElem? (i := 2) rfl)) (fun _ h9 => h9) rfl dX6_isName_9 ?_
      refine lv_aload_n hx hb dX6_isName_12 rfl (lv_at hl 0 rfl) ?_
      refine va_get (D := D) (ci := 6) (v := .int m_from) (C := RX6) (T := TX6) (N := 28) hx hb hts hi_RX6 hown hK hP 0 rfl rfl 8 (by decide) (hts (.fieldLink RX6 73 "TravelMarksModel" "from" "I") (List.mem_of_getElem? (i := 3) rfl)) (fun _ h9 => h9) rfl dX6_isName_13 ?_
      refine lv_isub hx hb dX6_isName_16 ?_
      refine lv_iload_n hx hb dX6_isName_17 rfl (lv_at hl 1 rfl) ?_
      refine lv_icmp_ne (tgt := 81) hx hb dX6_isName_18 (by decide) (fun c2 => ?_) (fun c2 => ?_)
      · replace hf := if_fe c2 hf
        refine lv_iconst (v := 0) hx hb dX6_isName_81 rfl ?_
        cases hf
        exact krz hQ hAe hx hb hr hlocks zb_0 hP hD hK hS dX6_isName_82
      · replace hf := if_te c2 hf
        refine lv_aload_n hx hb dX6_isName_21 rfl (lv_at hl 0 rfl) ?_
        refine lv_aload_n hx hb dX6_isName_22 rfl (lv_at hl 0 rfl) ?_
        refine va_get (D := D) (ci := 6) (v := .int m_from) (C := RX6) (T := TX6) (N := 28) hx hb hts hi_RX6 hown hK hP 0 rfl rfl 8 (by decide) (hts (.fieldLink RX6 73 "TravelMarksModel" "from" "I") (List.mem_of_getElem? (i := 3) rfl)) (fun _ h9 => h9) rfl dX6_isName_23 ?_
        obtain ⟨r3, h4, hf⟩ := ob1_e hf
        refine kmi (w1 := (oMM C e0 e1 e2 e3 e4 e5 e6 e7 e8 e9 e10 e11 e12 e13 e14 e15 m_s m_held m_aside m_before m_isHeld m_tape m_taped m_token m_from m_to m_value m_isWrong m_due m_firsts m_rows m_rowN m_sortOf m_sizeOf m_numbers m_holdsWhat m_holdsWhich m_holdsMany m_bodies m_ran m_actKind m_actN m_actA m_isParted [])) (va_runV (As := [.int m_from]) (rest := []) ⟨hx, hb, hml, hown, hts⟩ (c_X6_byteAt l E D C e0 e1 e2 e3 e4 e5 e6 e7 e8 e9 e10 e11 e12 e13 e14 e15 H.size m_s m_held m_aside m_before m_isHeld m_tape m_taped m_token m_from m_to m_value m_isWrong m_due m_firsts m_rows m_rowN m_sortOf m_sizeOf m_numbers m_holdsWhat m_holdsWhich m_holdsMany m_bodies m_ran m_actKind m_actN m_actA m_isParted m_from r3 h4) (cwV 1 hts gX6_isName_X6_byteAt rfl rfl rfl hdX6_byteAt ⟨Nat.le_of_ble_eq_true rfl, Nat.le_of_ble_eq_true rfl⟩) (kpreM hP hD hK hS hE hA 0 rfl rfl rfl) rfl rfl hl.1 rfl (lv_room (Nat.le_of_ble_eq_true rfl)) dX6_isName_26 ⟨Nat.zero_le _, Nat.zero_le _⟩) hP hD hS hA rfl (fun H locs hP hD hS => ?_)
        refine lv_iload_n hx hb dX6_isName_29 rfl (lv_at hl 2 rfl) ?_
        refine lv_icmp_ne (tgt := 81) hx hb dX6_isName_30 (by decide) (fun c5 => ?_) (fun c5 => ?_)
        · replace hf := if_fe c5 hf
          refine lv_iconst (v := 0) hx hb dX6_isName_81 rfl ?_
          cases hf
          exact krz hQ hAe hx hb hr hlocks zb_0 hP hD hK hS dX6_isName_82
        · replace hf := if_te c5 hf
          refine lv_aload_n hx hb dX6_isName_33 rfl (lv_at hl 0 rfl) ?_
          refine lv_aload_n hx hb dX6_isName_34 rfl (lv_at hl 0 rfl) ?_
          refine va_get (D := D) (ci := 6) (v := .int m_from) (C := RX6) (T := TX6) (N := 28) hx hb hts hi_RX6 hown hK hP 0 rfl rfl 8 (by decide) (hts (.fieldLink RX6 73 "TravelMarksModel" "from" "I") (List.mem_of_getElem? (i := 3) rfl)) (fun _ h9 => h9) rfl dX6_isName_35 ?_
          refine lv_iconst (v := 1) hx hb dX6_isName_38 rfl ?_
          refine lv_iadd hx hb dX6_isName_39 ?_
          obtain ⟨r6, h7, hf⟩ := ob1_e hf
          refine kmi (w1 := (oMM C e0 e1 e2 e3 e4 e5 e6 e7 e8 e9 e10 e11 e12 e13 e14 e15 m_s m_held m_aside m_before m_isHeld m_tape m_taped m_token m_from m_to m_value m_isWrong m_due m_firsts m_rows m_rowN m_sortOf m_sizeOf m_numbers m_holdsWhat m_holdsWhich m_holdsMany m_bodies m_ran m_actKind m_actN m_actA m_isParted [])) (va_runV (As := [.int (m_from + 1)]) (rest := []) ⟨hx, hb, hml, hown, hts⟩ (c_X6_byteAt l E D C e0 e1 e2 e3 e4 e5 e6 e7 e8 e9 e10 e11 e12 e13 e14 e15 H.size m_s m_held m_aside m_before m_isHeld m_tape m_taped m_token m_from m_to m_value m_isWrong m_due m_firsts m_rows m_rowN m_sortOf m_sizeOf m_numbers m_holdsWhat m_holdsWhich m_holdsMany m_bodies m_ran m_actKind m_actN m_actA m_isParted (m_from + 1) r6 h7) (cwV 1 hts gX6_isName_X6_byteAt rfl rfl rfl hdX6_byteAt ⟨Nat.le_of_ble_eq_true rfl, Nat.le_of_ble_eq_true rfl⟩) (kpreM hP hD hK hS hE hA 0 rfl rfl rfl) rfl rfl hl.1 rfl (lv_room (Nat.le_of_ble_eq_true rfl)) dX6_isName_40 ⟨Nat.zero_le _, Nat.zero_le _⟩) hP hD hS hA rfl (fun H locs hP hD hS => ?_)
          refine lv_iload_n hx hb dX6_isName_43 rfl (lv_at hl 3 rfl) ?_
          refine lv_icmp_ne (tgt := 81) hx hb dX6_isName_44 (by decide) (fun c8 => ?_) (fun c8 => ?_)
          · replace hf := if_fe c8 hf
            refine lv_iconst (v := 0) hx hb dX6_isName_81 rfl ?_
            cases hf
            exact krz hQ hAe hx hb hr hlocks zb_0 hP hD hK hS dX6_isName_82
          · replace hf := if_te c8 hf
            refine lv_aload_n hx hb dX6_isName_47 rfl (lv_at hl 0 rfl) ?_
            refine lv_aload_n hx hb dX6_isName_48 rfl (lv_at hl 0 rfl) ?_
            refine va_get (D := D) (ci := 6) (v := .int m_from) (C := RX6) (T := TX6) (N := 28) hx hb hts hi_RX6 hown hK hP 0 rfl rfl 8 (by decide) (hts (.fieldLink RX6 73 "TravelMarksModel" "from" "I") (List.mem_of_getElem? (i := 3) rfl)) (fun _ h9 => h9) rfl dX6_isName_49 ?_
            refine lv_iconst (v := 2) hx hb dX6_isName_52 rfl ?_
            refine lv_iadd hx hb dX6_isName_53 ?_
            obtain ⟨r9, h10, hf⟩ := ob1_e hf
            refine kmi (w1 := (oMM C e0 e1 e2 e3 e4 e5 e6 e7 e8 e9 e10 e11 e12 e13 e14 e15 m_s m_held m_aside m_before m_isHeld m_tape m_taped m_token m_from m_to m_value m_isWrong m_due m_firsts m_rows m_rowN m_sortOf m_sizeOf m_numbers m_holdsWhat m_holdsWhich m_holdsMany m_bodies m_ran m_actKind m_actN m_actA m_isParted [])) (va_runV (As := [.int (m_from + 2)]) (rest := []) ⟨hx, hb, hml, hown, hts⟩ (c_X6_byteAt l E D C e0 e1 e2 e3 e4 e5 e6 e7 e8 e9 e10 e11 e12 e13 e14 e15 H.size m_s m_held m_aside m_before m_isHeld m_tape m_taped m_token m_from m_to m_value m_isWrong m_due m_firsts m_rows m_rowN m_sortOf m_sizeOf m_numbers m_holdsWhat m_holdsWhich m_holdsMany m_bodies m_ran m_actKind m_actN m_actA m_isParted (m_from + 2) r9 h10) (cwV 1 hts gX6_isName_X6_byteAt rfl rfl rfl hdX6_byteAt ⟨Nat.le_of_ble_eq_true rfl, Nat.le_of_ble_eq_true rfl⟩) (kpreM hP hD hK hS hE hA 0 rfl rfl rfl) rfl rfl hl.1 rfl (lv_room (Nat.le_of_ble_eq_true rfl)) dX6_isName_54 ⟨Nat.zero_le _, Nat.zero_le _⟩) hP hD hS hA rfl (fun H locs hP hD hS => ?_)
            refine lv_iload hx hb dX6_isName_57 (lv_at hl 4 rfl) ?_
            refine lv_icmp_ne (tgt := 81) hx hb dX6_isName_59 (by decide) (fun c11 => ?_) (fun c11 => ?_)
            · replace hf := if_fe c11 hf
              refine lv_iconst (v := 0) hx hb dX6_isName_81 rfl ?_
              cases hf
              exact krz hQ hAe hx hb hr hlocks zb_0 hP hD hK hS dX6_isName_82
            · replace hf := if_te c11 hf
              refine lv_aload_n hx hb dX6_isName_62 rfl (lv_at hl 0 rfl) ?_
              refine lv_aload_n hx hb dX6_isName_63 rfl (lv_at hl 0 rfl) ?_
              refine va_get (D := D) (ci := 6) (v := .int m_to) (C := RX6) (T := TX6) (N := 28) hx hb hts hi_RX6 hown hK hP 0 rfl rfl 9 (by decide) (hts (.fieldLink RX6 70 "TravelMarksModel" "to" "I") (List.mem_of_getElem? (i := 2) rfl)) (fun _ h9 => h9) rfl dX6_isName_64 ?_
              refine lv_iconst (v := 1) hx hb dX6_isName_67 rfl ?_
              refine lv_isub hx hb dX6_isName_68 ?_
              obtain ⟨r12, h13, hf⟩ := ob1_e hf
              refine kmi (w1 := (oMM C e0 e1 e2 e3 e4 e5 e6 e7 e8 e9 e10 e11 e12 e13 e14 e15 m_s m_held m_aside m_before m_isHeld m_tape m_taped m_token m_from m_to m_value m_isWrong m_due m_firsts m_rows m_rowN m_sortOf m_sizeOf m_numbers m_holdsWhat m_holdsWhich m_holdsMany m_bodies m_ran m_actKind m_actN m_actA m_isParted [])) (va_runV (As := [.int (m_to - 1)]) (rest := []) ⟨hx, hb, hml, hown, hts⟩ (c_X6_byteAt l E D C e0 e1 e2 e3 e4 e5 e6 e7 e8 e9 e10 e11 e12 e13 e14 e15 H.size m_s m_held m_aside m_before m_isHeld m_tape m_taped m_token m_from m_to m_value m_isWrong m_due m_firsts m_rows m_rowN m_sortOf m_sizeOf m_numbers m_holdsWhat m_holdsWhich m_holdsMany m_bodies m_ran m_actKind m_actN m_actA m_isParted (m_to - 1) r12 h13) (cwV 1 hts gX6_isName_X6_byteAt rfl rfl rfl hdX6_byteAt ⟨Nat.le_of_ble_eq_true rfl, Nat.le_of_ble_eq_true rfl⟩) (kpreM hP hD hK hS hE hA 0 rfl rfl rfl) rfl rfl hl.1 rfl (lv_room (Nat.le_of_ble_eq_true rfl)) dX6_isName_69 ⟨Nat.zero_le _, Nat.zero_le _⟩) hP hD hS hA rfl (fun H locs hP hD hS => ?_)
              refine lv_iload hx hb dX6_isName_72 (lv_at hl 5 rfl) ?_
              refine lv_icmp_ne (tgt := 81) hx hb dX6_isName_74 (by decide) (fun c14 => ?_) (fun c14 => ?_)
              · replace hf := if_fe c14 hf
                refine lv_iconst (v := 0) hx hb dX6_isName_81 rfl ?_
                cases hf
                exact krz hQ hAe hx hb hr hlocks zb_0 hP hD hK hS dX6_isName_82
              · replace hf := if_te c14 hf
                refine lv_iconst (v := 1) hx hb dX6_isName_77 rfl ?_
                refine lv_goto (tgt := 82) hx hb dX6_isName_78 (by decide) ?_
                cases hf
                exact krz hQ hAe hx hb hr hlocks zb_1 hP hD hK hS dX6_isName_82
  exact main _ _ hP hD hS

def rmX6_isSame : Room := { frames := 1, cells := 0, slots := 0, locals := 21 }
theorem hdX6_isSame : yX6_isSame.cls = RX6 ∧ yX6_isSame.cls ≠ "java/lang/invoke/MethodHandle" ∧ yX6_isSame.cls ≠ "java/lang/invoke/VarHandle" ∧ (parseMethodDescriptor yX6_isSame.desc).map (fun d => d.parameters.length) = some 4 := by decide +kernel
set_option maxHeartbeats 40000000 in
set_option maxRecDepth 100000 in
theorem c_X6_isSame (l : Launch) (E : Nat → Nat) (D : va_G) (C : Nat → ClassId) (e0 e1 e2 e3 e4 e5 e6 e7 e8 e9 e10 e11 e12 e13 e14 e15 : Nat) (sz : Nat) (m_s : Nat → Int32) (m_held : Nat → Int32) (m_aside : Nat → Int32) (m_before : Nat → Int32) (m_isHeld : Int32) (m_tape : Nat → Int32) (m_taped : Int32) (m_token : Int32) (m_from : Int32) (m_to : Int32) (m_value : Int32) (m_isWrong : Int32) (m_due : Nat → Int32) (m_firsts : Nat → Int32) (m_rows : Nat → Int32) (m_rowN : Int32) (m_sortOf : Nat → Int32) (m_sizeOf : Nat → Int32) (m_numbers : Nat → Int32) (m_holdsWhat : Nat → Int32) (m_holdsWhich : Nat → Int32) (m_holdsMany : Nat → Int32) (m_bodies : Nat → Int32) (m_ran : Int32) (m_actKind : Int32) (m_actN : Int32) (m_actA : Int32) (m_isParted : Int32) (x0 : Int32) (x1 : Int32) (x2 : Int32) (x3 : Int32) (r : Int32) (hf : f_X6_isSame m_tape m_taped m_from x0 x1 x2 x3 = some r) : Met l yX6_isSame wsX6_isSame rmX6_isSame (PC E D C [.ref e0, .int x0, .int x1, .int x2, .int x3] (oMM C e0 e1 e2 e3 e4 e5 e6 e7 e8 e9 e10 e11 e12 e13 e14 e15 m_s m_held m_aside m_before m_isHeld m_tape m_taped m_token m_from m_to m_value m_isWrong m_due m_firsts m_rows m_rowN m_sortOf m_sizeOf m_numbers m_holdsWhat m_holdsWhich m_holdsMany m_bodies m_ran m_actKind m_actN m_actA m_isParted []) sz) (QZ D C (oMM C e0 e1 e2 e3 e4 e5 e6 e7 e8 e9 e10 e11 e12 e13 e14 e15 m_s m_held m_aside m_before m_isHeld m_tape m_taped m_token m_from m_to m_value m_isWrong m_due m_firsts m_rows m_rowN m_sortOf m_sizeOf m_numbers m_holdsWhat m_holdsWhich m_holdsMany m_bodies m_ran m_actKind m_actN m_actA m_isParted []) (oMM C e0 e1 e2 e3 e4 e5 e6 e7 e8 e9 e10 e11 e12 e13 e14 e15 m_s m_held m_aside m_before m_isHeld m_tape m_taped m_token m_from m_to m_value m_isWrong m_due m_firsts m_rows m_rowN m_sortOf m_sizeOf m_numbers m_holdsWhat m_holdsWhich m_holdsMany m_bodies m_ran m_actKind m_actN m_actA m_isParted []) sz r) 0 0 (va_A (oMM C e0 e1 e2 e3 e4 e5 e6 e7 e8 e9 e10 e11 e12 e13 e14 e15 m_s m_held m_aside m_before m_isHeld m_tape m_taped m_token m_from m_to m_value m_isWrong m_due m_firsts m_rows m_rowN m_sortOf m_sizeOf m_numbers m_holdsWhat m_holdsWhich m_holdsMany m_bodies m_ran m_actKind m_actN m_actA m_isParted []) sz) := by
  refine Met.ofW (cc := cX6_isSame) (maxL := 5) (ret := (some .boolean)) (by decide) rfl ?_
  intro p e s m args below meth c s₁ B hml hv
  obtain ⟨rfl, hsz, hP, hK, hD0, hE⟩ := hv
  have hx := B.exec
  have hb := B.bytes
  have hr := B.returns
  have hts := atoms_spec (ws := wsX6_isSame) B.pre
  have hown : s.vm.findClass RX6 = some m.cls := findClass_of_methodNamed B.named
  have hlocks := B.notSynchronized
  subst hsz
  have hi_RX6 : ∀ w ∈ wsX60, w ∈ wsX6_isSame := fun _ h => List.mem_cons_of_mem _ (List.mem_append_right _ h)
  have hD := hD0.self (sz := s.heap.size)
  obtain ⟨A, hAe⟩ := nm_ex (va_A (oMM C e0 e1 e2 e3 e4 e5 e6 e7 e8 e9 e10 e11 e12 e13 e14 e15 m_s m_held m_aside m_before m_isHeld m_tape m_taped m_token m_from m_to m_value m_isWrong m_due m_firsts m_rows m_rowN m_sortOf m_sizeOf m_numbers m_holdsWhat m_holdsWhich m_holdsMany m_bodies m_ran m_actKind m_actN m_actA m_isParted []) s.heap.size)
  rw [← hAe] at hD hE ⊢
  have hA : ∀ q : Nat, s.heap.size ≤ q → A q := fun q h => by rw [hAe]; exact Or.inr h
  have hS : va_S A s.heap s.heap [] := va_S.rf
  have hl := lv_entry ([.ref e0, .int x0, .int x1, .int x2, .int x3]) (n := 5) (Nat.le_of_ble_eq_true rfl)
  rw [lg_entry_eq]
  generalize (lg_sl ([.ref e0, .int x0, .int x1, .int x2, .int x3]) ++ List.replicate (5 - (lg_sl ([.ref e0, .int x0, .int x1, .int x2, .int x3])).length) Slot.unset).toArray = ls at hl ⊢
  have hl : lv_has ls 5 [(0, .ref e0), (1, .int x0), (2, .int x1), (3, .int x2), (4, .int x3)] := hl
  obtain ⟨Q, hQ⟩ := nm_ex (MQ below (QZ D C (oMM C e0 e1 e2 e3 e4 e5 e6 e7 e8 e9 e10 e11 e12 e13 e14 e15 m_s m_held m_aside m_before m_isHeld m_tape m_taped m_token m_from m_to m_value m_isWrong m_due m_firsts m_rows m_rowN m_sortOf m_sizeOf m_numbers m_holdsWhat m_holdsWhich m_holdsMany m_bodies m_ran m_actKind m_actN m_actA m_isParted []) (oMM C e0 e1 e2 e3 e4 e5 e6 e7 e8 e9 e10 e11 e12 e13 e14 e15 m_s m_held m_aside m_before m_isHeld m_tape m_taped m_token m_from m_to m_value m_isWrong m_due m_firsts m_rows m_rowN m_sortOf m_sizeOf m_numbers m_holdsWhat m_holdsWhich m_holdsMany m_bodies m_ran m_actKind m_actN m_actA m_isParted []) s.heap.size r) (List.toArray [Value.ref e0, Value.int x0, Value.int x1, Value.int x2, Value.int x3]) s 0 0 A)
  show W p l e (headSpec wsX6_isSame (rmX6_isSame)).room s m (List.toArray [Value.ref e0, Value.int x0, Value.int x1, Value.int x2, Value.int x3]) below meth c s.heap [] 0 0 (MQ below (QZ D C (oMM C e0 e1 e2 e3 e4 e5 e6 e7 e8 e9 e10 e11 e12 e13 e14 e15 m_s m_held m_aside m_before m_isHeld m_tape m_taped m_token m_from m_to m_value m_isWrong m_due m_firsts m_rows m_rowN m_sortOf m_sizeOf m_numbers m_holdsWhat m_holdsWhich m_holdsMany m_bodies m_ran m_actKind m_actN m_actA m_isParted []) (oMM C e0 e1 e2 e3 e4 e5 e6 e7 e8 e9 e10 e11 e12 e13 e14 e15 m_s m_held m_aside m_before m_isHeld m_tape m_taped m_token m_from m_to m_value m_isWrong m_due m_firsts m_rows m_rowN m_sortOf m_sizeOf m_numbers m_holdsWhat m_holdsWhich m_holdsMany m_bodies m_ran m_actKind m_actN m_actA m_isParted []) s.heap.size r) (List.toArray [Value.ref e0, Value.int x0, Value.int x1, Value.int x2, Value.int x3]) s 0 0 A) _
  rw [← hQ]
  unfold f_X6_isSame at hf
  have main : ∀ (H : Heap) (locs : List Loc), va_P D vwCl (oMM C e0 e1 e2 e3 e4 e5 e6 e7 e8 e9 e10 e11 e12 e13 e14 e15 m_s m_held m_aside m_before m_isHeld m_tape m_taped m_token m_from m_to m_value m_isWrong m_due m_firsts m_rows m_rowN m_sortOf m_sizeOf m_numbers m_holdsWhat m_holdsWhich m_holdsMany m_bodies m_ran m_actKind m_actN m_actA m_isParted []) H → va_D A (oMM C e0 e1 e2 e3 e4 e5 e6 e7 e8 e9 e10 e11 e12 e13 e14 e15 m_s m_held m_aside m_before m_isHeld m_tape m_taped m_token m_from m_to m_value m_isWrong m_due m_firsts m_rows m_rowN m_sortOf m_sizeOf m_numbers m_holdsWhat m_holdsWhich m_holdsMany m_bodies m_ran m_actKind m_actN m_actA m_isParted []) → va_S A s.heap H locs → W p l e (headSpec wsX6_isSame (rmX6_isSame)).room s m (List.toArray [Value.ref e0, Value.int x0, Value.int x1, Value.int x2, Value.int x3]) below meth c H locs 0 0 Q (F0 m 0 ls []) := by
    intro H locs hP hD hS
    refine lv_aload_n hx hb dX6_isSame_0 rfl (lv_at hl 0 rfl) ?_
    refine lv_aload_n hx hb dX6_isSame_1 rfl (lv_at hl 0 rfl) ?_
    refine va_get (D := D) (ci := 6) (v := .int m_from) (C := RX6) (T := TX6) (N := 28) hx hb hts hi_RX6 hown hK hP 0 rfl rfl 8 (by decide) (hts (.fieldLink RX6 73 "TravelMarksModel" "from" "I") (List.mem_of_getElem? (i := 1) rfl)) (fun _ h9 => h9) rfl dX6_isSame_2 ?_
    refine lv_iload_n hx hb dX6_isSame_5 rfl (lv_at hl 1 rfl) ?_
    refine lv_iadd hx hb dX6_isSame_6 ?_
    obtain ⟨r1, h2, hf⟩ := ob1_e hf
    refine kmi (w1 := (oMM C e0 e1 e2 e3 e4 e5 e6 e7 e8 e9 e10 e11 e12 e13 e14 e15 m_s m_held m_aside m_before m_isHeld m_tape m_taped m_token m_from m_to m_value m_isWrong m_due m_firsts m_rows m_rowN m_sortOf m_sizeOf m_numbers m_holdsWhat m_holdsWhich m_holdsMany m_bodies m_ran m_actKind m_actN m_actA m_isParted [])) (va_runV (As := [.int (m_from + x0)]) (rest := []) ⟨hx, hb, hml, hown, hts⟩ (c_X6_byteAt l E D C e0 e1 e2 e3 e4 e5 e6 e7 e8 e9 e10 e11 e12 e13 e14 e15 H.size m_s m_held m_aside m_before m_isHeld m_tape m_taped m_token m_from m_to m_value m_isWrong m_due m_firsts m_rows m_rowN m_sortOf m_sizeOf m_numbers m_holdsWhat m_holdsWhich m_holdsMany m_bodies m_ran m_actKind m_actN m_actA m_isParted (m_from + x0) r1 h2) (cwV 1 hts gX6_isSame_X6_byteAt rfl rfl rfl hdX6_byteAt ⟨Nat.le_of_ble_eq_true rfl, Nat.le_of_ble_eq_true rfl⟩) (kpreM hP hD hK hS hE hA 0 rfl rfl rfl) rfl rfl hl.1 rfl (lv_room (Nat.le_of_ble_eq_true rfl)) dX6_isSame_7 ⟨Nat.zero_le _, Nat.zero_le _⟩) hP hD hS hA rfl (fun H locs hP hD hS => ?_)
    refine lv_iload_n hx hb dX6_isSame_10 rfl (lv_at hl 2 rfl) ?_
    refine lv_icmp_ne (tgt := 51) hx hb dX6_isSame_11 (by decide) (fun c3 => ?_) (fun c3 => ?_)
    · replace hf := if_fe c3 hf
      refine lv_iconst (v := 0) hx hb dX6_isSame_51 rfl ?_
      cases hf
      exact krz hQ hAe hx hb hr hlocks zb_0 hP hD hK hS dX6_isSame_52
    · replace hf := if_te c3 hf
      refine lv_aload_n hx hb dX6_isSame_14 rfl (lv_at hl 0 rfl) ?_
      refine lv_aload_n hx hb dX6_isSame_15 rfl (lv_at hl 0 rfl) ?_
      refine va_get (D := D) (ci := 6) (v := .int m_from) (C := RX6) (T := TX6) (N := 28) hx hb hts hi_RX6 hown hK hP 0 rfl rfl 8 (by decide) (hts (.fieldLink RX6 73 "TravelMarksModel" "from" "I") (List.mem_of_getElem? (i := 1) rfl)) (fun _ h9 => h9) rfl dX6_isSame_16 ?_
      refine lv_iload_n hx hb dX6_isSame_19 rfl (lv_at hl 1 rfl) ?_
      refine lv_iadd hx hb dX6_isSame_20 ?_
      refine lv_iconst (v := 1) hx hb dX6_isSame_21 rfl ?_
      refine lv_iadd hx hb dX6_isSame_22 ?_
      obtain ⟨r4, h5, hf⟩ := ob1_e hf
      refine kmi (w1 := (oMM C e0 e1 e2 e3 e4 e5 e6 e7 e8 e9 e10 e11 e12 e13 e14 e15 m_s m_held m_aside m_before m_isHeld m_tape m_taped m_token m_from m_to m_value m_isWrong m_due m_firsts m_rows m_rowN m_sortOf m_sizeOf m_numbers m_holdsWhat m_holdsWhich m_holdsMany m_bodies m_ran m_actKind m_actN m_actA m_isParted [])) (va_runV (As := [.int ((m_from + x0) + 1)]) (rest := []) ⟨hx, hb, hml, hown, hts⟩ (c_X6_byteAt l E D C e0 e1 e2 e3 e4 e5 e6 e7 e8 e9 e10 e11 e12 e13 e14 e15 H.size m_s m_held m_aside m_before m_isHeld m_tape m_taped m_token m_from m_to m_value m_isWrong m_due m_firsts m_rows m_rowN m_sortOf m_sizeOf m_numbers m_holdsWhat m_holdsWhich m_holdsMany m_bodies m_ran m_actKind m_actN m_actA m_isParted ((m_from + x0) + 1) r4 h5) (cwV 1 hts gX6_isSame_X6_byteAt rfl rfl rfl hdX6_byteAt ⟨Nat.le_of_ble_eq_true rfl, Nat.le_of_ble_eq_true rfl⟩) (kpreM hP hD hK hS hE hA 0 rfl rfl rfl) rfl rfl hl.1 rfl (lv_room (Nat.le_of_ble_eq_true rfl)) dX6_isSame_23 ⟨Nat.zero_le _, Nat.zero_le _⟩) hP hD hS hA rfl (fun H locs hP hD hS => ?_)
      refine lv_iload_n hx hb dX6_isSame_26 rfl (lv_at hl 3 rfl) ?_
      refine lv_icmp_ne (tgt := 51) hx hb dX6_isSame_27 (by decide) (fun c6 => ?_) (fun c6 => ?_)
      · replace hf := if_fe c6 hf
        refine lv_iconst (v := 0) hx hb dX6_isSame_51 rfl ?_
        cases hf
        exact krz hQ hAe hx hb hr hlocks zb_0 hP hD hK hS dX6_isSame_52
      · replace hf := if_te c6 hf
        refine lv_aload_n hx hb dX6_isSame_30 rfl (lv_at hl 0 rfl) ?_
        refine lv_aload_n hx hb dX6_isSame_31 rfl (lv_at hl 0 rfl) ?_
        refine va_get (D := D) (ci := 6) (v := .int m_from) (C := RX6) (T := TX6) (N := 28) hx hb hts hi_RX6 hown hK hP 0 rfl rfl 8 (by decide) (hts (.fieldLink RX6 73 "TravelMarksModel" "from" "I") (List.mem_of_getElem? (i := 1) rfl)) (fun _ h9 => h9) rfl dX6_isSame_32 ?_
        refine lv_iload_n hx hb dX6_isSame_35 rfl (lv_at hl 1 rfl) ?_
        refine lv_iadd hx hb dX6_isSame_36 ?_
        refine lv_iconst (v := 2) hx hb dX6_isSame_37 rfl ?_
        refine lv_iadd hx hb dX6_isSame_38 ?_
        obtain ⟨r7, h8, hf⟩ := ob1_e hf
        refine kmi (w1 := (oMM C e0 e1 e2 e3 e4 e5 e6 e7 e8 e9 e10 e11 e12 e13 e14 e15 m_s m_held m_aside m_before m_isHeld m_tape m_taped m_token m_from m_to m_value m_isWrong m_due m_firsts m_rows m_rowN m_sortOf m_sizeOf m_numbers m_holdsWhat m_holdsWhich m_holdsMany m_bodies m_ran m_actKind m_actN m_actA m_isParted [])) (va_runV (As := [.int ((m_from + x0) + 2)]) (rest := []) ⟨hx, hb, hml, hown, hts⟩ (c_X6_byteAt l E D C e0 e1 e2 e3 e4 e5 e6 e7 e8 e9 e10 e11 e12 e13 e14 e15 H.size m_s m_held m_aside m_before m_isHeld m_tape m_taped m_token m_from m_to m_value m_isWrong m_due m_firsts m_rows m_rowN m_sortOf m_sizeOf m_numbers m_holdsWhat m_holdsWhich m_holdsMany m_bodies m_ran m_actKind m_actN m_actA m_isParted ((m_from + x0) + 2) r7 h8) (cwV 1 hts gX6_isSame_X6_byteAt rfl rfl rfl hdX6_byteAt ⟨Nat.le_of_ble_eq_true rfl, Nat.le_of_ble_eq_true rfl⟩) (kpreM hP hD hK hS hE hA 0 rfl rfl rfl) rfl rfl hl.1 rfl (lv_room (Nat.le_of_ble_eq_true rfl)) dX6_isSame_39 ⟨Nat.zero_le _, Nat.zero_le _⟩) hP hD hS hA rfl (fun H locs hP hD hS => ?_)
        refine lv_iload hx hb dX6_isSame_42 (lv_at hl 4 rfl) ?_
        refine lv_icmp_ne (tgt := 51) hx hb dX6_isSame_44 (by decide) (fun c9 => ?_) (fun c9 => ?_)
        · replace hf := if_fe c9 hf
          refine lv_iconst (v := 0) hx hb dX6_isSame_51 rfl ?_
          cases hf
          exact krz hQ hAe hx hb hr hlocks zb_0 hP hD hK hS dX6_isSame_52
        · replace hf := if_te c9 hf
          refine lv_iconst (v := 1) hx hb dX6_isSame_47 rfl ?_
          refine lv_goto (tgt := 52) hx hb dX6_isSame_48 (by decide) ?_
          cases hf
          exact krz hQ hAe hx hb hr hlocks zb_1 hP hD hK hS dX6_isSame_52
  exact main _ _ hP hD hS

def rmX6_isFour : Room := { frames := 2, cells := 0, slots := 0, locals := 46 }
theorem hdX6_isFour : yX6_isFour.cls = RX6 ∧ yX6_isFour.cls ≠ "java/lang/invoke/MethodHandle" ∧ yX6_isFour.cls ≠ "java/lang/invoke/VarHandle" ∧ (parseMethodDescriptor yX6_isFour.desc).map (fun d => d.parameters.length) = some 4 := by decide +kernel
set_option maxHeartbeats 40000000 in
set_option maxRecDepth 100000 in
theorem c_X6_isFour (l : Launch) (E : Nat → Nat) (D : va_G) (C : Nat → ClassId) (e0 e1 e2 e3 e4 e5 e6 e7 e8 e9 e10 e11 e12 e13 e14 e15 : Nat) (sz : Nat) (m_s : Nat → Int32) (m_held : Nat → Int32) (m_aside : Nat → Int32) (m_before : Nat → Int32) (m_isHeld : Int32) (m_tape : Nat → Int32) (m_taped : Int32) (m_token : Int32) (m_from : Int32) (m_to : Int32) (m_value : Int32) (m_isWrong : Int32) (m_due : Nat → Int32) (m_firsts : Nat → Int32) (m_rows : Nat → Int32) (m_rowN : Int32) (m_sortOf : Nat → Int32) (m_sizeOf : Nat → Int32) (m_numbers : Nat → Int32) (m_holdsWhat : Nat → Int32) (m_holdsWhich : Nat → Int32) (m_holdsMany : Nat → Int32) (m_bodies : Nat → Int32) (m_ran : Int32) (m_actKind : Int32) (m_actN : Int32) (m_actA : Int32) (m_isParted : Int32) (x0 : Int32) (x1 : Int32) (x2 : Int32) (x3 : Int32) (r : Int32) (hf : f_X6_isFour m_tape m_taped m_token m_from m_to x0 x1 x2 x3 = some r) : Met l yX6_isFour wsX6_isFour rmX6_isFour (PC E D C [.ref e0, .int x0, .int x1, .int x2, .int x3] (oMM C e0 e1 e2 e3 e4 e5 e6 e7 e8 e9 e10 e11 e12 e13 e14 e15 m_s m_held m_aside m_before m_isHeld m_tape m_taped m_token m_from m_to m_value m_isWrong m_due m_firsts m_rows m_rowN m_sortOf m_sizeOf m_numbers m_holdsWhat m_holdsWhich m_holdsMany m_bodies m_ran m_actKind m_actN m_actA m_isParted []) sz) (QZ D C (oMM C e0 e1 e2 e3 e4 e5 e6 e7 e8 e9 e10 e11 e12 e13 e14 e15 m_s m_held m_aside m_before m_isHeld m_tape m_taped m_token m_from m_to m_value m_isWrong m_due m_firsts m_rows m_rowN m_sortOf m_sizeOf m_numbers m_holdsWhat m_holdsWhich m_holdsMany m_bodies m_ran m_actKind m_actN m_actA m_isParted []) (oMM C e0 e1 e2 e3 e4 e5 e6 e7 e8 e9 e10 e11 e12 e13 e14 e15 m_s m_held m_aside m_before m_isHeld m_tape m_taped m_token m_from m_to m_value m_isWrong m_due m_firsts m_rows m_rowN m_sortOf m_sizeOf m_numbers m_holdsWhat m_holdsWhich m_holdsMany m_bodies m_ran m_actKind m_actN m_actA m_isParted []) sz r) 0 0 (va_A (oMM C e0 e1 e2 e3 e4 e5 e6 e7 e8 e9 e10 e11 e12 e13 e14 e15 m_s m_held m_aside m_before m_isHeld m_tape m_taped m_token m_from m_to m_value m_isWrong m_due m_firsts m_rows m_rowN m_sortOf m_sizeOf m_numbers m_holdsWhat m_holdsWhich m_holdsMany m_bodies m_ran m_actKind m_actN m_actA m_isParted []) sz) := by
  refine Met.ofW (cc := cX6_isFour) (maxL := 5) (ret := (some .boolean)) (by decide) rfl ?_
  intro p e s m args below meth c s₁ B hml hv
  obtain ⟨rfl, hsz, hP, hK, hD0, hE⟩ := hv
  have hx := B.exec
  have hb := B.bytes
  have hr := B.returns
  have hts := atoms_spec (ws := wsX6_isFour) B.pre
  have hown : s.vm.findClass RX6 = some m.cls := findClass_of_methodNamed B.named
  have hlocks := B.notSynchronized
  subst hsz
  have hD := hD0.self (sz := s.heap.size)
  obtain ⟨A, hAe⟩ := nm_ex (va_A (oMM C e0 e1 e2 e3 e4 e5 e6 e7 e8 e9 e10 e11 e12 e13 e14 e15 m_s m_held m_aside m_before m_isHeld m_tape m_taped m_token m_from m_to m_value m_isWrong m_due m_firsts m_rows m_rowN m_sortOf m_sizeOf m_numbers m_holdsWhat m_holdsWhich m_holdsMany m_bodies m_ran m_actKind m_actN m_actA m_isParted []) s.heap.size)
  rw [← hAe] at hD hE ⊢
  have hA : ∀ q : Nat, s.heap.size ≤ q → A q := fun q h => by rw [hAe]; exact Or.inr h
  have hS : va_S A s.heap s.heap [] := va_S.rf
  have hl := lv_entry ([.ref e0, .int x0, .int x1, .int x2, .int x3]) (n := 5) (Nat.le_of_ble_eq_true rfl)
  rw [lg_entry_eq]
  generalize (lg_sl ([.ref e0, .int x0, .int x1, .int x2, .int x3]) ++ List.replicate (5 - (lg_sl ([.ref e0, .int x0, .int x1, .int x2, .int x3])).length) Slot.unset).toArray = ls at hl ⊢
  have hl : lv_has ls 5 [(0, .ref e0), (1, .int x0), (2, .int x1), (3, .int x2), (4, .int x3)] := hl
  obtain ⟨Q, hQ⟩ := nm_ex (MQ below (QZ D C (oMM C e0 e1 e2 e3 e4 e5 e6 e7 e8 e9 e10 e11 e12 e13 e14 e15 m_s m_held m_aside m_before m_isHeld m_tape m_taped m_token m_from m_to m_value m_isWrong m_due m_firsts m_rows m_rowN m_sortOf m_sizeOf m_numbers m_holdsWhat m_holdsWhich m_holdsMany m_bodies m_ran m_actKind m_actN m_actA m_isParted []) (oMM C e0 e1 e2 e3 e4 e5 e6 e7 e8 e9 e10 e11 e12 e13 e14 e15 m_s m_held m_aside m_before m_isHeld m_tape m_taped m_token m_from m_to m_value m_isWrong m_due m_firsts m_rows m_rowN m_sortOf m_sizeOf m_numbers m_holdsWhat m_holdsWhich m_holdsMany m_bodies m_ran m_actKind m_actN m_actA m_isParted []) s.heap.size r) (List.toArray [Value.ref e0, Value.int x0, Value.int x1, Value.int x2, Value.int x3]) s 0 0 A)
  show W p l e (headSpec wsX6_isFour (rmX6_isFour)).room s m (List.toArray [Value.ref e0, Value.int x0, Value.int x1, Value.int x2, Value.int x3]) below meth c s.heap [] 0 0 (MQ below (QZ D C (oMM C e0 e1 e2 e3 e4 e5 e6 e7 e8 e9 e10 e11 e12 e13 e14 e15 m_s m_held m_aside m_before m_isHeld m_tape m_taped m_token m_from m_to m_value m_isWrong m_due m_firsts m_rows m_rowN m_sortOf m_sizeOf m_numbers m_holdsWhat m_holdsWhich m_holdsMany m_bodies m_ran m_actKind m_actN m_actA m_isParted []) (oMM C e0 e1 e2 e3 e4 e5 e6 e7 e8 e9 e10 e11 e12 e13 e14 e15 m_s m_held m_aside m_before m_isHeld m_tape m_taped m_token m_from m_to m_value m_isWrong m_due m_firsts m_rows m_rowN m_sortOf m_sizeOf m_numbers m_holdsWhat m_holdsWhich m_holdsMany m_bodies m_ran m_actKind m_actN m_actA m_isParted []) s.heap.size r) (List.toArray [Value.ref e0, Value.int x0, Value.int x1, Value.int x2, Value.int x3]) s 0 0 A) _
  rw [← hQ]
  unfold f_X6_isFour at hf
  have main : ∀ (H : Heap) (locs : List Loc), va_P D vwCl (oMM C e0 e1 e2 e3 e4 e5 e6 e7 e8 e9 e10 e11 e12 e13 e14 e15 m_s m_held m_aside m_before m_isHeld m_tape m_taped m_token m_from m_to m_value m_isWrong m_due m_firsts m_rows m_rowN m_sortOf m_sizeOf m_numbers m_holdsWhat m_holdsWhich m_holdsMany m_bodies m_ran m_actKind m_actN m_actA m_isParted []) H → va_D A (oMM C e0 e1 e2 e3 e4 e5 e6 e7 e8 e9 e10 e11 e12 e13 e14 e15 m_s m_held m_aside m_before m_isHeld m_tape m_taped m_token m_from m_to m_value m_isWrong m_due m_firsts m_rows m_rowN m_sortOf m_sizeOf m_numbers m_holdsWhat m_holdsWhich m_holdsMany m_bodies m_ran m_actKind m_actN m_actA m_isParted []) → va_S A s.heap H locs → W p l e (headSpec wsX6_isFour (rmX6_isFour)).room s m (List.toArray [Value.ref e0, Value.int x0, Value.int x1, Value.int x2, Value.int x3]) below meth c H locs 0 0 Q (F0 m 0 ls []) := by
    intro H locs hP hD hS
    refine lv_aload_n hx hb dX6_isFour_0 rfl (lv_at hl 0 rfl) ?_
    refine lv_iconst (v := 4) hx hb dX6_isFour_1 rfl ?_
    refine lv_iload_n hx hb dX6_isFour_2 rfl (lv_at hl 1 rfl) ?_
    refine lv_iload_n hx hb dX6_isFour_3 rfl (lv_at hl 2 rfl) ?_
    refine lv_iload_n hx hb dX6_isFour_4 rfl (lv_at hl 3 rfl) ?_
    refine lv_iload hx hb dX6_isFour_5 (lv_at hl 4 rfl) ?_
    obtain ⟨r1, h2, hf⟩ := ob1_e hf
    refine kmz (w1 := (oMM C e0 e1 e2 e3 e4 e5 e6 e7 e8 e9 e10 e11 e12 e13 e14 e15 m_s m_held m_aside m_before m_isHeld m_tape m_taped m_token m_from m_to m_value m_isWrong m_due m_firsts m_rows m_rowN m_sortOf m_sizeOf m_numbers m_holdsWhat m_holdsWhich m_holdsMany m_bodies m_ran m_actKind m_actN m_actA m_isParted [])) (va_runV (As := [.int 4, .int x0, .int x1, .int x2, .int x3]) (rest := []) ⟨hx, hb, hml, hown, hts⟩ (c_X6_isName l E D C e0 e1 e2 e3 e4 e5 e6 e7 e8 e9 e10 e11 e12 e13 e14 e15 H.size m_s m_held m_aside m_before m_isHeld m_tape m_taped m_token m_from m_to m_value m_isWrong m_due m_firsts m_rows m_rowN m_sortOf m_sizeOf m_numbers m_holdsWhat m_holdsWhich m_holdsMany m_bodies m_ran m_actKind m_actN m_actA m_isParted 4 x0 x1 x2 x3 r1 h2) (cwV 5 hts gX6_isFour_X6_isName rfl rfl rfl hdX6_isName ⟨Nat.le_of_ble_eq_true rfl, Nat.le_of_ble_eq_true rfl⟩) (kpreM hP hD hK hS hE hA 0 rfl rfl rfl) rfl rfl hl.1 rfl (lv_room (Nat.le_of_ble_eq_true rfl)) dX6_isFour_7 ⟨Nat.zero_le _, Nat.zero_le _⟩) hP hD hS hA rfl (fun H locs hz3 hP hD hS => ?_)
    cases hf
    exact krz hQ hAe hx hb hr hlocks hz3 hP hD hK hS dX6_isFour_10
  exact main _ _ hP hD hS

def rmX6_isFive : Room := { frames := 2, cells := 0, slots := 0, locals := 46 }
theorem hdX6_isFive : yX6_isFive.cls = RX6 ∧ yX6_isFive.cls ≠ "java/lang/invoke/MethodHandle" ∧ yX6_isFive.cls ≠ "java/lang/invoke/VarHandle" ∧ (parseMethodDescriptor yX6_isFive.desc).map (fun d => d.parameters.length) = some 5 := by decide +kernel
set_option maxHeartbeats 40000000 in
set_option maxRecDepth 100000 in
theorem c_X6_isFive (l : Launch) (E : Nat → Nat) (D : va_G) (C : Nat → ClassId) (e0 e1 e2 e3 e4 e5 e6 e7 e8 e9 e10 e11 e12 e13 e14 e15 : Nat) (sz : Nat) (m_s : Nat → Int32) (m_held : Nat → Int32) (m_aside : Nat → Int32) (m_before : Nat → Int32) (m_isHeld : Int32) (m_tape : Nat → Int32) (m_taped : Int32) (m_token : Int32) (m_from : Int32) (m_to : Int32) (m_value : Int32) (m_isWrong : Int32) (m_due : Nat → Int32) (m_firsts : Nat → Int32) (m_rows : Nat → Int32) (m_rowN : Int32) (m_sortOf : Nat → Int32) (m_sizeOf : Nat → Int32) (m_numbers : Nat → Int32) (m_holdsWhat : Nat → Int32) (m_holdsWhich : Nat → Int32) (m_holdsMany : Nat → Int32) (m_bodies : Nat → Int32) (m_ran : Int32) (m_actKind : Int32) (m_actN : Int32) (m_actA : Int32) (m_isParted : Int32) (x0 : Int32) (x1 : Int32) (x2 : Int32) (x3 : Int32) (x4 : Int32) (r : Int32) (hf : f_X6_isFive m_tape m_taped m_token m_from m_to x0 x1 x2 x3 x4 = some r) : Met l yX6_isFive wsX6_isFive rmX6_isFive (PC E D C [.ref e0, .int x0, .int x1, .int x2, .int x3, .int x4] (oMM C e0 e1 e2 e3 e4 e5 e6 e7 e8 e9 e10 e11 e12 e13 e14 e15 m_s m_held m_aside m_before m_isHeld m_tape m_taped m_token m_from m_to m_value m_isWrong m_due m_firsts m_rows m_rowN m_sortOf m_sizeOf m_numbers m_holdsWhat m_holdsWhich m_holdsMany m_bodies m_ran m_actKind m_actN m_actA m_isParted []) sz) (QZ D C (oMM C e0 e1 e2 e3 e4 e5 e6 e7 e8 e9 e10 e11 e12 e13 e14 e15 m_s m_held m_aside m_before m_isHeld m_tape m_taped m_token m_from m_to m_value m_isWrong m_due m_firsts m_rows m_rowN m_sortOf m_sizeOf m_numbers m_holdsWhat m_holdsWhich m_holdsMany m_bodies m_ran m_actKind m_actN m_actA m_isParted []) (oMM C e0 e1 e2 e3 e4 e5 e6 e7 e8 e9 e10 e11 e12 e13 e14 e15 m_s m_held m_aside m_before m_isHeld m_tape m_taped m_token m_from m_to m_value m_isWrong m_due m_firsts m_rows m_rowN m_sortOf m_sizeOf m_numbers m_holdsWhat m_holdsWhich m_holdsMany m_bodies m_ran m_actKind m_actN m_actA m_isParted []) sz r) 0 0 (va_A (oMM C e0 e1 e2 e3 e4 e5 e6 e7 e8 e9 e10 e11 e12 e13 e14 e15 m_s m_held m_aside m_before m_isHeld m_tape m_taped m_token m_from m_to m_value m_isWrong m_due m_firsts m_rows m_rowN m_sortOf m_sizeOf m_numbers m_holdsWhat m_holdsWhich m_holdsMany m_bodies m_ran m_actKind m_actN m_actA m_isParted []) sz) := by
  refine Met.ofW (cc := cX6_isFive) (maxL := 6) (ret := (some .boolean)) (by decide) rfl ?_
  intro p e s m args below meth c s₁ B hml hv
  obtain ⟨rfl, hsz, hP, hK, hD0, hE⟩ := hv
  have hx := B.exec
  have hb := B.bytes
  have hr := B.returns
  have hts := atoms_spec (ws := wsX6_isFive) B.pre
  have hown : s.vm.findClass RX6 = some m.cls := findClass_of_methodNamed B.named
  have hlocks := B.notSynchronized
  subst hsz
  have hi_RX6 : ∀ w ∈ wsX60, w ∈ wsX6_isFive := fun _ h => List.mem_cons_of_mem _ (List.mem_append_right _ h)
  have hD := hD0.self (sz := s.heap.size)
  obtain ⟨A, hAe⟩ := nm_ex (va_A (oMM C e0 e1 e2 e3 e4 e5 e6 e7 e8 e9 e10 e11 e12 e13 e14 e15 m_s m_held m_aside m_before m_isHeld m_tape m_taped m_token m_from m_to m_value m_isWrong m_due m_firsts m_rows m_rowN m_sortOf m_sizeOf m_numbers m_holdsWhat m_holdsWhich m_holdsMany m_bodies m_ran m_actKind m_actN m_actA m_isParted []) s.heap.size)
  rw [← hAe] at hD hE ⊢
  have hA : ∀ q : Nat, s.heap.size ≤ q → A q := fun q h => by rw [hAe]; exact Or.inr h
  have hS : va_S A s.heap s.heap [] := va_S.rf
  have hl := lv_entry ([.ref e0, .int x0, .int x1, .int x2, .int x3, .int x4]) (n := 6) (Nat.le_of_ble_eq_true rfl)
  rw [lg_entry_eq]
  generalize (lg_sl ([.ref e0, .int x0, .int x1, .int x2, .int x3, .int x4]) ++ List.replicate (6 - (lg_sl ([.ref e0, .int x0, .int x1, .int x2, .int x3, .int x4])).length) Slot.unset).toArray = ls at hl ⊢
  have hl : lv_has ls 6 [(0, .ref e0), (1, .int x0), (2, .int x1), (3, .int x2), (4, .int x3), (5, .int x4)] := hl
  obtain ⟨Q, hQ⟩ := nm_ex (MQ below (QZ D C (oMM C e0 e1 e2 e3 e4 e5 e6 e7 e8 e9 e10 e11 e12 e13 e14 e15 m_s m_held m_aside m_before m_isHeld m_tape m_taped m_token m_from m_to m_value m_isWrong m_due m_firsts m_rows m_rowN m_sortOf m_sizeOf m_numbers m_holdsWhat m_holdsWhich m_holdsMany m_bodies m_ran m_actKind m_actN m_actA m_isParted []) (oMM C e0 e1 e2 e3 e4 e5 e6 e7 e8 e9 e10 e11 e12 e13 e14 e15 m_s m_held m_aside m_before m_isHeld m_tape m_taped m_token m_from m_to m_value m_isWrong m_due m_firsts m_rows m_rowN m_sortOf m_sizeOf m_numbers m_holdsWhat m_holdsWhich m_holdsMany m_bodies m_ran m_actKind m_actN m_actA m_isParted []) s.heap.size r) (List.toArray [Value.ref e0, Value.int x0, Value.int x1, Value.int x2, Value.int x3, Value.int x4]) s 0 0 A)
  show W p l e (headSpec wsX6_isFive (rmX6_isFive)).room s m (List.toArray [Value.ref e0, Value.int x0, Value.int x1, Value.int x2, Value.int x3, Value.int x4]) below meth c s.heap [] 0 0 (MQ below (QZ D C (oMM C e0 e1 e2 e3 e4 e5 e6 e7 e8 e9 e10 e11 e12 e13 e14 e15 m_s m_held m_aside m_before m_isHeld m_tape m_taped m_token m_from m_to m_value m_isWrong m_due m_firsts m_rows m_rowN m_sortOf m_sizeOf m_numbers m_holdsWhat m_holdsWhich m_holdsMany m_bodies m_ran m_actKind m_actN m_actA m_isParted []) (oMM C e0 e1 e2 e3 e4 e5 e6 e7 e8 e9 e10 e11 e12 e13 e14 e15 m_s m_held m_aside m_before m_isHeld m_tape m_taped m_token m_from m_to m_value m_isWrong m_due m_firsts m_rows m_rowN m_sortOf m_sizeOf m_numbers m_holdsWhat m_holdsWhich m_holdsMany m_bodies m_ran m_actKind m_actN m_actA m_isParted []) s.heap.size r) (List.toArray [Value.ref e0, Value.int x0, Value.int x1, Value.int x2, Value.int x3, Value.int x4]) s 0 0 A) _
  rw [← hQ]
  unfold f_X6_isFive at hf
  have main : ∀ (H : Heap) (locs : List Loc), va_P D vwCl (oMM C e0 e1 e2 e3 e4 e5 e6 e7 e8 e9 e10 e11 e12 e13 e14 e15 m_s m_held m_aside m_before m_isHeld m_tape m_taped m_token m_from m_to m_value m_isWrong m_due m_firsts m_rows m_rowN m_sortOf m_sizeOf m_numbers m_holdsWhat m_holdsWhich m_holdsMany m_bodies m_ran m_actKind m_actN m_actA m_isParted []) H → va_D A (oMM C e0 e1 e2 e3 e4 e5 e6 e7 e8 e9 e10 e11 e12 e13 e14 e15 m_s m_held m_aside m_before m_isHeld m_tape m_taped m_token m_from m_to m_value m_isWrong m_due m_firsts m_rows m_rowN m_sortOf m_sizeOf m_numbers m_holdsWhat m_holdsWhich m_holdsMany m_bodies m_ran m_actKind m_actN m_actA m_isParted []) → va_S A s.heap H locs → W p l e (headSpec wsX6_isFive (rmX6_isFive)).room s m (List.toArray [Value.ref e0, Value.int x0, Value.int x1, Value.int x2, Value.int x3, Value.int x4]) below meth c H locs 0 0 Q (F0 m 0 ls []) := by
    intro H locs hP hD hS
    refine lv_aload_n hx hb dX6_isFive_0 rfl (lv_at hl 0 rfl) ?_
    refine lv_iconst (v := 5) hx hb dX6_isFive_1 rfl ?_
    refine lv_iload_n hx hb dX6_isFive_2 rfl (lv_at hl 1 rfl) ?_
    refine lv_iload_n hx hb dX6_isFive_3 rfl (lv_at hl 2 rfl) ?_
    refine lv_iload_n hx hb dX6_isFive_4 rfl (lv_at hl 3 rfl) ?_
    refine lv_iload hx hb dX6_isFive_5 (lv_at hl 5 rfl) ?_
    obtain ⟨r1, h2, hf⟩ := ob1_e hf
    refine kmz (w1 := (oMM C e0 e1 e2 e3 e4 e5 e6 e7 e8 e9 e10 e11 e12 e13 e14 e15 m_s m_held m_aside m_before m_isHeld m_tape m_taped m_token m_from m_to m_value m_isWrong m_due m_firsts m_rows m_rowN m_sortOf m_sizeOf m_numbers m_holdsWhat m_holdsWhich m_holdsMany m_bodies m_ran m_actKind m_actN m_actA m_isParted [])) (va_runV (As := [.int 5, .int x0, .int x1, .int x2, .int x4]) (rest := []) ⟨hx, hb, hml, hown, hts⟩ (c_X6_isName l E D C e0 e1 e2 e3 e4 e5 e6 e7 e8 e9 e10 e11 e12 e13 e14 e15 H.size m_s m_held m_aside m_before m_isHeld m_tape m_taped m_token m_from m_to m_value m_isWrong m_due m_firsts m_rows m_rowN m_sortOf m_sizeOf m_numbers m_holdsWhat m_holdsWhich m_holdsMany m_bodies m_ran m_actKind m_actN m_actA m_isParted 5 x0 x1 x2 x4 r1 h2) (cwV 5 hts gX6_isFive_X6_isName rfl rfl rfl hdX6_isName ⟨Nat.le_of_ble_eq_true rfl, Nat.le_of_ble_eq_true rfl⟩) (kpreM hP hD hK hS hE hA 0 rfl rfl rfl) rfl rfl hl.1 rfl (lv_room (Nat.le_of_ble_eq_true rfl)) dX6_isFive_7 ⟨Nat.zero_le _, Nat.zero_le _⟩) hP hD hS hA rfl (fun H locs hz3 hP hD hS => ?_)
    refine lv_if_eq (tgt := 32) hx hb dX6_isFive_10 (by decide) (fun c4 => ?_) (fun c4 => ?_)
    · replace hf := if_te c4 hf
      refine lv_iconst (v := 0) hx hb dX6_isFive_32 rfl ?_
      cases hf
      exact krz hQ hAe hx hb hr hlocks zb_0 hP hD hK hS dX6_isFive_33
    · replace hf := if_fe c4 hf
      refine lv_aload_n hx hb dX6_isFive_13 rfl (lv_at hl 0 rfl) ?_
      refine lv_aload_n hx hb dX6_isFive_14 rfl (lv_at hl 0 rfl) ?_
      refine va_get (D := D) (ci := 6) (v := .int m_from) (C := RX6) (T := TX6) (N := 28) hx hb hts hi_RX6 hown hK hP 0 rfl rfl 8 (by decide) (hts (.fieldLink RX6 73 "TravelMarksModel" "from" "I") (List.mem_of_getElem? (i := 1) rfl)) (fun _ h9 => h9) rfl dX6_isFive_15 ?_
      refine lv_iconst (v := 3) hx hb dX6_isFive_18 rfl ?_
      refine lv_iadd hx hb dX6_isFive_19 ?_
      obtain ⟨r5, h6, hf⟩ := ob1_e hf
      refine kmi (w1 := (oMM C e0 e1 e2 e3 e4 e5 e6 e7 e8 e9 e10 e11 e12 e13 e14 e15 m_s m_held m_aside m_before m_isHeld m_tape m_taped m_token m_from m_to m_value m_isWrong m_due m_firsts m_rows m_rowN m_sortOf m_sizeOf m_numbers m_holdsWhat m_holdsWhich m_holdsMany m_bodies m_ran m_actKind m_actN m_actA m_isParted [])) (va_runV (As := [.int (m_from + 3)]) (rest := []) ⟨hx, hb, hml, hown, hts⟩ (c_X6_byteAt l E D C e0 e1 e2 e3 e4 e5 e6 e7 e8 e9 e10 e11 e12 e13 e14 e15 H.size m_s m_held m_aside m_before m_isHeld m_tape m_taped m_token m_from m_to m_value m_isWrong m_due m_firsts m_rows m_rowN m_sortOf m_sizeOf m_numbers m_holdsWhat m_holdsWhich m_holdsMany m_bodies m_ran m_actKind m_actN m_actA m_isParted (m_from + 3) r5 h6) (cwV 1 hts gX6_isFive_X6_byteAt rfl rfl rfl hdX6_byteAt ⟨Nat.le_of_ble_eq_true rfl, Nat.le_of_ble_eq_true rfl⟩) (kpreM hP hD hK hS hE hA 0 rfl rfl rfl) rfl rfl hl.1 rfl (lv_room (Nat.le_of_ble_eq_true rfl)) dX6_isFive_20 ⟨Nat.zero_le _, Nat.zero_le _⟩) hP hD hS hA rfl (fun H locs hP hD hS => ?_)
      refine lv_iload hx hb dX6_isFive_23 (lv_at hl 4 rfl) ?_
      refine lv_icmp_ne (tgt := 32) hx hb dX6_isFive_25 (by decide) (fun c7 => ?_) (fun c7 => ?_)
      · replace hf := if_fe c7 hf
        refine lv_iconst (v := 0) hx hb dX6_isFive_32 rfl ?_
        cases hf
        exact krz hQ hAe hx hb hr hlocks zb_0 hP hD hK hS dX6_isFive_33
      · replace hf := if_te c7 hf
        refine lv_iconst (v := 1) hx hb dX6_isFive_28 rfl ?_
        refine lv_goto (tgt := 33) hx hb dX6_isFive_29 (by decide) ?_
        cases hf
        exact krz hQ hAe hx hb hr hlocks zb_1 hP hD hK hS dX6_isFive_33
  exact main _ _ hP hD hS

def rmX6_kindHere : Room := { frames := 3, cells := 0, slots := 0, locals := 71 }
theorem hdX6_kindHere : yX6_kindHere.cls = RX6 ∧ yX6_kindHere.cls ≠ "java/lang/invoke/MethodHandle" ∧ yX6_kindHere.cls ≠ "java/lang/invoke/VarHandle" ∧ (parseMethodDescriptor yX6_kindHere.desc).map (fun d => d.parameters.length) = some 0 := by decide +kernel
set_option maxHeartbeats 40000000 in
set_option maxRecDepth 100000 in
theorem c_X6_kindHere (l : Launch) (E : Nat → Nat) (D : va_G) (C : Nat → ClassId) (e0 e1 e2 e3 e4 e5 e6 e7 e8 e9 e10 e11 e12 e13 e14 e15 : Nat) (sz : Nat) (m_s : Nat → Int32) (m_held : Nat → Int32) (m_aside : Nat → Int32) (m_before : Nat → Int32) (m_isHeld : Int32) (m_tape : Nat → Int32) (m_taped : Int32) (m_token : Int32) (m_from : Int32) (m_to : Int32) (m_value : Int32) (m_isWrong : Int32) (m_due : Nat → Int32) (m_firsts : Nat → Int32) (m_rows : Nat → Int32) (m_rowN : Int32) (m_sortOf : Nat → Int32) (m_sizeOf : Nat → Int32) (m_numbers : Nat → Int32) (m_holdsWhat : Nat → Int32) (m_holdsWhich : Nat → Int32) (m_holdsMany : Nat → Int32) (m_bodies : Nat → Int32) (m_ran : Int32) (m_actKind : Int32) (m_actN : Int32) (m_actA : Int32) (m_isParted : Int32)  (r : Int32) (hf : f_X6_kindHere m_tape m_taped m_token m_from m_to = some r) : Met l yX6_kindHere wsX6_kindHere rmX6_kindHere (PC E D C [.ref e0] (oMM C e0 e1 e2 e3 e4 e5 e6 e7 e8 e9 e10 e11 e12 e13 e14 e15 m_s m_held m_aside m_before m_isHeld m_tape m_taped m_token m_from m_to m_value m_isWrong m_due m_firsts m_rows m_rowN m_sortOf m_sizeOf m_numbers m_holdsWhat m_holdsWhich m_holdsMany m_bodies m_ran m_actKind m_actN m_actA m_isParted []) sz) (QI D C (oMM C e0 e1 e2 e3 e4 e5 e6 e7 e8 e9 e10 e11 e12 e13 e14 e15 m_s m_held m_aside m_before m_isHeld m_tape m_taped m_token m_from m_to m_value m_isWrong m_due m_firsts m_rows m_rowN m_sortOf m_sizeOf m_numbers m_holdsWhat m_holdsWhich m_holdsMany m_bodies m_ran m_actKind m_actN m_actA m_isParted []) (oMM C e0 e1 e2 e3 e4 e5 e6 e7 e8 e9 e10 e11 e12 e13 e14 e15 m_s m_held m_aside m_before m_isHeld m_tape m_taped m_token m_from m_to m_value m_isWrong m_due m_firsts m_rows m_rowN m_sortOf m_sizeOf m_numbers m_holdsWhat m_holdsWhich m_holdsMany m_bodies m_ran m_actKind m_actN m_actA m_isParted []) sz r) 0 0 (va_A (oMM C e0 e1 e2 e3 e4 e5 e6 e7 e8 e9 e10 e11 e12 e13 e14 e15 m_s m_held m_aside m_before m_isHeld m_tape m_taped m_token m_from m_to m_value m_isWrong m_due m_firsts m_rows m_rowN m_sortOf m_sizeOf m_numbers m_holdsWhat m_holdsWhich m_holdsMany m_bodies m_ran m_actKind m_actN m_actA m_isParted []) sz) := by
  refine Met.ofW (cc := cX6_kindHere) (maxL := 1) (ret := (some .int)) (by decide) rfl ?_
  intro p e s m args below meth c s₁ B hml hv
  obtain ⟨rfl, hsz, hP, hK, hD0, hE⟩ := hv
  have hx := B.exec
  have hb := B.bytes
  have hr := B.returns
  have hts := atoms_spec (ws := wsX6_kindHere) B.pre
  have hown : s.vm.findClass RX6 = some m.cls := findClass_of_methodNamed B.named
  have hlocks := B.notSynchronized
  subst hsz
  have hD := hD0.self (sz := s.heap.size)
  obtain ⟨A, hAe⟩ := nm_ex (va_A (oMM C e0 e1 e2 e3 e4 e5 e6 e7 e8 e9 e10 e11 e12 e13 e14 e15 m_s m_held m_aside m_before m_isHeld m_tape m_taped m_token m_from m_to m_value m_isWrong m_due m_firsts m_rows m_rowN m_sortOf m_sizeOf m_numbers m_holdsWhat m_holdsWhich m_holdsMany m_bodies m_ran m_actKind m_actN m_actA m_isParted []) s.heap.size)
  rw [← hAe] at hD hE ⊢
  have hA : ∀ q : Nat, s.heap.size ≤ q → A q := fun q h => by rw [hAe]; exact Or.inr h
  have hS : va_S A s.heap s.heap [] := va_S.rf
  have hl := lv_entry ([.ref e0]) (n := 1) (Nat.le_of_ble_eq_true rfl)
  rw [lg_entry_eq]
  generalize (lg_sl ([.ref e0]) ++ List.replicate (1 - (lg_sl ([.ref e0])).length) Slot.unset).toArray = ls at hl ⊢
  have hl : lv_has ls 1 [(0, .ref e0)] := hl
  obtain ⟨Q, hQ⟩ := nm_ex (MQ below (QI D C (oMM C e0 e1 e2 e3 e4 e5 e6 e7 e8 e9 e10 e11 e12 e13 e14 e15 m_s m_held m_aside m_before m_isHeld m_tape m_taped m_token m_from m_to m_value m_isWrong m_due m_firsts m_rows m_rowN m_sortOf m_sizeOf m_numbers m_holdsWhat m_holdsWhich m_holdsMany m_bodies m_ran m_actKind m_actN m_actA m_isParted []) (oMM C e0 e1 e2 e3 e4 e5 e6 e7 e8 e9 e10 e11 e12 e13 e14 e15 m_s m_held m_aside m_before m_isHeld m_tape m_taped m_token m_from m_to m_value m_isWrong m_due m_firsts m_rows m_rowN m_sortOf m_sizeOf m_numbers m_holdsWhat m_holdsWhich m_holdsMany m_bodies m_ran m_actKind m_actN m_actA m_isParted []) s.heap.size r) (List.toArray [Value.ref e0]) s 0 0 A)
  show W p l e (headSpec wsX6_kindHere (rmX6_kindHere)).room s m (List.toArray [Value.ref e0]) below meth c s.heap [] 0 0 (MQ below (QI D C (oMM C e0 e1 e2 e3 e4 e5 e6 e7 e8 e9 e10 e11 e12 e13 e14 e15 m_s m_held m_aside m_before m_isHeld m_tape m_taped m_token m_from m_to m_value m_isWrong m_due m_firsts m_rows m_rowN m_sortOf m_sizeOf m_numbers m_holdsWhat m_holdsWhich m_holdsMany m_bodies m_ran m_actKind m_actN m_actA m_isParted []) (oMM C e0 e1 e2 e3 e4 e5 e6 e7 e8 e9 e10 e11 e12 e13 e14 e15 m_s m_held m_aside m_before m_isHeld m_tape m_taped m_token m_from m_to m_value m_isWrong m_due m_firsts m_rows m_rowN m_sortOf m_sizeOf m_numbers m_holdsWhat m_holdsWhich m_holdsMany m_bodies m_ran m_actKind m_actN m_actA m_isParted []) s.heap.size r) (List.toArray [Value.ref e0]) s 0 0 A) _
  rw [← hQ]
  unfold f_X6_kindHere at hf
  have main : ∀ (H : Heap) (locs : List Loc), va_P D vwCl (oMM C e0 e1 e2 e3 e4 e5 e6 e7 e8 e9 e10 e11 e12 e13 e14 e15 m_s m_held m_aside m_before m_isHeld m_tape m_taped m_token m_from m_to m_value m_isWrong m_due m_firsts m_rows m_rowN m_sortOf m_sizeOf m_numbers m_holdsWhat m_holdsWhich m_holdsMany m_bodies m_ran m_actKind m_actN m_actA m_isParted []) H → va_D A (oMM C e0 e1 e2 e3 e4 e5 e6 e7 e8 e9 e10 e11 e12 e13 e14 e15 m_s m_held m_aside m_before m_isHeld m_tape m_taped m_token m_from m_to m_value m_isWrong m_due m_firsts m_rows m_rowN m_sortOf m_sizeOf m_numbers m_holdsWhat m_holdsWhich m_holdsMany m_bodies m_ran m_actKind m_actN m_actA m_isParted []) → va_S A s.heap H locs → W p l e (headSpec wsX6_kindHere (rmX6_kindHere)).room s m (List.toArray [Value.ref e0]) below meth c H locs 0 0 Q (F0 m 0 ls []) := by
    intro H locs hP hD hS
    refine lv_aload_n hx hb dX6_kindHere_0 rfl (lv_at hl 0 rfl) ?_
    refine lv_bipush (v := 109) hx hb dX6_kindHere_1 rfl ?_
    refine lv_bipush (v := 97) hx hb dX6_kindHere_3 rfl ?_
    refine lv_bipush (v := 114) hx hb dX6_kindHere_5 rfl ?_
    refine lv_bipush (v := 107) hx hb dX6_kindHere_7 rfl ?_
    obtain ⟨r1, h2, hf⟩ := ob1_e hf
    refine kmz (w1 := (oMM C e0 e1 e2 e3 e4 e5 e6 e7 e8 e9 e10 e11 e12 e13 e14 e15 m_s m_held m_aside m_before m_isHeld m_tape m_taped m_token m_from m_to m_value m_isWrong m_due m_firsts m_rows m_rowN m_sortOf m_sizeOf m_numbers m_holdsWhat m_holdsWhich m_holdsMany m_bodies m_ran m_actKind m_actN m_actA m_isParted [])) (va_runV (As := [.int 109, .int 97, .int 114, .int 107]) (rest := []) ⟨hx, hb, hml, hown, hts⟩ (c_X6_isFour l E D C e0 e1 e2 e3 e4 e5 e6 e7 e8 e9 e10 e11 e12 e13 e14 e15 H.size m_s m_held m_aside m_before m_isHeld m_tape m_taped m_token m_from m_to m_value m_isWrong m_due m_firsts m_rows m_rowN m_sortOf m_sizeOf m_numbers m_holdsWhat m_holdsWhich m_holdsMany m_bodies m_ran m_actKind m_actN m_actA m_isParted 109 97 114 107 r1 h2) (cwV 4 hts gX6_kindHere_X6_isFour rfl rfl rfl hdX6_isFour ⟨Nat.le_of_ble_eq_true rfl, Nat.le_of_ble_eq_true rfl⟩) (kpreM hP hD hK hS hE hA 0 rfl rfl rfl) rfl rfl hl.1 rfl (lv_room (Nat.le_of_ble_eq_true rfl)) dX6_kindHere_9 ⟨Nat.zero_le _, Nat.zero_le _⟩) hP hD hS hA rfl (fun H locs hz3 hP hD hS => ?_)
    refine lv_if_eq (tgt := 17) hx hb dX6_kindHere_12 (by decide) (fun c4 => ?_) (fun c4 => ?_)
    · replace hf := if_te c4 hf
      refine lv_aload_n hx hb dX6_kindHere_17 rfl (lv_at hl 0 rfl) ?_
      refine lv_bipush (v := 115) hx hb dX6_kindHere_18 rfl ?_
      refine lv_bipush (v := 104) hx hb dX6_kindHere_20 rfl ?_
      refine lv_bipush (v := 105) hx hb dX6_kindHere_22 rfl ?_
      refine lv_bipush (v := 112) hx hb dX6_kindHere_24 rfl ?_
      obtain ⟨r5, h6, hf⟩ := ob1_e hf
      refine kmz (w1 := (oMM C e0 e1 e2 e3 e4 e5 e6 e7 e8 e9 e10 e11 e12 e13 e14 e15 m_s m_held m_aside m_before m_isHeld m_tape m_taped m_token m_from m_to m_value m_isWrong m_due m_firsts m_rows m_rowN m_sortOf m_sizeOf m_numbers m_holdsWhat m_holdsWhich m_holdsMany m_bodies m_ran m_actKind m_actN m_actA m_isParted [])) (va_runV (As := [.int 115, .int 104, .int 105, .int 112]) (rest := []) ⟨hx, hb, hml, hown, hts⟩ (c_X6_isFour l E D C e0 e1 e2 e3 e4 e5 e6 e7 e8 e9 e10 e11 e12 e13 e14 e15 H.size m_s m_held m_aside m_before m_isHeld m_tape m_taped m_token m_from m_to m_value m_isWrong m_due m_firsts m_rows m_rowN m_sortOf m_sizeOf m_numbers m_holdsWhat m_holdsWhich m_holdsMany m_bodies m_ran m_actKind m_actN m_actA m_isParted 115 104 105 112 r5 h6) (cwV 4 hts gX6_kindHere_X6_isFour rfl rfl rfl hdX6_isFour ⟨Nat.le_of_ble_eq_true rfl, Nat.le_of_ble_eq_true rfl⟩) (kpreM hP hD hK hS hE hA 0 rfl rfl rfl) rfl rfl hl.1 rfl (lv_room (Nat.le_of_ble_eq_true rfl)) dX6_kindHere_26 ⟨Nat.zero_le _, Nat.zero_le _⟩) hP hD hS hA rfl (fun H locs hz7 hP hD hS => ?_)
      refine lv_if_eq (tgt := 34) hx hb dX6_kindHere_29 (by decide) (fun c8 => ?_) (fun c8 => ?_)
      · replace hf := if_te c8 hf
        refine lv_aload_n hx hb dX6_kindHere_34 rfl (lv_at hl 0 rfl) ?_
        refine lv_bipush (v := 115) hx hb dX6_kindHere_35 rfl ?_
        refine lv_bipush (v := 110) hx hb dX6_kindHere_37 rfl ?_
        refine lv_bipush (v := 97) hx hb dX6_kindHere_39 rfl ?_
        refine lv_bipush (v := 107) hx hb dX6_kindHere_41 rfl ?_
        refine lv_bipush (v := 101) hx hb dX6_kindHere_43 rfl ?_
        obtain ⟨r9, h10, hf⟩ := ob1_e hf
        refine kmz (w1 := (oMM C e0 e1 e2 e3 e4 e5 e6 e7 e8 e9 e10 e11 e12 e13 e14 e15 m_s m_held m_aside m_before m_isHeld m_tape m_taped m_token m_from m_to m_value m_isWrong m_due m_firsts m_rows m_rowN m_sortOf m_sizeOf m_numbers m_holdsWhat m_holdsWhich m_holdsMany m_bodies m_ran m_actKind m_actN m_actA m_isParted [])) (va_runV (As := [.int 115, .int 110, .int 97, .int 107, .int 101]) (rest := []) ⟨hx, hb, hml, hown, hts⟩ (c_X6_isFive l E D C e0 e1 e2 e3 e4 e5 e6 e7 e8 e9 e10 e11 e12 e13 e14 e15 H.size m_s m_held m_aside m_before m_isHeld m_tape m_taped m_token m_from m_to m_value m_isWrong m_due m_firsts m_rows m_rowN m_sortOf m_sizeOf m_numbers m_holdsWhat m_holdsWhich m_holdsMany m_bodies m_ran m_actKind m_actN m_actA m_isParted 115 110 97 107 101 r9 h10) (cwV 5 hts gX6_kindHere_X6_isFive rfl rfl rfl hdX6_isFive ⟨Nat.le_of_ble_eq_true rfl, Nat.le_of_ble_eq_true rfl⟩) (kpreM hP hD hK hS hE hA 0 rfl rfl rfl) rfl rfl hl.1 rfl (lv_room (Nat.le_of_ble_eq_true rfl)) dX6_kindHere_45 ⟨Nat.zero_le _, Nat.zero_le _⟩) hP hD hS hA rfl (fun H locs hz11 hP hD hS => ?_)
        refine lv_if_eq (tgt := 53) hx hb dX6_kindHere_48 (by decide) (fun c12 => ?_) (fun c12 => ?_)
        · replace hf := if_te c12 hf
          refine lv_aload_n hx hb dX6_kindHere_53 rfl (lv_at hl 0 rfl) ?_
          refine lv_bipush (v := 6) hx hb dX6_kindHere_54 rfl ?_
          refine lv_bipush (v := 97) hx hb dX6_kindHere_56 rfl ?_
          refine lv_bipush (v := 110) hx hb dX6_kindHere_58 rfl ?_
          refine lv_bipush (v := 99) hx hb dX6_kindHere_60 rfl ?_
          refine lv_bipush (v := 114) hx hb dX6_kindHere_62 rfl ?_
          obtain ⟨r13, h14, hf⟩ := ob1_e hf
          refine kmz (w1 := (oMM C e0 e1 e2 e3 e4 e5 e6 e7 e8 e9 e10 e11 e12 e13 e14 e15 m_s m_held m_aside m_before m_isHeld m_tape m_taped m_token m_from m_to m_value m_isWrong m_due m_firsts m_rows m_rowN m_sortOf m_sizeOf m_numbers m_holdsWhat m_holdsWhich m_holdsMany m_bodies m_ran m_actKind m_actN m_actA m_isParted [])) (va_runV (As := [.int 6, .int 97, .int 110, .int 99, .int 114]) (rest := []) ⟨hx, hb, hml, hown, hts⟩ (c_X6_isName l E D C e0 e1 e2 e3 e4 e5 e6 e7 e8 e9 e10 e11 e12 e13 e14 e15 H.size m_s m_held m_aside m_before m_isHeld m_tape m_taped m_token m_from m_to m_value m_isWrong m_due m_firsts m_rows m_rowN m_sortOf m_sizeOf m_numbers m_holdsWhat m_holdsWhich m_holdsMany m_bodies m_ran m_actKind m_actN m_actA m_isParted 6 97 110 99 114 r13 h14) (cwV 5 hts gX6_kindHere_X6_isName rfl rfl rfl hdX6_isName ⟨Nat.le_of_ble_eq_true rfl, Nat.le_of_ble_eq_true rfl⟩) (kpreM hP hD hK hS hE hA 0 rfl rfl rfl) rfl rfl hl.1 rfl (lv_room (Nat.le_of_ble_eq_true rfl)) dX6_kindHere_64 ⟨Nat.zero_le _, Nat.zero_le _⟩) hP hD hS hA rfl (fun H locs hz15 hP hD hS => ?_)
          obtain ⟨j16, hj16, hf⟩ := lj_e hf
          have Hj16 : ∀ (H : Heap) (locs : List Loc) (ls : Array Slot), va_P D vwCl (oMM C e0 e1 e2 e3 e4 e5 e6 e7 e8 e9 e10 e11 e12 e13 e14 e15 m_s m_held m_aside m_before m_isHeld m_tape m_taped m_token m_from m_to m_value m_isWrong m_due m_firsts m_rows m_rowN m_sortOf m_sizeOf m_numbers m_holdsWhat m_holdsWhich m_holdsMany m_bodies m_ran m_actKind m_actN m_actA m_isParted []) H → va_D A (oMM C e0 e1 e2 e3 e4 e5 e6 e7 e8 e9 e10 e11 e12 e13 e14 e15 m_s m_held m_aside m_before m_isHeld m_tape m_taped m_token m_from m_to m_value m_isWrong m_due m_firsts m_rows m_rowN m_sortOf m_sizeOf m_numbers m_holdsWhat m_holdsWhich m_holdsMany m_bodies m_ran m_actKind m_actN m_actA m_isParted []) → va_S A s.heap H locs → lv_has ls 1 [(0, .ref e0)] → j16 = some r → W p l e (headSpec wsX6_kindHere (rmX6_kindHere)).room s m (List.toArray [Value.ref e0]) below meth c H locs 0 0 Q (F0 m 86 ls []) := by
            intro H locs ls hP hD hS hl hf
            rw [hj16] at hf
            refine lv_aload_n hx hb dX6_kindHere_86 rfl (lv_at hl 0 rfl) ?_
            refine lv_bipush (v := 6) hx hb dX6_kindHere_87 rfl ?_
            refine lv_bipush (v := 100) hx hb dX6_kindHere_89 rfl ?_
            refine lv_bipush (v := 114) hx hb dX6_kindHere_91 rfl ?_
            refine lv_bipush (v := 97) hx hb dX6_kindHere_93 rfl ?_
            refine lv_bipush (v := 110) hx hb dX6_kindHere_95 rfl ?_
            obtain ⟨r17, h18, hf⟩ := ob1_e hf
            refine kmz (w1 := (oMM C e0 e1 e2 e3 e4 e5 e6 e7 e8 e9 e10 e11 e12 e13 e14 e15 m_s m_held m_aside m_before m_isHeld m_tape m_taped m_token m_from m_to m_value m_isWrong m_due m_firsts m_rows m_rowN m_sortOf m_sizeOf m_numbers m_holdsWhat m_holdsWhich m_holdsMany m_bodies m_ran m_actKind m_actN m_actA m_isParted [])) (va_runV (As := [.int 6, .int 100, .int 114, .int 97, .int 110]) (rest := []) ⟨hx, hb, hml, hown, hts⟩ (c_X6_isName l E D C e0 e1 e2 e3 e4 e5 e6 e7 e8 e9 e10 e11 e12 e13 e14 e15 H.size m_s m_held m_aside m_before m_isHeld m_tape m_taped m_token m_from m_to m_value m_isWrong m_due m_firsts m_rows m_rowN m_sortOf m_sizeOf m_numbers m_holdsWhat m_holdsWhich m_holdsMany m_bodies m_ran m_actKind m_actN m_actA m_isParted 6 100 114 97 110 r17 h18) (cwV 5 hts gX6_kindHere_X6_isName rfl rfl rfl hdX6_isName ⟨Nat.le_of_ble_eq_true rfl, Nat.le_of_ble_eq_true rfl⟩) (kpreM hP hD hK hS hE hA 0 rfl rfl rfl) rfl rfl hl.1 rfl (lv_room (Nat.le_of_ble_eq_true rfl)) dX6_kindHere_97 ⟨Nat.zero_le _, Nat.zero_le _⟩) hP hD hS hA rfl (fun H locs hz19 hP hD hS => ?_)
            obtain ⟨j20, hj20, hf⟩ := lj_e hf
            have Hj20 : ∀ (H : Heap) (locs : List Loc) (ls : Array Slot), va_P D vwCl (oMM C e0 e1 e2 e3 e4 e5 e6 e7 e8 e9 e10 e11 e12 e13 e14 e15 m_s m_held m_aside m_before m_isHeld m_tape m_taped m_token m_from m_to m_value m_isWrong m_due m_firsts m_rows m_rowN m_sortOf m_sizeOf m_numbers m_holdsWhat m_holdsWhich m_holdsMany m_bodies m_ran m_actKind m_actN m_actA m_isParted []) H → va_D A (oMM C e0 e1 e2 e3 e4 e5 e6 e7 e8 e9 e10 e11 e12 e13 e14 e15 m_s m_held m_aside m_before m_isHeld m_tape m_taped m_token m_from m_to m_value m_isWrong m_due m_firsts m_rows m_rowN m_sortOf m_sizeOf m_numbers m_holdsWhat m_holdsWhich m_holdsMany m_bodies m_ran m_actKind m_actN m_actA m_isParted []) → va_S A s.heap H locs → lv_has ls 1 [(0, .ref e0)] → j20 = some r → W p l e (headSpec wsX6_kindHere (rmX6_kindHere)).room s m (List.toArray [Value.ref e0]) below meth c H locs 0 0 Q (F0 m 119 ls []) := by
              intro H locs ls hP hD hS hl hf
              rw [hj20] at hf
              refine lv_aload_n hx hb dX6_kindHere_119 rfl (lv_at hl 0 rfl) ?_
              refine lv_bipush (v := 110) hx hb dX6_kindHere_120 rfl ?_
              refine lv_bipush (v := 97) hx hb dX6_kindHere_122 rfl ?_
              refine lv_bipush (v := 109) hx hb dX6_kindHere_124 rfl ?_
              refine lv_bipush (v := 101) hx hb dX6_kindHere_126 rfl ?_
              obtain ⟨r21, h22, hf⟩ := ob1_e hf
              refine kmz (w1 := (oMM C e0 e1 e2 e3 e4 e5 e6 e7 e8 e9 e10 e11 e12 e13 e14 e15 m_s m_held m_aside m_before m_isHeld m_tape m_taped m_token m_from m_to m_value m_isWrong m_due m_firsts m_rows m_rowN m_sortOf m_sizeOf m_numbers m_holdsWhat m_holdsWhich m_holdsMany m_bodies m_ran m_actKind m_actN m_actA m_isParted [])) (va_runV (As := [.int 110, .int 97, .int 109, .int 101]) (rest := []) ⟨hx, hb, hml, hown, hts⟩ (c_X6_isFour l E D C e0 e1 e2 e3 e4 e5 e6 e7 e8 e9 e10 e11 e12 e13 e14 e15 H.size m_s m_held m_aside m_before m_isHeld m_tape m_taped m_token m_from m_to m_value m_isWrong m_due m_firsts m_rows m_rowN m_sortOf m_sizeOf m_numbers m_holdsWhat m_holdsWhich m_holdsMany m_bodies m_ran m_actKind m_actN m_actA m_isParted 110 97 109 101 r21 h22) (cwV 4 hts gX6_kindHere_X6_isFour rfl rfl rfl hdX6_isFour ⟨Nat.le_of_ble_eq_true rfl, Nat.le_of_ble_eq_true rfl⟩) (kpreM hP hD hK hS hE hA 0 rfl rfl rfl) rfl rfl hl.1 rfl (lv_room (Nat.le_of_ble_eq_true rfl)) dX6_kindHere_128 ⟨Nat.zero_le _, Nat.zero_le _⟩) hP hD hS hA rfl (fun H locs hz23 hP hD hS => ?_)
              refine lv_if_eq (tgt := 138) hx hb dX6_kindHere_131 (by decide) (fun c24 => ?_) (fun c24 => ?_)
              · replace hf := if_te c24 hf
                refine lv_iconst (v := (-1)) hx hb dX6_kindHere_138 rfl ?_
                cases hf
                exact kri hQ hAe hx hb hr hlocks hP hD hK hS dX6_kindHere_139
              · replace hf := if_fe c24 hf
                refine lv_iconst (v := 5) hx hb dX6_kindHere_134 rfl ?_
                refine lv_goto (tgt := 139) hx hb dX6_kindHere_135 (by decide) ?_
                cases hf
                exact kri hQ hAe hx hb hr hlocks hP hD hK hS dX6_kindHere_139
            refine lv_if_eq (tgt := 119) hx hb dX6_kindHere_100 (by decide) (fun c25 => ?_) (fun c25 => ?_)
            · replace hf := if_te c25 hf
              exact Hj20 H locs ls hP hD hS (lv_sub hl [0] rfl) hf
            · replace hf := if_fe c25 hf
              refine lv_aload_n hx hb dX6_kindHere_103 rfl (lv_at hl 0 rfl) ?_
              refine lv_iconst (v := 2) hx hb dX6_kindHere_104 rfl ?_
              refine lv_bipush (v := 97) hx hb dX6_kindHere_105 rfl ?_
              refine lv_bipush (v := 103) hx hb dX6_kindHere_107 rfl ?_
              refine lv_bipush (v := 111) hx hb dX6_kindHere_109 rfl ?_
              obtain ⟨r26, h27, hf⟩ := ob1_e hf
              refine kmz (w1 := (oMM C e0 e1 e2 e3 e4 e5 e6 e7 e8 e9 e10 e11 e12 e13 e14 e15 m_s m_held m_aside m_before m_isHeld m_tape m_taped m_token m_from m_to m_value m_isWrong m_due m_firsts m_rows m_rowN m_sortOf m_sizeOf m_numbers m_holdsWhat m_holdsWhich m_holdsMany m_bodies m_ran m_actKind m_actN m_actA m_isParted [])) (va_runV (As := [.int 2, .int 97, .int 103, .int 111]) (rest := []) ⟨hx, hb, hml, hown, hts⟩ (c_X6_isSame l E D C e0 e1 e2 e3 e4 e5 e6 e7 e8 e9 e10 e11 e12 e13 e14 e15 H.size m_s m_held m_aside m_before m_isHeld m_tape m_taped m_token m_from m_to m_value m_isWrong m_due m_firsts m_rows m_rowN m_sortOf m_sizeOf m_numbers m_holdsWhat m_holdsWhich m_holdsMany m_bodies m_ran m_actKind m_actN m_actA m_isParted 2 97 103 111 r26 h27) (cwV 4 hts gX6_kindHere_X6_isSame rfl rfl rfl hdX6_isSame ⟨Nat.le_of_ble_eq_true rfl, Nat.le_of_ble_eq_true rfl⟩) (kpreM hP hD hK hS hE hA 0 rfl rfl rfl) rfl rfl hl.1 rfl (lv_room (Nat.le_of_ble_eq_true rfl)) dX6_kindHere_111 ⟨Nat.zero_le _, Nat.zero_le _⟩) hP hD hS hA rfl (fun H locs hz28 hP hD hS => ?_)
              refine lv_if_eq (tgt := 119) hx hb dX6_kindHere_114 (by decide) (fun c29 => ?_) (fun c29 => ?_)
              · replace hf := if_te c29 hf
                exact Hj20 H locs ls hP hD hS (lv_sub hl [0] rfl) hf
              · replace hf := if_fe c29 hf
                refine lv_iconst (v := 4) hx hb dX6_kindHere_117 rfl ?_
                cases hf
                exact kri hQ hAe hx hb hr hlocks hP hD hK hS dX6_kindHere_118
          refine lv_if_eq (tgt := 86) hx hb dX6_kindHere_67 (by decide) (fun c30 => ?_) (fun c30 => ?_)
          · replace hf := if_te c30 hf
            exact Hj16 H locs ls hP hD hS (lv_sub hl [0] rfl) hf
          · replace hf := if_fe c30 hf
            refine lv_aload_n hx hb dX6_kindHere_70 rfl (lv_at hl 0 rfl) ?_
            refine lv_iconst (v := 2) hx hb dX6_kindHere_71 rfl ?_
            refine lv_bipush (v := 99) hx hb dX6_kindHere_72 rfl ?_
            refine lv_bipush (v := 104) hx hb dX6_kindHere_74 rfl ?_
            refine lv_bipush (v := 111) hx hb dX6_kindHere_76 rfl ?_
            obtain ⟨r31, h32, hf⟩ := ob1_e hf
            refine kmz (w1 := (oMM C e0 e1 e2 e3 e4 e5 e6 e7 e8 e9 e10 e11 e12 e13 e14 e15 m_s m_held m_aside m_before m_isHeld m_tape m_taped m_token m_from m_to m_value m_isWrong m_due m_firsts m_rows m_rowN m_sortOf m_sizeOf m_numbers m_holdsWhat m_holdsWhich m_holdsMany m_bodies m_ran m_actKind m_actN m_actA m_isParted [])) (va_runV (As := [.int 2, .int 99, .int 104, .int 111]) (rest := []) ⟨hx, hb, hml, hown, hts⟩ (c_X6_isSame l E D C e0 e1 e2 e3 e4 e5 e6 e7 e8 e9 e10 e11 e12 e13 e14 e15 H.size m_s m_held m_aside m_before m_isHeld m_tape m_taped m_token m_from m_to m_value m_isWrong m_due m_firsts m_rows m_rowN m_sortOf m_sizeOf m_numbers m_holdsWhat m_holdsWhich m_holdsMany m_bodies m_ran m_actKind m_actN m_actA m_isParted 2 99 104 111 r31 h32) (cwV 4 hts gX6_kindHere_X6_isSame rfl rfl rfl hdX6_isSame ⟨Nat.le_of_ble_eq_true rfl, Nat.le_of_ble_eq_true rfl⟩) (kpreM hP hD hK hS hE hA 0 rfl rfl rfl) rfl rfl hl.1 rfl (lv_room (Nat.le_of_ble_eq_true rfl)) dX6_kindHere_78 ⟨Nat.zero_le _, Nat.zero_le _⟩) hP hD hS hA rfl (fun H locs hz33 hP hD hS => ?_)
            refine lv_if_eq (tgt := 86) hx hb dX6_kindHere_81 (by decide) (fun c34 => ?_) (fun c34 => ?_)
            · replace hf := if_te c34 hf
              exact Hj16 H locs ls hP hD hS (lv_sub hl [0] rfl) hf
            · replace hf := if_fe c34 hf
              refine lv_iconst (v := 3) hx hb dX6_kindHere_84 rfl ?_
              cases hf
              exact kri hQ hAe hx hb hr hlocks hP hD hK hS dX6_kindHere_85
        · replace hf := if_fe c12 hf
          refine lv_iconst (v := 2) hx hb dX6_kindHere_51 rfl ?_
          cases hf
          exact kri hQ hAe hx hb hr hlocks hP hD hK hS dX6_kindHere_52
      · replace hf := if_fe c8 hf
        refine lv_iconst (v := 1) hx hb dX6_kindHere_32 rfl ?_
        cases hf
        exact kri hQ hAe hx hb hr hlocks hP hD hK hS dX6_kindHere_33
    · replace hf := if_fe c4 hf
      refine lv_iconst (v := 0) hx hb dX6_kindHere_15 rfl ?_
      cases hf
      exact kri hQ hAe hx hb hr hlocks hP hD hK hS dX6_kindHere_16
  exact main _ _ hP hD hS

def rmX6_isNumber : Room := { frames := 0, cells := 0, slots := 0, locals := 0 }
theorem hdX6_isNumber : yX6_isNumber.cls = RX6 ∧ yX6_isNumber.cls ≠ "java/lang/invoke/MethodHandle" ∧ yX6_isNumber.cls ≠ "java/lang/invoke/VarHandle" ∧ (parseMethodDescriptor yX6_isNumber.desc).map (fun d => d.parameters.length) = some 2 := by decide +kernel
set_option maxHeartbeats 40000000 in
set_option maxRecDepth 100000 in
theorem c_X6_isNumber (l : Launch) (E : Nat → Nat) (D : va_G) (C : Nat → ClassId) (e0 e1 e2 e3 e4 e5 e6 e7 e8 e9 e10 e11 e12 e13 e14 e15 : Nat) (sz : Nat) (m_s : Nat → Int32) (m_held : Nat → Int32) (m_aside : Nat → Int32) (m_before : Nat → Int32) (m_isHeld : Int32) (m_tape : Nat → Int32) (m_taped : Int32) (m_token : Int32) (m_from : Int32) (m_to : Int32) (m_value : Int32) (m_isWrong : Int32) (m_due : Nat → Int32) (m_firsts : Nat → Int32) (m_rows : Nat → Int32) (m_rowN : Int32) (m_sortOf : Nat → Int32) (m_sizeOf : Nat → Int32) (m_numbers : Nat → Int32) (m_holdsWhat : Nat → Int32) (m_holdsWhich : Nat → Int32) (m_holdsMany : Nat → Int32) (m_bodies : Nat → Int32) (m_ran : Int32) (m_actKind : Int32) (m_actN : Int32) (m_actA : Int32) (m_isParted : Int32) (x0 : Int32) (x1 : Int32) (r : Int32) (hf : f_X6_isNumber m_token m_from m_to m_value x0 x1 = r) : Met l yX6_isNumber wsX6_isNumber rmX6_isNumber (PC E D C [.ref e0, .int x0, .int x1] (oMM C e0 e1 e2 e3 e4 e5 e6 e7 e8 e9 e10 e11 e12 e13 e14 e15 m_s m_held m_aside m_before m_isHeld m_tape m_taped m_token m_from m_to m_value m_isWrong m_due m_firsts m_rows m_rowN m_sortOf m_sizeOf m_numbers m_holdsWhat m_holdsWhich m_holdsMany m_bodies m_ran m_actKind m_actN m_actA m_isParted []) sz) (QZ D C (oMM C e0 e1 e2 e3 e4 e5 e6 e7 e8 e9 e10 e11 e12 e13 e14 e15 m_s m_held m_aside m_before m_isHeld m_tape m_taped m_token m_from m_to m_value m_isWrong m_due m_firsts m_rows m_rowN m_sortOf m_sizeOf m_numbers m_holdsWhat m_holdsWhich m_holdsMany m_bodies m_ran m_actKind m_actN m_actA m_isParted []) (oMM C e0 e1 e2 e3 e4 e5 e6 e7 e8 e9 e10 e11 e12 e13 e14 e15 m_s m_held m_aside m_before m_isHeld m_tape m_taped m_token m_from m_to m_value m_isWrong m_due m_firsts m_rows m_rowN m_sortOf m_sizeOf m_numbers m_holdsWhat m_holdsWhich m_holdsMany m_bodies m_ran m_actKind m_actN m_actA m_isParted []) sz r) 0 0 (va_A (oMM C e0 e1 e2 e3 e4 e5 e6 e7 e8 e9 e10 e11 e12 e13 e14 e15 m_s m_held m_aside m_before m_isHeld m_tape m_taped m_token m_from m_to m_value m_isWrong m_due m_firsts m_rows m_rowN m_sortOf m_sizeOf m_numbers m_holdsWhat m_holdsWhich m_holdsMany m_bodies m_ran m_actKind m_actN m_actA m_isParted []) sz) := by
  refine Met.ofW (cc := cX6_isNumber) (maxL := 3) (ret := (some .boolean)) (by decide) rfl ?_
  intro p e s m args below meth c s₁ B hml hv
  obtain ⟨rfl, hsz, hP, hK, hD0, hE⟩ := hv
  have hx := B.exec
  have hb := B.bytes
  have hr := B.returns
  have hts := atoms_spec (ws := wsX6_isNumber) B.pre
  have hown : s.vm.findClass RX6 = some m.cls := findClass_of_methodNamed B.named
  have hlocks := B.notSynchronized
  subst hsz
  have hi_RX6 : ∀ w ∈ wsX60, w ∈ wsX6_isNumber := fun _ h => List.mem_cons_of_mem _ (List.mem_append_right _ h)
  have hD := hD0.self (sz := s.heap.size)
  obtain ⟨A, hAe⟩ := nm_ex (va_A (oMM C e0 e1 e2 e3 e4 e5 e6 e7 e8 e9 e10 e11 e12 e13 e14 e15 m_s m_held m_aside m_before m_isHeld m_tape m_taped m_token m_from m_to m_value m_isWrong m_due m_firsts m_rows m_rowN m_sortOf m_sizeOf m_numbers m_holdsWhat m_holdsWhich m_holdsMany m_bodies m_ran m_actKind m_actN m_actA m_isParted []) s.heap.size)
  rw [← hAe] at hD hE ⊢
  have hA : ∀ q : Nat, s.heap.size ≤ q → A q := fun q h => by rw [hAe]; exact Or.inr h
  have hS : va_S A s.heap s.heap [] := va_S.rf
  have hl := lv_entry ([.ref e0, .int x0, .int x1]) (n := 3) (Nat.le_of_ble_eq_true rfl)
  rw [lg_entry_eq]
  generalize (lg_sl ([.ref e0, .int x0, .int x1]) ++ List.replicate (3 - (lg_sl ([.ref e0, .int x0, .int x1])).length) Slot.unset).toArray = ls at hl ⊢
  have hl : lv_has ls 3 [(0, .ref e0), (1, .int x0), (2, .int x1)] := hl
  obtain ⟨Q, hQ⟩ := nm_ex (MQ below (QZ D C (oMM C e0 e1 e2 e3 e4 e5 e6 e7 e8 e9 e10 e11 e12 e13 e14 e15 m_s m_held m_aside m_before m_isHeld m_tape m_taped m_token m_from m_to m_value m_isWrong m_due m_firsts m_rows m_rowN m_sortOf m_sizeOf m_numbers m_holdsWhat m_holdsWhich m_holdsMany m_bodies m_ran m_actKind m_actN m_actA m_isParted []) (oMM C e0 e1 e2 e3 e4 e5 e6 e7 e8 e9 e10 e11 e12 e13 e14 e15 m_s m_held m_aside m_before m_isHeld m_tape m_taped m_token m_from m_to m_value m_isWrong m_due m_firsts m_rows m_rowN m_sortOf m_sizeOf m_numbers m_holdsWhat m_holdsWhich m_holdsMany m_bodies m_ran m_actKind m_actN m_actA m_isParted []) s.heap.size r) (List.toArray [Value.ref e0, Value.int x0, Value.int x1]) s 0 0 A)
  show W p l e (headSpec wsX6_isNumber (rmX6_isNumber)).room s m (List.toArray [Value.ref e0, Value.int x0, Value.int x1]) below meth c s.heap [] 0 0 (MQ below (QZ D C (oMM C e0 e1 e2 e3 e4 e5 e6 e7 e8 e9 e10 e11 e12 e13 e14 e15 m_s m_held m_aside m_before m_isHeld m_tape m_taped m_token m_from m_to m_value m_isWrong m_due m_firsts m_rows m_rowN m_sortOf m_sizeOf m_numbers m_holdsWhat m_holdsWhich m_holdsMany m_bodies m_ran m_actKind m_actN m_actA m_isParted []) (oMM C e0 e1 e2 e3 e4 e5 e6 e7 e8 e9 e10 e11 e12 e13 e14 e15 m_s m_held m_aside m_before m_isHeld m_tape m_taped m_token m_from m_to m_value m_isWrong m_due m_firsts m_rows m_rowN m_sortOf m_sizeOf m_numbers m_holdsWhat m_holdsWhich m_holdsMany m_bodies m_ran m_actKind m_actN m_actA m_isParted []) s.heap.size r) (List.toArray [Value.ref e0, Value.int x0, Value.int x1]) s 0 0 A) _
  rw [← hQ]
  unfold f_X6_isNumber at hf
  have main : ∀ (H : Heap) (locs : List Loc), va_P D vwCl (oMM C e0 e1 e2 e3 e4 e5 e6 e7 e8 e9 e10 e11 e12 e13 e14 e15 m_s m_held m_aside m_before m_isHeld m_tape m_taped m_token m_from m_to m_value m_isWrong m_due m_firsts m_rows m_rowN m_sortOf m_sizeOf m_numbers m_holdsWhat m_holdsWhich m_holdsMany m_bodies m_ran m_actKind m_actN m_actA m_isParted []) H → va_D A (oMM C e0 e1 e2 e3 e4 e5 e6 e7 e8 e9 e10 e11 e12 e13 e14 e15 m_s m_held m_aside m_before m_isHeld m_tape m_taped m_token m_from m_to m_value m_isWrong m_due m_firsts m_rows m_rowN m_sortOf m_sizeOf m_numbers m_holdsWhat m_holdsWhich m_holdsMany m_bodies m_ran m_actKind m_actN m_actA m_isParted []) → va_S A s.heap H locs → W p l e (headSpec wsX6_isNumber (rmX6_isNumber)).room s m (List.toArray [Value.ref e0, Value.int x0, Value.int x1]) below meth c H locs 0 0 Q (F0 m 0 ls []) := by
    intro H locs hP hD hS
    refine lv_aload_n hx hb dX6_isNumber_0 rfl (lv_at hl 0 rfl) ?_
    refine va_get (D := D) (ci := 6) (v := .int m_token) (C := RX6) (T := TX6) (N := 28) hx hb hts hi_RX6 hown hK hP 0 rfl rfl 7 (by decide) (hts (.fieldLink RX6 87 "TravelMarksModel" "token" "I") (List.mem_of_getElem? (i := 1) rfl)) (fun _ h9 => h9) rfl dX6_isNumber_1 ?_
    refine lv_iconst (v := 2) hx hb dX6_isNumber_4 rfl ?_
    refine lv_icmp_ne (tgt := 41) hx hb dX6_isNumber_5 (by decide) (fun c1 => ?_) (fun c1 => ?_)
    · replace hf := if_fe c1 hf
      refine lv_iconst (v := 0) hx hb dX6_isNumber_41 rfl ?_
      cases hf
      exact krz hQ hAe hx hb hr hlocks zb_0 hP hD hK hS dX6_isNumber_42
    · replace hf := if_te c1 hf
      refine lv_aload_n hx hb dX6_isNumber_8 rfl (lv_at hl 0 rfl) ?_
      refine va_get (D := D) (ci := 6) (v := .int m_to) (C := RX6) (T := TX6) (N := 28) hx hb hts hi_RX6 hown hK hP 0 rfl rfl 9 (by decide) (hts (.fieldLink RX6 70 "TravelMarksModel" "to" "I") (List.mem_of_getElem? (i := 2) rfl)) (fun _ h9 => h9) rfl dX6_isNumber_9 ?_
      refine lv_aload_n hx hb dX6_isNumber_12 rfl (lv_at hl 0 rfl) ?_
      refine va_get (D := D) (ci := 6) (v := .int m_from) (C := RX6) (T := TX6) (N := 28) hx hb hts hi_RX6 hown hK hP 0 rfl rfl 8 (by decide) (hts (.fieldLink RX6 73 "TravelMarksModel" "from" "I") (List.mem_of_getElem? (i := 3) rfl)) (fun _ h9 => h9) rfl dX6_isNumber_13 ?_
      refine lv_isub hx hb dX6_isNumber_16 ?_
      refine lv_iconst (v := 3) hx hb dX6_isNumber_17 rfl ?_
      refine lv_icmp_gt (tgt := 41) hx hb dX6_isNumber_18 (by decide) (fun c2 => ?_) (fun c2 => ?_)
      · replace hf := if_te c2 hf
        refine lv_iconst (v := 0) hx hb dX6_isNumber_41 rfl ?_
        cases hf
        exact krz hQ hAe hx hb hr hlocks zb_0 hP hD hK hS dX6_isNumber_42
      · replace hf := if_fe c2 hf
        refine lv_aload_n hx hb dX6_isNumber_21 rfl (lv_at hl 0 rfl) ?_
        refine va_get (D := D) (ci := 6) (v := .int m_value) (C := RX6) (T := TX6) (N := 28) hx hb hts hi_RX6 hown hK hP 0 rfl rfl 10 (by decide) (hts (.fieldLink RX6 90 "TravelMarksModel" "value" "I") (List.mem_of_getElem? (i := 4) rfl)) (fun _ h9 => h9) rfl dX6_isNumber_22 ?_
        refine lv_iload_n hx hb dX6_isNumber_25 rfl (lv_at hl 1 rfl) ?_
        refine lv_icmp_lt (tgt := 41) hx hb dX6_isNumber_26 (by decide) (fun c3 => ?_) (fun c3 => ?_)
        · replace hf := if_te c3 hf
          refine lv_iconst (v := 0) hx hb dX6_isNumber_41 rfl ?_
          cases hf
          exact krz hQ hAe hx hb hr hlocks zb_0 hP hD hK hS dX6_isNumber_42
        · replace hf := if_fe c3 hf
          refine lv_aload_n hx hb dX6_isNumber_29 rfl (lv_at hl 0 rfl) ?_
          refine va_get (D := D) (ci := 6) (v := .int m_value) (C := RX6) (T := TX6) (N := 28) hx hb hts hi_RX6 hown hK hP 0 rfl rfl 10 (by decide) (hts (.fieldLink RX6 90 "TravelMarksModel" "value" "I") (List.mem_of_getElem? (i := 4) rfl)) (fun _ h9 => h9) rfl dX6_isNumber_30 ?_
          refine lv_iload_n hx hb dX6_isNumber_33 rfl (lv_at hl 2 rfl) ?_
          refine lv_icmp_gt (tgt := 41) hx hb dX6_isNumber_34 (by decide) (fun c4 => ?_) (fun c4 => ?_)
          · replace hf := if_te c4 hf
            refine lv_iconst (v := 0) hx hb dX6_isNumber_41 rfl ?_
            cases hf
            exact krz hQ hAe hx hb hr hlocks zb_0 hP hD hK hS dX6_isNumber_42
          · replace hf := if_fe c4 hf
            refine lv_iconst (v := 1) hx hb dX6_isNumber_37 rfl ?_
            refine lv_goto (tgt := 42) hx hb dX6_isNumber_38 (by decide) ?_
            cases hf
            exact krz hQ hAe hx hb hr hlocks zb_1 hP hD hK hS dX6_isNumber_42
  exact main _ _ hP hD hS

def rmX6_numberTo : Room := { frames := 3, cells := 0, slots := 0, locals := 63 }
theorem hdX6_numberTo : yX6_numberTo.cls = RX6 ∧ yX6_numberTo.cls ≠ "java/lang/invoke/MethodHandle" ∧ yX6_numberTo.cls ≠ "java/lang/invoke/VarHandle" ∧ (parseMethodDescriptor yX6_numberTo.desc).map (fun d => d.parameters.length) = some 3 := by decide +kernel
set_option maxHeartbeats 40000000 in
set_option maxRecDepth 100000 in
theorem c_X6_numberTo (l : Launch) (E : Nat → Nat) (D : va_G) (C : Nat → ClassId) (e0 e1 e2 e3 e4 e5 e6 e7 e8 e9 e10 e11 e12 e13 e14 e15 : Nat) (sz : Nat) (N : Nat) (m_s : Nat → Int32) (m_held : Nat → Int32) (m_aside : Nat → Int32) (m_before : Nat → Int32) (m_isHeld : Int32) (m_tape : Nat → Int32) (m_taped : Int32) (m_token : Int32) (m_from : Int32) (m_to : Int32) (m_value : Int32) (m_isWrong : Int32) (m_due : Nat → Int32) (m_firsts : Nat → Int32) (m_rows : Nat → Int32) (m_rowN : Int32) (m_sortOf : Nat → Int32) (m_sizeOf : Nat → Int32) (m_numbers : Nat → Int32) (m_holdsWhat : Nat → Int32) (m_holdsWhich : Nat → Int32) (m_holdsMany : Nat → Int32) (m_bodies : Nat → Int32) (m_ran : Int32) (m_actKind : Int32) (m_actN : Int32) (m_actA : Int32) (m_isParted : Int32) (x0 : Int32) (x1 : Int32) (x2 : Int32) (m_s' : Nat → Int32) (m_token' : Int32) (m_from' : Int32) (m_to' : Int32) (m_value' : Int32) (m_isWrong' : Int32) (hf : f_X6_numberTo N m_s m_tape m_taped m_token m_from m_to m_value m_isWrong x0 x1 x2 = some (m_s', m_token', m_from', m_to', m_value', m_isWrong')) : Met l yX6_numberTo wsX6_numberTo rmX6_numberTo (PC E D C [.ref e0, .int x0, .int x1, .int x2] (oMM C e0 e1 e2 e3 e4 e5 e6 e7 e8 e9 e10 e11 e12 e13 e14 e15 m_s m_held m_aside m_before m_isHeld m_tape m_taped m_token m_from m_to m_value m_isWrong m_due m_firsts m_rows m_rowN m_sortOf m_sizeOf m_numbers m_holdsWhat m_holdsWhich m_holdsMany m_bodies m_ran m_actKind m_actN m_actA m_isParted []) sz) (QV D C (oMM C e0 e1 e2 e3 e4 e5 e6 e7 e8 e9 e10 e11 e12 e13 e14 e15 m_s m_held m_aside m_before m_isHeld m_tape m_taped m_token m_from m_to m_value m_isWrong m_due m_firsts m_rows m_rowN m_sortOf m_sizeOf m_numbers m_holdsWhat m_holdsWhich m_holdsMany m_bodies m_ran m_actKind m_actN m_actA m_isParted []) (oMM C e0 e1 e2 e3 e4 e5 e6 e7 e8 e9 e10 e11 e12 e13 e14 e15 (m_s') m_held m_aside m_before m_isHeld m_tape m_taped (m_token') (m_from') (m_to') (m_value') (m_isWrong') m_due m_firsts m_rows m_rowN m_sortOf m_sizeOf m_numbers m_holdsWhat m_holdsWhich m_holdsMany m_bodies m_ran m_actKind m_actN m_actA m_isParted []) sz) 0 0 (va_A (oMM C e0 e1 e2 e3 e4 e5 e6 e7 e8 e9 e10 e11 e12 e13 e14 e15 m_s m_held m_aside m_before m_isHeld m_tape m_taped m_token m_from m_to m_value m_isWrong m_due m_firsts m_rows m_rowN m_sortOf m_sizeOf m_numbers m_holdsWhat m_holdsWhich m_holdsMany m_bodies m_ran m_actKind m_actN m_actA m_isParted []) sz) := by
  refine Met.ofW (cc := cX6_numberTo) (maxL := 5) (ret := none) (by decide) rfl ?_
  intro p e s m args below meth c s₁ B hml hv
  obtain ⟨rfl, hsz, hP, hK, hD0, hE⟩ := hv
  have hx := B.exec
  have hb := B.bytes
  have hr := B.returns
  have hts := atoms_spec (ws := wsX6_numberTo) B.pre
  have hown : s.vm.findClass RX6 = some m.cls := findClass_of_methodNamed B.named
  have hlocks := B.notSynchronized
  subst hsz
  have hi_RX6 : ∀ w ∈ wsX60, w ∈ wsX6_numberTo := fun _ h => List.mem_cons_of_mem _ (List.mem_append_right _ h)
  have hD := hD0.self (sz := s.heap.size)
  obtain ⟨A, hAe⟩ := nm_ex (va_A (oMM C e0 e1 e2 e3 e4 e5 e6 e7 e8 e9 e10 e11 e12 e13 e14 e15 m_s m_held m_aside m_before m_isHeld m_tape m_taped m_token m_from m_to m_value m_isWrong m_due m_firsts m_rows m_rowN m_sortOf m_sizeOf m_numbers m_holdsWhat m_holdsWhich m_holdsMany m_bodies m_ran m_actKind m_actN m_actA m_isParted []) s.heap.size)
  rw [← hAe] at hD hE ⊢
  have hA : ∀ q : Nat, s.heap.size ≤ q → A q := fun q h => by rw [hAe]; exact Or.inr h
  have hS : va_S A s.heap s.heap [] := va_S.rf
  have hl := lv_entry ([.ref e0, .int x0, .int x1, .int x2]) (n := 5) (Nat.le_of_ble_eq_true rfl)
  rw [lg_entry_eq]
  generalize (lg_sl ([.ref e0, .int x0, .int x1, .int x2]) ++ List.replicate (5 - (lg_sl ([.ref e0, .int x0, .int x1, .int x2])).length) Slot.unset).toArray = ls at hl ⊢
  have hl : lv_has ls 5 [(0, .ref e0), (1, .int x0), (2, .int x1), (3, .int x2)] := hl
  obtain ⟨Q, hQ⟩ := nm_ex (MQ below (QV D C (oMM C e0 e1 e2 e3 e4 e5 e6 e7 e8 e9 e10 e11 e12 e13 e14 e15 m_s m_held m_aside m_before m_isHeld m_tape m_taped m_token m_from m_to m_value m_isWrong m_due m_firsts m_rows m_rowN m_sortOf m_sizeOf m_numbers m_holdsWhat m_holdsWhich m_holdsMany m_bodies m_ran m_actKind m_actN m_actA m_isParted []) (oMM C e0 e1 e2 e3 e4 e5 e6 e7 e8 e9 e10 e11 e12 e13 e14 e15 (m_s') m_held m_aside m_before m_isHeld m_tape m_taped (m_token') (m_from') (m_to') (m_value') (m_isWrong') m_due m_firsts m_rows m_rowN m_sortOf m_sizeOf m_numbers m_holdsWhat m_holdsWhich m_holdsMany m_bodies m_ran m_actKind m_actN m_actA m_isParted []) s.heap.size) (List.toArray [Value.ref e0, Value.int x0, Value.int x1, Value.int x2]) s 0 0 A)
  show W p l e (headSpec wsX6_numberTo (rmX6_numberTo)).room s m (List.toArray [Value.ref e0, Value.int x0, Value.int x1, Value.int x2]) below meth c s.heap [] 0 0 (MQ below (QV D C (oMM C e0 e1 e2 e3 e4 e5 e6 e7 e8 e9 e10 e11 e12 e13 e14 e15 m_s m_held m_aside m_before m_isHeld m_tape m_taped m_token m_from m_to m_value m_isWrong m_due m_firsts m_rows m_rowN m_sortOf m_sizeOf m_numbers m_holdsWhat m_holdsWhich m_holdsMany m_bodies m_ran m_actKind m_actN m_actA m_isParted []) (oMM C e0 e1 e2 e3 e4 e5 e6 e7 e8 e9 e10 e11 e12 e13 e14 e15 (m_s') m_held m_aside m_before m_isHeld m_tape m_taped (m_token') (m_from') (m_to') (m_value') (m_isWrong') m_due m_firsts m_rows m_rowN m_sortOf m_sizeOf m_numbers m_holdsWhat m_holdsWhich m_holdsMany m_bodies m_ran m_actKind m_actN m_actA m_isParted []) s.heap.size) (List.toArray [Value.ref e0, Value.int x0, Value.int x1, Value.int x2]) s 0 0 A) _
  rw [← hQ]
  unfold f_X6_numberTo at hf
  have main : ∀ (H : Heap) (locs : List Loc), va_P D vwCl (oMM C e0 e1 e2 e3 e4 e5 e6 e7 e8 e9 e10 e11 e12 e13 e14 e15 m_s m_held m_aside m_before m_isHeld m_tape m_taped m_token m_from m_to m_value m_isWrong m_due m_firsts m_rows m_rowN m_sortOf m_sizeOf m_numbers m_holdsWhat m_holdsWhich m_holdsMany m_bodies m_ran m_actKind m_actN m_actA m_isParted []) H → va_D A (oMM C e0 e1 e2 e3 e4 e5 e6 e7 e8 e9 e10 e11 e12 e13 e14 e15 m_s m_held m_aside m_before m_isHeld m_tape m_taped m_token m_from m_to m_value m_isWrong m_due m_firsts m_rows m_rowN m_sortOf m_sizeOf m_numbers m_holdsWhat m_holdsWhich m_holdsMany m_bodies m_ran m_actKind m_actN m_actA m_isParted []) → va_S A s.heap H locs → W p l e (headSpec wsX6_numberTo (rmX6_numberTo)).room s m (List.toArray [Value.ref e0, Value.int x0, Value.int x1, Value.int x2]) below meth c H locs 0 0 Q (F0 m 0 ls []) := by
    intro H locs hP hD hS
    refine lv_aload_n hx hb dX6_numberTo_0 rfl (lv_at hl 0 rfl) ?_
    refine lv_iload_n hx hb dX6_numberTo_1 rfl (lv_at hl 2 rfl) ?_
    refine lv_iload_n hx hb dX6_numberTo_2 rfl (lv_at hl 3 rfl) ?_
    refine kmz (w1 := (oMM C e0 e1 e2 e3 e4 e5 e6 e7 e8 e9 e10 e11 e12 e13 e14 e15 m_s m_held m_aside m_before m_isHeld m_tape m_taped m_token m_from m_to m_value m_isWrong m_due m_firsts m_rows m_rowN m_sortOf m_sizeOf m_numbers m_holdsWhat m_holdsWhich m_holdsMany m_bodies m_ran m_actKind m_actN m_actA m_isParted [])) (va_runV (As := [.int x1, .int x2]) (rest := []) ⟨hx, hb, hml, hown, hts⟩ (c_X6_isNumber l E D C e0 e1 e2 e3 e4 e5 e6 e7 e8 e9 e10 e11 e12 e13 e14 e15 H.size m_s m_held m_aside m_before m_isHeld m_tape m_taped m_token m_from m_to m_value m_isWrong m_due m_firsts m_rows m_rowN m_sortOf m_sizeOf m_numbers m_holdsWhat m_holdsWhich m_holdsMany m_bodies m_ran m_actKind m_actN m_actA m_isParted x1 x2 _ rfl) (cwV 2 hts gX6_numberTo_X6_isNumber rfl rfl rfl hdX6_isNumber ⟨Nat.le_of_ble_eq_true rfl, Nat.le_of_ble_eq_true rfl⟩) (kpreM hP hD hK hS hE hA 0 rfl rfl rfl) rfl rfl hl.1 rfl (lv_room (Nat.le_of_ble_eq_true rfl)) dX6_numberTo_3 ⟨Nat.zero_le _, Nat.zero_le _⟩) hP hD hS hA rfl (fun H locs hz1 hP hD hS => ?_)
    obtain ⟨t2, et2, hf⟩ := lj_e hf
    refine lv_ren et2 ?_
    refine lv_istore (lv' := [(4, .int t2), (0, .ref e0), (1, .int x0), (2, .int x1), (3, .int x2)]) hx hb dX6_numberTo_6 hl (by decide) rfl (fun ls hl => ?_)
    refine lv_iload hx hb dX6_numberTo_8 (lv_at hl 0 rfl) ?_
    obtain ⟨j4, hj4, hf⟩ := lj_e hf
    have Hj4 : ∀ (v3 : Nat → Int32) (H : Heap) (locs : List Loc) (ls : Array Slot), va_P D vwCl (oMM C e0 e1 e2 e3 e4 e5 e6 e7 e8 e9 e10 e11 e12 e13 e14 e15 v3 m_held m_aside m_before m_isHeld m_tape m_taped m_token m_from m_to m_value m_isWrong m_due m_firsts m_rows m_rowN m_sortOf m_sizeOf m_numbers m_holdsWhat m_holdsWhich m_holdsMany m_bodies m_ran m_actKind m_actN m_actA m_isParted []) H → va_D A (oMM C e0 e1 e2 e3 e4 e5 e6 e7 e8 e9 e10 e11 e12 e13 e14 e15 v3 m_held m_aside m_before m_isHeld m_tape m_taped m_token m_from m_to m_value m_isWrong m_due m_firsts m_rows m_rowN m_sortOf m_sizeOf m_numbers m_holdsWhat m_holdsWhich m_holdsMany m_bodies m_ran m_actKind m_actN m_actA m_isParted []) → va_S A s.heap H locs → lv_has ls 5 [(4, .int t2), (0, .ref e0)] → j4 v3 = some (m_s', m_token', m_from', m_to', m_value', m_isWrong') → W p l e (headSpec wsX6_numberTo (rmX6_numberTo)).room s m (List.toArray [Value.ref e0, Value.int x0, Value.int x1, Value.int x2]) below meth c H locs 0 0 Q (F0 m 30 ls []) := by
      intro v3 H locs ls hP hD hS hl hf
      rw [hj4] at hf
      refine lv_aload_n hx hb dX6_numberTo_30 rfl (lv_at hl 1 rfl) ?_
      refine lv_iload hx hb dX6_numberTo_31 (lv_at hl 0 rfl) ?_
      obtain ⟨v5, v6, v7, v8, v9, h10, hf⟩ := ob5_e hf
      refine kmv (w1 := (oMM C e0 e1 e2 e3 e4 e5 e6 e7 e8 e9 e10 e11 e12 e13 e14 e15 v3 m_held m_aside m_before m_isHeld m_tape m_taped v5 v6 v7 v8 v9 m_due m_firsts m_rows m_rowN m_sortOf m_sizeOf m_numbers m_holdsWhat m_holdsWhich m_holdsMany m_bodies m_ran m_actKind m_actN m_actA m_isParted [])) (va_runV (As := [.int t2]) (rest := []) ⟨hx, hb, hml, hown, hts⟩ (c_X6_needs l E D C e0 e1 e2 e3 e4 e5 e6 e7 e8 e9 e10 e11 e12 e13 e14 e15 H.size N v3 m_held m_aside m_before m_isHeld m_tape m_taped m_token m_from m_to m_value m_isWrong m_due m_firsts m_rows m_rowN m_sortOf m_sizeOf m_numbers m_holdsWhat m_holdsWhich m_holdsMany m_bodies m_ran m_actKind m_actN m_actA m_isParted t2 v5 v6 v7 v8 v9 h10) (cwV 1 hts gX6_numberTo_X6_needs rfl rfl rfl hdX6_needs ⟨Nat.le_of_ble_eq_true rfl, Nat.le_of_ble_eq_true rfl⟩) (kpreM hP hD hK hS hE hA 0 rfl rfl rfl) rfl rfl hl.1 rfl (lv_room (Nat.le_of_ble_eq_true rfl)) dX6_numberTo_33 ⟨Nat.zero_le _, Nat.zero_le _⟩) hP hD hS hA rfl (fun H locs hP hD hS => ?_)
      cases hf
      exact krv hQ hAe hx hb hr hlocks hP hD hK hS dX6_numberTo_36
    refine lv_if_eq (tgt := 30) hx hb dX6_numberTo_10 (by decide) (fun c11 => ?_) (fun c11 => ?_)
    · replace hf := if_te c11 hf
      exact Hj4 m_s H locs ls hP hD hS (lv_sub hl [0, 1] rfl) hf
    · replace hf := if_fe c11 hf
      refine lv_aload_n hx hb dX6_numberTo_13 rfl (lv_at hl 1 rfl) ?_
      refine va_get (D := D) (ci := 6) (v := .int m_isWrong) (C := RX6) (T := TX6) (N := 28) hx hb hts hi_RX6 hown hK hP 0 rfl rfl 11 (by decide) (hts (.fieldLink RX6 93 "TravelMarksModel" "isWrong" "Z") (List.mem_of_getElem? (i := 1) rfl)) (fun _ h9 => h9) rfl dX6_numberTo_14 ?_
      refine lv_if_ne (tgt := 30) hx hb dX6_numberTo_17 (by decide) (fun c12 => ?_) (fun c12 => ?_)
      · replace hf := if_fe c12 hf
        exact Hj4 m_s H locs ls hP hD hS (lv_sub hl [0, 1] rfl) hf
      · replace hf := if_te c12 hf
        refine lv_aload_n hx hb dX6_numberTo_20 rfl (lv_at hl 1 rfl) ?_
        refine va_get (D := D) (ci := 6) (v := .ref e1) (C := RX6) (T := TX6) (N := 28) hx hb hts hi_RX6 hown hK hP 0 rfl rfl 0 (by decide) (hts (.fieldLink RX6 7 "TravelMarksModel" "s" "[I") (List.mem_of_getElem? (i := 2) rfl)) (fun _ h9 => h9) rfl dX6_numberTo_21 ?_
        refine lv_iload_n hx hb dX6_numberTo_24 rfl (lv_at hl 2 rfl) ?_
        refine lv_aload_n hx hb dX6_numberTo_25 rfl (lv_at hl 1 rfl) ?_
        refine va_get (D := D) (ci := 6) (v := .int m_value) (C := RX6) (T := TX6) (N := 28) hx hb hts hi_RX6 hown hK hP 0 rfl rfl 10 (by decide) (hts (.fieldLink RX6 90 "TravelMarksModel" "value" "I") (List.mem_of_getElem? (i := 3) rfl)) (fun _ h9 => h9) rfl dX6_numberTo_26 ?_
        obtain ⟨hi13, hf⟩ := ckA_e hf
        refine va_iast hx hb hK hP hD hS 1 0 rfl rfl hi13 dX6_numberTo_29 (fun H locs hP hD hS => ?_)
        obtain ⟨v14, ev14, hf⟩ := lj_e hf
        have hP : va_P D vwCl (oMM C e0 e1 e2 e3 e4 e5 e6 e7 e8 e9 e10 e11 e12 e13 e14 e15 v14 m_held m_aside m_before m_isHeld m_tape m_taped m_token m_from m_to m_value m_isWrong m_due m_firsts m_rows m_rowN m_sortOf m_sizeOf m_numbers m_holdsWhat m_holdsWhich m_holdsMany m_bodies m_ran m_actKind m_actN m_actA m_isParted []) H := by rw [ev14]; exact hP
        have hD : va_D A (oMM C e0 e1 e2 e3 e4 e5 e6 e7 e8 e9 e10 e11 e12 e13 e14 e15 v14 m_held m_aside m_before m_isHeld m_tape m_taped m_token m_from m_to m_value m_isWrong m_due m_firsts m_rows m_rowN m_sortOf m_sizeOf m_numbers m_holdsWhat m_holdsWhich m_holdsMany m_bodies m_ran m_actKind m_actN m_actA m_isParted []) := by rw [ev14]; exact hD
        exact Hj4 v14 H locs ls hP hD hS (lv_sub hl [0, 1] rfl) hf
  exact main _ _ hP hD hS

def rmX6_comes0 : Room := { frames := 0, cells := 0, slots := 0, locals := 0 }
theorem hdX6_comes0 : yX6_comes0.cls = RX6 ∧ yX6_comes0.cls ≠ "java/lang/invoke/MethodHandle" ∧ yX6_comes0.cls ≠ "java/lang/invoke/VarHandle" ∧ (parseMethodDescriptor yX6_comes0.desc).map (fun d => d.parameters.length) = some 3 := by decide +kernel
set_option maxHeartbeats 40000000 in
set_option maxRecDepth 100000 in
theorem c_X6_comes0 (l : Launch) (E : Nat → Nat) (D : va_G) (C : Nat → ClassId) (e0 e1 e2 e3 e4 e5 e6 e7 e8 e9 e10 e11 e12 e13 e14 e15 : Nat) (sz : Nat) (m_s : Nat → Int32) (m_held : Nat → Int32) (m_aside : Nat → Int32) (m_before : Nat → Int32) (m_isHeld : Int32) (m_tape : Nat → Int32) (m_taped : Int32) (m_token : Int32) (m_from : Int32) (m_to : Int32) (m_value : Int32) (m_isWrong : Int32) (m_due : Nat → Int32) (m_firsts : Nat → Int32) (m_rows : Nat → Int32) (m_rowN : Int32) (m_sortOf : Nat → Int32) (m_sizeOf : Nat → Int32) (m_numbers : Nat → Int32) (m_holdsWhat : Nat → Int32) (m_holdsWhich : Nat → Int32) (m_holdsMany : Nat → Int32) (m_bodies : Nat → Int32) (m_ran : Int32) (m_actKind : Int32) (m_actN : Int32) (m_actA : Int32) (m_isParted : Int32) (x0 : Int32) (x1 : Int32) (x2 : Int32) (m_s' : Nat → Int32) (hf : f_X6_comes0 m_s x0 x1 x2 = some m_s') : Met l yX6_comes0 wsX6_comes0 rmX6_comes0 (PC E D C [.ref e0, .int x0, .int x1, .int x2] (oMM C e0 e1 e2 e3 e4 e5 e6 e7 e8 e9 e10 e11 e12 e13 e14 e15 m_s m_held m_aside m_before m_isHeld m_tape m_taped m_token m_from m_to m_value m_isWrong m_due m_firsts m_rows m_rowN m_sortOf m_sizeOf m_numbers m_holdsWhat m_holdsWhich m_holdsMany m_bodies m_ran m_actKind m_actN m_actA m_isParted []) sz) (QV D C (oMM C e0 e1 e2 e3 e4 e5 e6 e7 e8 e9 e10 e11 e12 e13 e14 e15 m_s m_held m_aside m_before m_isHeld m_tape m_taped m_token m_from m_to m_value m_isWrong m_due m_firsts m_rows m_rowN m_sortOf m_sizeOf m_numbers m_holdsWhat m_holdsWhich m_holdsMany m_bodies m_ran m_actKind m_actN m_actA m_isParted []) (oMM C e0 e1 e2 e3 e4 e5 e6 e7 e8 e9 e10 e11 e12 e13 e14 e15 (m_s') m_held m_aside m_before m_isHeld m_tape m_taped m_token m_from m_to m_value m_isWrong m_due m_firsts m_rows m_rowN m_sortOf m_sizeOf m_numbers m_holdsWhat m_holdsWhich m_holdsMany m_bodies m_ran m_actKind m_actN m_actA m_isParted []) sz) 0 0 (va_A (oMM C e0 e1 e2 e3 e4 e5 e6 e7 e8 e9 e10 e11 e12 e13 e14 e15 m_s m_held m_aside m_before m_isHeld m_tape m_taped m_token m_from m_to m_value m_isWrong m_due m_firsts m_rows m_rowN m_sortOf m_sizeOf m_numbers m_holdsWhat m_holdsWhich m_holdsMany m_bodies m_ran m_actKind m_actN m_actA m_isParted []) sz) := by
  refine Met.ofW (cc := cX6_comes0) (maxL := 5) (ret := none) (by decide) rfl ?_
  intro p e s m args below meth c s₁ B hml hv
  obtain ⟨rfl, hsz, hP, hK, hD0, hE⟩ := hv
  have hx := B.exec
  have hb := B.bytes
  have hr := B.returns
  have hts := atoms_spec (ws := wsX6_comes0) B.pre
  have hown : s.vm.findClass RX6 = some m.cls := findClass_of_methodNamed B.named
  have hlocks := B.notSynchronized
  subst hsz
  have hi_RX6 : ∀ w ∈ wsX60, w ∈ wsX6_comes0 := fun _ h => List.mem_cons_of_mem _ (List.mem_append_right _ h)
  have hD := hD0.self (sz := s.heap.size)
  obtain ⟨A, hAe⟩ := nm_ex (va_A (oMM C e0 e1 e2 e3 e4 e5 e6 e7 e8 e9 e10 e11 e12 e13 e14 e15 m_s m_held m_aside m_before m_isHeld m_tape m_taped m_token m_from m_to m_value m_isWrong m_due m_firsts m_rows m_rowN m_sortOf m_sizeOf m_numbers m_holdsWhat m_holdsWhich m_holdsMany m_bodies m_ran m_actKind m_actN m_actA m_isParted []) s.heap.size)
  rw [← hAe] at hD hE ⊢
  have hA : ∀ q : Nat, s.heap.size ≤ q → A q := fun q h => by rw [hAe]; exact Or.inr h
  have hS : va_S A s.heap s.heap [] := va_S.rf
  have hl := lv_entry ([.ref e0, .int x0, .int x1, .int x2]) (n := 5) (Nat.le_of_ble_eq_true rfl)
  rw [lg_entry_eq]
  generalize (lg_sl ([.ref e0, .int x0, .int x1, .int x2]) ++ List.replicate (5 - (lg_sl ([.ref e0, .int x0, .int x1, .int x2])).length) Slot.unset).toArray = ls at hl ⊢
  have hl : lv_has ls 5 [(0, .ref e0), (1, .int x0), (2, .int x1), (3, .int x2)] := hl
  obtain ⟨Q, hQ⟩ := nm_ex (MQ below (QV D C (oMM C e0 e1 e2 e3 e4 e5 e6 e7 e8 e9 e10 e11 e12 e13 e14 e15 m_s m_held m_aside m_before m_isHeld m_tape m_taped m_token m_from m_to m_value m_isWrong m_due m_firsts m_rows m_rowN m_sortOf m_sizeOf m_numbers m_holdsWhat m_holdsWhich m_holdsMany m_bodies m_ran m_actKind m_actN m_actA m_isParted []) (oMM C e0 e1 e2 e3 e4 e5 e6 e7 e8 e9 e10 e11 e12 e13 e14 e15 (m_s') m_held m_aside m_before m_isHeld m_tape m_taped m_token m_from m_to m_value m_isWrong m_due m_firsts m_rows m_rowN m_sortOf m_sizeOf m_numbers m_holdsWhat m_holdsWhich m_holdsMany m_bodies m_ran m_actKind m_actN m_actA m_isParted []) s.heap.size) (List.toArray [Value.ref e0, Value.int x0, Value.int x1, Value.int x2]) s 0 0 A)
  show W p l e (headSpec wsX6_comes0 (rmX6_comes0)).room s m (List.toArray [Value.ref e0, Value.int x0, Value.int x1, Value.int x2]) below meth c s.heap [] 0 0 (MQ below (QV D C (oMM C e0 e1 e2 e3 e4 e5 e6 e7 e8 e9 e10 e11 e12 e13 e14 e15 m_s m_held m_aside m_before m_isHeld m_tape m_taped m_token m_from m_to m_value m_isWrong m_due m_firsts m_rows m_rowN m_sortOf m_sizeOf m_numbers m_holdsWhat m_holdsWhich m_holdsMany m_bodies m_ran m_actKind m_actN m_actA m_isParted []) (oMM C e0 e1 e2 e3 e4 e5 e6 e7 e8 e9 e10 e11 e12 e13 e14 e15 (m_s') m_held m_aside m_before m_isHeld m_tape m_taped m_token m_from m_to m_value m_isWrong m_due m_firsts m_rows m_rowN m_sortOf m_sizeOf m_numbers m_holdsWhat m_holdsWhich m_holdsMany m_bodies m_ran m_actKind m_actN m_actA m_isParted []) s.heap.size) (List.toArray [Value.ref e0, Value.int x0, Value.int x1, Value.int x2]) s 0 0 A) _
  rw [← hQ]
  unfold f_X6_comes0 at hf
  have main : ∀ (H : Heap) (locs : List Loc), va_P D vwCl (oMM C e0 e1 e2 e3 e4 e5 e6 e7 e8 e9 e10 e11 e12 e13 e14 e15 m_s m_held m_aside m_before m_isHeld m_tape m_taped m_token m_from m_to m_value m_isWrong m_due m_firsts m_rows m_rowN m_sortOf m_sizeOf m_numbers m_holdsWhat m_holdsWhich m_holdsMany m_bodies m_ran m_actKind m_actN m_actA m_isParted []) H → va_D A (oMM C e0 e1 e2 e3 e4 e5 e6 e7 e8 e9 e10 e11 e12 e13 e14 e15 m_s m_held m_aside m_before m_isHeld m_tape m_taped m_token m_from m_to m_value m_isWrong m_due m_firsts m_rows m_rowN m_sortOf m_sizeOf m_numbers m_holdsWhat m_holdsWhich m_holdsMany m_bodies m_ran m_actKind m_actN m_actA m_isParted []) → va_S A s.heap H locs → W p l e (headSpec wsX6_comes0 (rmX6_comes0)).room s m (List.toArray [Value.ref e0, Value.int x0, Value.int x1, Value.int x2]) below meth c H locs 0 0 Q (F0 m 0 ls []) := by
    intro H locs hP hD hS
    refine lv_bipush (v := 19) hx hb dX6_comes0_0 rfl ?_
    refine lv_iconst (v := 3) hx hb dX6_comes0_2 rfl ?_
    refine lv_aload_n hx hb dX6_comes0_3 rfl (lv_at hl 0 rfl) ?_
    refine va_get (D := D) (ci := 6) (v := .ref e1) (C := RX6) (T := TX6) (N := 28) hx hb hts hi_RX6 hown hK hP 0 rfl rfl 0 (by decide) (hts (.fieldLink RX6 7 "TravelMarksModel" "s" "[I") (List.mem_of_getElem? (i := 1) rfl)) (fun _ h9 => h9) rfl dX6_comes0_4 ?_
    refine lv_iconst (v := 0) hx hb dX6_comes0_7 rfl ?_
    refine va_iald hx hb hK hP 1 0 rfl rfl (i := 0) (vin (by decide)) dX6_comes0_8 ?_
    refine lv_ren (show (m_s 0) = m_s (Int32.toNatClampNeg 0) from rfl) ?_
    refine lv_imul hx hb dX6_comes0_9 ?_
    refine lv_iadd hx hb dX6_comes0_10 ?_
    obtain ⟨t1, et1, hf⟩ := lj_e hf
    refine lv_ren et1 ?_
    refine lv_istore (lv' := [(4, .int t1), (0, .ref e0), (1, .int x0), (2, .int x1), (3, .int x2)]) hx hb dX6_comes0_11 hl (by decide) rfl (fun ls hl => ?_)
    refine lv_aload_n hx hb dX6_comes0_13 rfl (lv_at hl 1 rfl) ?_
    refine va_get (D := D) (ci := 6) (v := .ref e1) (C := RX6) (T := TX6) (N := 28) hx hb hts hi_RX6 hown hK hP 0 rfl rfl 0 (by decide) (hts (.fieldLink RX6 7 "TravelMarksModel" "s" "[I") (List.mem_of_getElem? (i := 1) rfl)) (fun _ h9 => h9) rfl dX6_comes0_14 ?_
    refine lv_iload hx hb dX6_comes0_17 (lv_at hl 0 rfl) ?_
    refine lv_iload_n hx hb dX6_comes0_19 rfl (lv_at hl 2 rfl) ?_
    obtain ⟨hi2, hf⟩ := ckA_e hf
    refine va_iast hx hb hK hP hD hS 1 0 rfl rfl hi2 dX6_comes0_20 (fun H locs hP hD hS => ?_)
    obtain ⟨v3, ev3, hf⟩ := lj_e hf
    have hP : va_P D vwCl (oMM C e0 e1 e2 e3 e4 e5 e6 e7 e8 e9 e10 e11 e12 e13 e14 e15 v3 m_held m_aside m_before m_isHeld m_tape m_taped m_token m_from m_to m_value m_isWrong m_due m_firsts m_rows m_rowN m_sortOf m_sizeOf m_numbers m_holdsWhat m_holdsWhich m_holdsMany m_bodies m_ran m_actKind m_actN m_actA m_isParted []) H := by rw [ev3]; exact hP
    have hD : va_D A (oMM C e0 e1 e2 e3 e4 e5 e6 e7 e8 e9 e10 e11 e12 e13 e14 e15 v3 m_held m_aside m_before m_isHeld m_tape m_taped m_token m_from m_to m_value m_isWrong m_due m_firsts m_rows m_rowN m_sortOf m_sizeOf m_numbers m_holdsWhat m_holdsWhich m_holdsMany m_bodies m_ran m_actKind m_actN m_actA m_isParted []) := by rw [ev3]; exact hD
    refine lv_aload_n hx hb dX6_comes0_21 rfl (lv_at hl 1 rfl) ?_
    refine va_get (D := D) (ci := 6) (v := .ref e1) (C := RX6) (T := TX6) (N := 28) hx hb hts hi_RX6 hown hK hP 0 rfl rfl 0 (by decide) (hts (.fieldLink RX6 7 "TravelMarksModel" "s" "[I") (List.mem_of_getElem? (i := 1) rfl)) (fun _ h9 => h9) rfl dX6_comes0_22 ?_
    refine lv_iload hx hb dX6_comes0_25 (lv_at hl 0 rfl) ?_
    refine lv_iconst (v := 1) hx hb dX6_comes0_27 rfl ?_
    refine lv_iadd hx hb dX6_comes0_28 ?_
    refine lv_iload_n hx hb dX6_comes0_29 rfl (lv_at hl 3 rfl) ?_
    obtain ⟨hi4, hf⟩ := ckA_e hf
    refine va_iast hx hb hK hP hD hS 1 0 rfl rfl hi4 dX6_comes0_30 (fun H locs hP hD hS => ?_)
    obtain ⟨v5, ev5, hf⟩ := lj_e hf
    have hP : va_P D vwCl (oMM C e0 e1 e2 e3 e4 e5 e6 e7 e8 e9 e10 e11 e12 e13 e14 e15 v5 m_held m_aside m_before m_isHeld m_tape m_taped m_token m_from m_to m_value m_isWrong m_due m_firsts m_rows m_rowN m_sortOf m_sizeOf m_numbers m_holdsWhat m_holdsWhich m_holdsMany m_bodies m_ran m_actKind m_actN m_actA m_isParted []) H := by rw [ev5]; exact hP
    have hD : va_D A (oMM C e0 e1 e2 e3 e4 e5 e6 e7 e8 e9 e10 e11 e12 e13 e14 e15 v5 m_held m_aside m_before m_isHeld m_tape m_taped m_token m_from m_to m_value m_isWrong m_due m_firsts m_rows m_rowN m_sortOf m_sizeOf m_numbers m_holdsWhat m_holdsWhich m_holdsMany m_bodies m_ran m_actKind m_actN m_actA m_isParted []) := by rw [ev5]; exact hD
    refine lv_aload_n hx hb dX6_comes0_31 rfl (lv_at hl 1 rfl) ?_
    refine va_get (D := D) (ci := 6) (v := .ref e1) (C := RX6) (T := TX6) (N := 28) hx hb hts hi_RX6 hown hK hP 0 rfl rfl 0 (by decide) (hts (.fieldLink RX6 7 "TravelMarksModel" "s" "[I") (List.mem_of_getElem? (i := 1) rfl)) (fun _ h9 => h9) rfl dX6_comes0_32 ?_
    refine lv_iload hx hb dX6_comes0_35 (lv_at hl 0 rfl) ?_
    refine lv_iconst (v := 2) hx hb dX6_comes0_37 rfl ?_
    refine lv_iadd hx hb dX6_comes0_38 ?_
    refine lv_iload_n hx hb dX6_comes0_39 rfl (lv_at hl 4 rfl) ?_
    obtain ⟨hi6, hf⟩ := ckA_e hf
    refine va_iast hx hb hK hP hD hS 1 0 rfl rfl hi6 dX6_comes0_40 (fun H locs hP hD hS => ?_)
    obtain ⟨v7, ev7, hf⟩ := lj_e hf
    have hP : va_P D vwCl (oMM C e0 e1 e2 e3 e4 e5 e6 e7 e8 e9 e10 e11 e12 e13 e14 e15 v7 m_held m_aside m_before m_isHeld m_tape m_taped m_token m_from m_to m_value m_isWrong m_due m_firsts m_rows m_rowN m_sortOf m_sizeOf m_numbers m_holdsWhat m_holdsWhich m_holdsMany m_bodies m_ran m_actKind m_actN m_actA m_isParted []) H := by rw [ev7]; exact hP
    have hD : va_D A (oMM C e0 e1 e2 e3 e4 e5 e6 e7 e8 e9 e10 e11 e12 e13 e14 e15 v7 m_held m_aside m_before m_isHeld m_tape m_taped m_token m_from m_to m_value m_isWrong m_due m_firsts m_rows m_rowN m_sortOf m_sizeOf m_numbers m_holdsWhat m_holdsWhich m_holdsMany m_bodies m_ran m_actKind m_actN m_actA m_isParted []) := by rw [ev7]; exact hD
    refine lv_aload_n hx hb dX6_comes0_41 rfl (lv_at hl 1 rfl) ?_
    refine va_get (D := D) (ci := 6) (v := .ref e1) (C := RX6) (T := TX6) (N := 28) hx hb hts hi_RX6 hown hK hP 0 rfl rfl 0 (by decide) (hts (.fieldLink RX6 7 "TravelMarksModel" "s" "[I") (List.mem_of_getElem? (i := 1) rfl)) (fun _ h9 => h9) rfl dX6_comes0_42 ?_
    refine lv_iconst (v := 0) hx hb dX6_comes0_45 rfl ?_
    refine lv_dup2_11 hx hb dX6_comes0_46 rfl rfl ?_
    refine va_iald hx hb hK hP 1 0 rfl rfl (i := 0) (vin (by decide)) dX6_comes0_47 ?_
    refine lv_ren (show (v7 0) = v7 (Int32.toNatClampNeg 0) from rfl) ?_
    refine lv_iconst (v := 1) hx hb dX6_comes0_48 rfl ?_
    refine lv_iadd hx hb dX6_comes0_49 ?_
    obtain ⟨t8, et8, hf⟩ := lj_e hf
    refine lv_ren et8 ?_
    refine va_iast hx hb hK hP hD hS 1 0 rfl rfl (i := 0) (vin (by decide)) dX6_comes0_50 (fun H locs hP hD hS => ?_)
    obtain ⟨v9, ev9, hf⟩ := lj_e hf
    have hP : va_P D vwCl (oMM C e0 e1 e2 e3 e4 e5 e6 e7 e8 e9 e10 e11 e12 e13 e14 e15 v9 m_held m_aside m_before m_isHeld m_tape m_taped m_token m_from m_to m_value m_isWrong m_due m_firsts m_rows m_rowN m_sortOf m_sizeOf m_numbers m_holdsWhat m_holdsWhich m_holdsMany m_bodies m_ran m_actKind m_actN m_actA m_isParted []) H := by rw [ev9]; exact hP
    have hD : va_D A (oMM C e0 e1 e2 e3 e4 e5 e6 e7 e8 e9 e10 e11 e12 e13 e14 e15 v9 m_held m_aside m_before m_isHeld m_tape m_taped m_token m_from m_to m_value m_isWrong m_due m_firsts m_rows m_rowN m_sortOf m_sizeOf m_numbers m_holdsWhat m_holdsWhich m_holdsMany m_bodies m_ran m_actKind m_actN m_actA m_isParted []) := by rw [ev9]; exact hD
    cases hf
    exact krv hQ hAe hx hb hr hlocks hP hD hK hS dX6_comes0_51
  exact main _ _ hP hD hS

def rmX6_markHere : Room := { frames := 4, cells := 0, slots := 0, locals := 87 }
theorem hdX6_markHere : yX6_markHere.cls = RX6 ∧ yX6_markHere.cls ≠ "java/lang/invoke/MethodHandle" ∧ yX6_markHere.cls ≠ "java/lang/invoke/VarHandle" ∧ (parseMethodDescriptor yX6_markHere.desc).map (fun d => d.parameters.length) = some 1 := by decide +kernel
set_option maxHeartbeats 40000000 in
set_option maxRecDepth 100000 in
theorem c_X6_markHere (l : Launch) (E : Nat → Nat) (D : va_G) (C : Nat → ClassId) (e0 e1 e2 e3 e4 e5 e6 e7 e8 e9 e10 e11 e12 e13 e14 e15 : Nat) (sz : Nat) (N : Nat) (m_s : Nat → Int32) (m_held : Nat → Int32) (m_aside : Nat → Int32) (m_before : Nat → Int32) (m_isHeld : Int32) (m_tape : Nat → Int32) (m_taped : Int32) (m_token : Int32) (m_from : Int32) (m_to : Int32) (m_value : Int32) (m_isWrong : Int32) (m_due : Nat → Int32) (m_firsts : Nat → Int32) (m_rows : Nat → Int32) (m_rowN : Int32) (m_sortOf : Nat → Int32) (m_sizeOf : Nat → Int32) (m_numbers : Nat → Int32) (m_holdsWhat : Nat → Int32) (m_holdsWhich : Nat → Int32) (m_holdsMany : Nat → Int32) (m_bodies : Nat → Int32) (m_ran : Int32) (m_actKind : Int32) (m_actN : Int32) (m_actA : Int32) (m_isParted : Int32) (x0 : Int32) (m_s' : Nat → Int32) (m_token' : Int32) (m_from' : Int32) (m_to' : Int32) (m_value' : Int32) (m_isWrong' : Int32) (hf : f_X6_markHere N m_s m_tape m_taped m_token m_from m_to m_value m_isWrong x0 = some (m_s', m_token', m_from', m_to', m_value', m_isWrong')) : Met l yX6_markHere wsX6_markHere rmX6_markHere (PC E D C [.ref e0, .int x0] (oMM C e0 e1 e2 e3 e4 e5 e6 e7 e8 e9 e10 e11 e12 e13 e14 e15 m_s m_held m_aside m_before m_isHeld m_tape m_taped m_token m_from m_to m_value m_isWrong m_due m_firsts m_rows m_rowN m_sortOf m_sizeOf m_numbers m_holdsWhat m_holdsWhich m_holdsMany m_bodies m_ran m_actKind m_actN m_actA m_isParted []) sz) (QV D C (oMM C e0 e1 e2 e3 e4 e5 e6 e7 e8 e9 e10 e11 e12 e13 e14 e15 m_s m_held m_aside m_before m_isHeld m_tape m_taped m_token m_from m_to m_value m_isWrong m_due m_firsts m_rows m_rowN m_sortOf m_sizeOf m_numbers m_holdsWhat m_holdsWhich m_holdsMany m_bodies m_ran m_actKind m_actN m_actA m_isParted []) (oMM C e0 e1 e2 e3 e4 e5 e6 e7 e8 e9 e10 e11 e12 e13 e14 e15 (m_s') m_held m_aside m_before m_isHeld m_tape m_taped (m_token') (m_from') (m_to') (m_value') (m_isWrong') m_due m_firsts m_rows m_rowN m_sortOf m_sizeOf m_numbers m_holdsWhat m_holdsWhich m_holdsMany m_bodies m_ran m_actKind m_actN m_actA m_isParted []) sz) 0 0 (va_A (oMM C e0 e1 e2 e3 e4 e5 e6 e7 e8 e9 e10 e11 e12 e13 e14 e15 m_s m_held m_aside m_before m_isHeld m_tape m_taped m_token m_from m_to m_value m_isWrong m_due m_firsts m_rows m_rowN m_sortOf m_sizeOf m_numbers m_holdsWhat m_holdsWhich m_holdsMany m_bodies m_ran m_actKind m_actN m_actA m_isParted []) sz) := by
  refine Met.ofW (cc := cX6_markHere) (maxL := 3) (ret := none) (by decide) rfl ?_
  intro p e s m args below meth c s₁ B hml hv
  obtain ⟨rfl, hsz, hP, hK, hD0, hE⟩ := hv
  have hx := B.exec
  have hb := B.bytes
  have hr := B.returns
  have hts := atoms_spec (ws := wsX6_markHere) B.pre
  have hown : s.vm.findClass RX6 = some m.cls := findClass_of_methodNamed B.named
  have hlocks := B.notSynchronized
  subst hsz
  have hi_RX6 : ∀ w ∈ wsX60, w ∈ wsX6_markHere := fun _ h => List.mem_cons_of_mem _ (List.mem_append_right _ h)
  have hD := hD0.self (sz := s.heap.size)
  obtain ⟨A, hAe⟩ := nm_ex (va_A (oMM C e0 e1 e2 e3 e4 e5 e6 e7 e8 e9 e10 e11 e12 e13 e14 e15 m_s m_held m_aside m_before m_isHeld m_tape m_taped m_token m_from m_to m_value m_isWrong m_due m_firsts m_rows m_rowN m_sortOf m_sizeOf m_numbers m_holdsWhat m_holdsWhich m_holdsMany m_bodies m_ran m_actKind m_actN m_actA m_isParted []) s.heap.size)
  rw [← hAe] at hD hE ⊢
  have hA : ∀ q : Nat, s.heap.size ≤ q → A q := fun q h => by rw [hAe]; exact Or.inr h
  have hS : va_S A s.heap s.heap [] := va_S.rf
  have hl := lv_entry ([.ref e0, .int x0]) (n := 3) (Nat.le_of_ble_eq_true rfl)
  rw [lg_entry_eq]
  generalize (lg_sl ([.ref e0, .int x0]) ++ List.replicate (3 - (lg_sl ([.ref e0, .int x0])).length) Slot.unset).toArray = ls at hl ⊢
  have hl : lv_has ls 3 [(0, .ref e0), (1, .int x0)] := hl
  obtain ⟨Q, hQ⟩ := nm_ex (MQ below (QV D C (oMM C e0 e1 e2 e3 e4 e5 e6 e7 e8 e9 e10 e11 e12 e13 e14 e15 m_s m_held m_aside m_before m_isHeld m_tape m_taped m_token m_from m_to m_value m_isWrong m_due m_firsts m_rows m_rowN m_sortOf m_sizeOf m_numbers m_holdsWhat m_holdsWhich m_holdsMany m_bodies m_ran m_actKind m_actN m_actA m_isParted []) (oMM C e0 e1 e2 e3 e4 e5 e6 e7 e8 e9 e10 e11 e12 e13 e14 e15 (m_s') m_held m_aside m_before m_isHeld m_tape m_taped (m_token') (m_from') (m_to') (m_value') (m_isWrong') m_due m_firsts m_rows m_rowN m_sortOf m_sizeOf m_numbers m_holdsWhat m_holdsWhich m_holdsMany m_bodies m_ran m_actKind m_actN m_actA m_isParted []) s.heap.size) (List.toArray [Value.ref e0, Value.int x0]) s 0 0 A)
  show W p l e (headSpec wsX6_markHere (rmX6_markHere)).room s m (List.toArray [Value.ref e0, Value.int x0]) below meth c s.heap [] 0 0 (MQ below (QV D C (oMM C e0 e1 e2 e3 e4 e5 e6 e7 e8 e9 e10 e11 e12 e13 e14 e15 m_s m_held m_aside m_before m_isHeld m_tape m_taped m_token m_from m_to m_value m_isWrong m_due m_firsts m_rows m_rowN m_sortOf m_sizeOf m_numbers m_holdsWhat m_holdsWhich m_holdsMany m_bodies m_ran m_actKind m_actN m_actA m_isParted []) (oMM C e0 e1 e2 e3 e4 e5 e6 e7 e8 e9 e10 e11 e12 e13 e14 e15 (m_s') m_held m_aside m_before m_isHeld m_tape m_taped (m_token') (m_from') (m_to') (m_value') (m_isWrong') m_due m_firsts m_rows m_rowN m_sortOf m_sizeOf m_numbers m_holdsWhat m_holdsWhich m_holdsMany m_bodies m_ran m_actKind m_actN m_actA m_isParted []) s.heap.size) (List.toArray [Value.ref e0, Value.int x0]) s 0 0 A) _
  rw [← hQ]
  unfold f_X6_markHere at hf
  have main : ∀ (H : Heap) (locs : List Loc), va_P D vwCl (oMM C e0 e1 e2 e3 e4 e5 e6 e7 e8 e9 e10 e11 e12 e13 e14 e15 m_s m_held m_aside m_before m_isHeld m_tape m_taped m_token m_from m_to m_value m_isWrong m_due m_firsts m_rows m_rowN m_sortOf m_sizeOf m_numbers m_holdsWhat m_holdsWhich m_holdsMany m_bodies m_ran m_actKind m_actN m_actA m_isParted []) H → va_D A (oMM C e0 e1 e2 e3 e4 e5 e6 e7 e8 e9 e10 e11 e12 e13 e14 e15 m_s m_held m_aside m_before m_isHeld m_tape m_taped m_token m_from m_to m_value m_isWrong m_due m_firsts m_rows m_rowN m_sortOf m_sizeOf m_numbers m_holdsWhat m_holdsWhich m_holdsMany m_bodies m_ran m_actKind m_actN m_actA m_isParted []) → va_S A s.heap H locs → W p l e (headSpec wsX6_markHere (rmX6_markHere)).room s m (List.toArray [Value.ref e0, Value.int x0]) below meth c H locs 0 0 Q (F0 m 0 ls []) := by
    intro H locs hP hD hS
    refine lv_bipush (v := 19) hx hb dX6_markHere_0 rfl ?_
    refine lv_iconst (v := 3) hx hb dX6_markHere_2 rfl ?_
    refine lv_aload_n hx hb dX6_markHere_3 rfl (lv_at hl 0 rfl) ?_
    refine va_get (D := D) (ci := 6) (v := .ref e1) (C := RX6) (T := TX6) (N := 28) hx hb hts hi_RX6 hown hK hP 0 rfl rfl 0 (by decide) (hts (.fieldLink RX6 7 "TravelMarksModel" "s" "[I") (List.mem_of_getElem? (i := 1) rfl)) (fun _ h9 => h9) rfl dX6_markHere_4 ?_
    refine lv_iconst (v := 0) hx hb dX6_markHere_7 rfl ?_
    refine va_iald hx hb hK hP 1 0 rfl rfl (i := 0) (vin (by decide)) dX6_markHere_8 ?_
    refine lv_ren (show (m_s 0) = m_s (Int32.toNatClampNeg 0) from rfl) ?_
    refine lv_imul hx hb dX6_markHere_9 ?_
    refine lv_iadd hx hb dX6_markHere_10 ?_
    obtain ⟨t1, et1, hf⟩ := lj_e hf
    refine lv_ren et1 ?_
    refine lv_istore_n (lv' := [(2, .int t1), (0, .ref e0), (1, .int x0)]) hx hb dX6_markHere_11 rfl hl (by decide) rfl (fun ls hl => ?_)
    refine lv_aload_n hx hb dX6_markHere_12 rfl (lv_at hl 1 rfl) ?_
    refine lv_aload_n hx hb dX6_markHere_13 rfl (lv_at hl 1 rfl) ?_
    refine va_get (D := D) (ci := 6) (v := .ref e1) (C := RX6) (T := TX6) (N := 28) hx hb hts hi_RX6 hown hK hP 0 rfl rfl 0 (by decide) (hts (.fieldLink RX6 7 "TravelMarksModel" "s" "[I") (List.mem_of_getElem? (i := 1) rfl)) (fun _ h9 => h9) rfl dX6_markHere_14 ?_
    refine lv_iconst (v := 0) hx hb dX6_markHere_17 rfl ?_
    refine va_iald hx hb hK hP 1 0 rfl rfl (i := 0) (vin (by decide)) dX6_markHere_18 ?_
    refine lv_ren (show (m_s 0) = m_s (Int32.toNatClampNeg 0) from rfl) ?_
    refine lv_bipush (v := 8) hx hb dX6_markHere_19 rfl ?_
    obtain ⟨j3, hj3, hf⟩ := lj_e hf
    have Hj3 : ∀ (k2 : Int32) (H : Heap) (locs : List Loc) (ls : Array Slot), va_P D vwCl (oMM C e0 e1 e2 e3 e4 e5 e6 e7 e8 e9 e10 e11 e12 e13 e14 e15 m_s m_held m_aside m_before m_isHeld m_tape m_taped m_token m_from m_to m_value m_isWrong m_due m_firsts m_rows m_rowN m_sortOf m_sizeOf m_numbers m_holdsWhat m_holdsWhich m_holdsMany m_bodies m_ran m_actKind m_actN m_actA m_isParted []) H → va_D A (oMM C e0 e1 e2 e3 e4 e5 e6 e7 e8 e9 e10 e11 e12 e13 e14 e15 m_s m_held m_aside m_before m_isHeld m_tape m_taped m_token m_from m_to m_value m_isWrong m_due m_firsts m_rows m_rowN m_sortOf m_sizeOf m_numbers m_holdsWhat m_holdsWhich m_holdsMany m_bodies m_ran m_actKind m_actN m_actA m_isParted []) → va_S A s.heap H locs → lv_has ls 3 [(2, .int t1), (0, .ref e0), (1, .int x0)] → j3 k2 = some (m_s', m_token', m_from', m_to', m_value', m_isWrong') → W p l e (headSpec wsX6_markHere (rmX6_markHere)).room s m (List.toArray [Value.ref e0, Value.int x0]) below meth c H locs 0 0 Q (F0 m 29 ls [.int k2, .ref e0]) := by
      intro k2 H locs ls hP hD hS hl hf
      rw [hj3] at hf
      obtain ⟨v4, v5, v6, v7, v8, h9, hf⟩ := ob5_e hf
      refine kmv (w1 := (oMM C e0 e1 e2 e3 e4 e5 e6 e7 e8 e9 e10 e11 e12 e13 e14 e15 m_s m_held m_aside m_before m_isHeld m_tape m_taped v4 v5 v6 v7 v8 m_due m_firsts m_rows m_rowN m_sortOf m_sizeOf m_numbers m_holdsWhat m_holdsWhich m_holdsMany m_bodies m_ran m_actKind m_actN m_actA m_isParted [])) (va_runV (As := [.int k2]) (rest := []) ⟨hx, hb, hml, hown, hts⟩ (c_X6_needs l E D C e0 e1 e2 e3 e4 e5 e6 e7 e8 e9 e10 e11 e12 e13 e14 e15 H.size N m_s m_held m_aside m_before m_isHeld m_tape m_taped m_token m_from m_to m_value m_isWrong m_due m_firsts m_rows m_rowN m_sortOf m_sizeOf m_numbers m_holdsWhat m_holdsWhich m_holdsMany m_bodies m_ran m_actKind m_actN m_actA m_isParted k2 v4 v5 v6 v7 v8 h9) (cwV 1 hts gX6_markHere_X6_needs rfl rfl rfl hdX6_needs ⟨Nat.le_of_ble_eq_true rfl, Nat.le_of_ble_eq_true rfl⟩) (kpreM hP hD hK hS hE hA 0 rfl rfl rfl) rfl rfl hl.1 rfl (lv_room (Nat.le_of_ble_eq_true rfl)) dX6_markHere_29 ⟨Nat.zero_le _, Nat.zero_le _⟩) hP hD hS hA rfl (fun H locs hP hD hS => ?_)
      refine lv_aload_n hx hb dX6_markHere_32 rfl (lv_at hl 1 rfl) ?_
      refine lv_aload_n hx hb dX6_markHere_33 rfl (lv_at hl 1 rfl) ?_
      refine va_get (D := D) (ci := 6) (v := .int v4) (C := RX6) (T := TX6) (N := 28) hx hb hts hi_RX6 hown hK hP 0 rfl rfl 7 (by decide) (hts (.fieldLink RX6 87 "TravelMarksModel" "token" "I") (List.mem_of_getElem? (i := 2) rfl)) (fun _ h9 => h9) rfl dX6_markHere_34 ?_
      refine lv_iconst (v := 1) hx hb dX6_markHere_37 rfl ?_
      obtain ⟨j11, hj11, hf⟩ := lj_e hf
      have Hj11 : ∀ (k10 : Int32) (H : Heap) (locs : List Loc) (ls : Array Slot), va_P D vwCl (oMM C e0 e1 e2 e3 e4 e5 e6 e7 e8 e9 e10 e11 e12 e13 e14 e15 m_s m_held m_aside m_before m_isHeld m_tape m_taped v4 v5 v6 v7 v8 m_due m_firsts m_rows m_rowN m_sortOf m_sizeOf m_numbers m_holdsWhat m_holdsWhich m_holdsMany m_bodies m_ran m_actKind m_actN m_actA m_isParted []) H → va_D A (oMM C e0 e1 e2 e3 e4 e5 e6 e7 e8 e9 e10 e11 e12 e13 e14 e15 m_s m_held m_aside m_before m_isHeld m_tape m_taped v4 v5 v6 v7 v8 m_due m_firsts m_rows m_rowN m_sortOf m_sizeOf m_numbers m_holdsWhat m_holdsWhich m_holdsMany m_bodies m_ran m_actKind m_actN m_actA m_isParted []) → va_S A s.heap H locs → lv_has ls 3 [(2, .int t1), (0, .ref e0), (1, .int x0)] → j11 k10 = some (m_s', m_token', m_from', m_to', m_value', m_isWrong') → W p l e (headSpec wsX6_markHere (rmX6_markHere)).room s m (List.toArray [Value.ref e0, Value.int x0]) below meth c H locs 0 0 Q (F0 m 87 ls [.int k10, .ref e0]) := by
        intro k10 H locs ls hP hD hS hl hf
        rw [hj11] at hf
        obtain ⟨v12, v13, v14, v15, v16, h17, hf⟩ := ob5_e hf
        refine kmv (w1 := (oMM C e0 e1 e2 e3 e4 e5 e6 e7 e8 e9 e10 e11 e12 e13 e14 e15 m_s m_held m_aside m_before m_isHeld m_tape m_taped v12 v13 v14 v15 v16 m_due m_firsts m_rows m_rowN m_sortOf m_sizeOf m_numbers m_holdsWhat m_holdsWhich m_holdsMany m_bodies m_ran m_actKind m_actN m_actA m_isParted [])) (va_runV (As := [.int k10]) (rest := []) ⟨hx, hb, hml, hown, hts⟩ (c_X6_needs l E D C e0 e1 e2 e3 e4 e5 e6 e7 e8 e9 e10 e11 e12 e13 e14 e15 H.size N m_s m_held m_aside m_before m_isHeld m_tape m_taped v4 v5 v6 v7 v8 m_due m_firsts m_rows m_rowN m_sortOf m_sizeOf m_numbers m_holdsWhat m_holdsWhich m_holdsMany m_bodies m_ran m_actKind m_actN m_actA m_isParted k10 v12 v13 v14 v15 v16 h17) (cwV 1 hts gX6_markHere_X6_needs rfl rfl rfl hdX6_needs ⟨Nat.le_of_ble_eq_true rfl, Nat.le_of_ble_eq_true rfl⟩) (kpreM hP hD hK hS hE hA 0 rfl rfl rfl) rfl rfl hl.1 rfl (lv_room (Nat.le_of_ble_eq_true rfl)) dX6_markHere_87 ⟨Nat.zero_le _, Nat.zero_le _⟩) hP hD hS hA rfl (fun H locs hP hD hS => ?_)
        refine lv_aload_n hx hb dX6_markHere_90 rfl (lv_at hl 1 rfl) ?_
        refine va_get (D := D) (ci := 6) (v := .int v16) (C := RX6) (T := TX6) (N := 28) hx hb hts hi_RX6 hown hK hP 0 rfl rfl 11 (by decide) (hts (.fieldLink RX6 93 "TravelMarksModel" "isWrong" "Z") (List.mem_of_getElem? (i := 5) rfl)) (fun _ h9 => h9) rfl dX6_markHere_91 ?_
        obtain ⟨j19, hj19, hf⟩ := lj_e hf
        have Hj19 : ∀ (v18 : Nat → Int32) (H : Heap) (locs : List Loc) (ls : Array Slot), va_P D vwCl (oMM C e0 e1 e2 e3 e4 e5 e6 e7 e8 e9 e10 e11 e12 e13 e14 e15 v18 m_held m_aside m_before m_isHeld m_tape m_taped v12 v13 v14 v15 v16 m_due m_firsts m_rows m_rowN m_sortOf m_sizeOf m_numbers m_holdsWhat m_holdsWhich m_holdsMany m_bodies m_ran m_actKind m_actN m_actA m_isParted []) H → va_D A (oMM C e0 e1 e2 e3 e4 e5 e6 e7 e8 e9 e10 e11 e12 e13 e14 e15 v18 m_held m_aside m_before m_isHeld m_tape m_taped v12 v13 v14 v15 v16 m_due m_firsts m_rows m_rowN m_sortOf m_sizeOf m_numbers m_holdsWhat m_holdsWhich m_holdsMany m_bodies m_ran m_actKind m_actN m_actA m_isParted []) → va_S A s.heap H locs → lv_has ls 3 [(2, .int t1), (0, .ref e0)] → j19 v18 = some (m_s', m_token', m_from', m_to', m_value', m_isWrong') → W p l e (headSpec wsX6_markHere (rmX6_markHere)).room s m (List.toArray [Value.ref e0, Value.int x0]) below meth c H locs 0 0 Q (F0 m 105 ls []) := by
          intro v18 H locs ls hP hD hS hl hf
          rw [hj19] at hf
          refine lv_aload_n hx hb dX6_markHere_105 rfl (lv_at hl 1 rfl) ?_
          refine lv_aload_n hx hb dX6_markHere_106 rfl (lv_at hl 1 rfl) ?_
          refine va_get (D := D) (ci := 6) (v := .int v16) (C := RX6) (T := TX6) (N := 28) hx hb hts hi_RX6 hown hK hP 0 rfl rfl 11 (by decide) (hts (.fieldLink RX6 93 "TravelMarksModel" "isWrong" "Z") (List.mem_of_getElem? (i := 5) rfl)) (fun _ h9 => h9) rfl dX6_markHere_107 ?_
          obtain ⟨j21, hj21, hf⟩ := lj_e hf
          have Hj21 : ∀ (k20 : Int32) (H : Heap) (locs : List Loc) (ls : Array Slot), va_P D vwCl (oMM C e0 e1 e2 e3 e4 e5 e6 e7 e8 e9 e10 e11 e12 e13 e14 e15 v18 m_held m_aside m_before m_isHeld m_tape m_taped v12 v13 v14 v15 v16 m_due m_firsts m_rows m_rowN m_sortOf m_sizeOf m_numbers m_holdsWhat m_holdsWhich m_holdsMany m_bodies m_ran m_actKind m_actN m_actA m_isParted []) H → va_D A (oMM C e0 e1 e2 e3 e4 e5 e6 e7 e8 e9 e10 e11 e12 e13 e14 e15 v18 m_held m_aside m_before m_isHeld m_tape m_taped v12 v13 v14 v15 v16 m_due m_firsts m_rows m_rowN m_sortOf m_sizeOf m_numbers m_holdsWhat m_holdsWhich m_holdsMany m_bodies m_ran m_actKind m_actN m_actA m_isParted []) → va_S A s.heap H locs → lv_has ls 3 [(2, .int t1), (0, .ref e0)] → j21 k20 = some (m_s', m_token', m_from', m_to', m_value', m_isWrong') → W p l e (headSpec wsX6_markHere (rmX6_markHere)).room s m (List.toArray [Value.ref e0, Value.int x0]) below meth c H locs 0 0 Q (F0 m 120 ls [.int k20, .ref e0]) := by
            intro k20 H locs ls hP hD hS hl hf
            rw [hj21] at hf
            refine lv_iconst (v := 0) hx hb dX6_markHere_120 rfl ?_
            refine lv_bipush (v := 7) hx hb dX6_markHere_121 rfl ?_
            obtain ⟨v22, v23, v24, v25, v26, v27, h28, hf⟩ := ob6_e hf
            refine kmv (w1 := (oMM C e0 e1 e2 e3 e4 e5 e6 e7 e8 e9 e10 e11 e12 e13 e14 e15 v22 m_held m_aside m_before m_isHeld m_tape m_taped v23 v24 v25 v26 v27 m_due m_firsts m_rows m_rowN m_sortOf m_sizeOf m_numbers m_holdsWhat m_holdsWhich m_holdsMany m_bodies m_ran m_actKind m_actN m_actA m_isParted [])) (va_runV (As := [.int k20, .int 0, .int 7]) (rest := []) ⟨hx, hb, hml, hown, hts⟩ (c_X6_numberTo l E D C e0 e1 e2 e3 e4 e5 e6 e7 e8 e9 e10 e11 e12 e13 e14 e15 H.size N v18 m_held m_aside m_before m_isHeld m_tape m_taped v12 v13 v14 v15 v16 m_due m_firsts m_rows m_rowN m_sortOf m_sizeOf m_numbers m_holdsWhat m_holdsWhich m_holdsMany m_bodies m_ran m_actKind m_actN m_actA m_isParted k20 0 7 v22 v23 v24 v25 v26 v27 h28) (cwV 3 hts gX6_markHere_X6_numberTo rfl rfl rfl hdX6_numberTo ⟨Nat.le_of_ble_eq_true rfl, Nat.le_of_ble_eq_true rfl⟩) (kpreM hP hD hK hS hE hA 0 rfl rfl rfl) rfl rfl hl.1 rfl (lv_room (Nat.le_of_ble_eq_true rfl)) dX6_markHere_123 ⟨Nat.zero_le _, Nat.zero_le _⟩) hP hD hS hA rfl (fun H locs hP hD hS => ?_)
            refine lv_aload_n hx hb dX6_markHere_126 rfl (lv_at hl 1 rfl) ?_
            refine va_get (D := D) (ci := 6) (v := .int v27) (C := RX6) (T := TX6) (N := 28) hx hb hts hi_RX6 hown hK hP 0 rfl rfl 11 (by decide) (hts (.fieldLink RX6 93 "TravelMarksModel" "isWrong" "Z") (List.mem_of_getElem? (i := 5) rfl)) (fun _ h9 => h9) rfl dX6_markHere_127 ?_
            refine lv_if_ne (tgt := 163) hx hb dX6_markHere_130 (by decide) (fun c29 => ?_) (fun c29 => ?_)
            · replace hf := if_fe c29 hf
              cases hf
              exact krv hQ hAe hx hb hr hlocks hP hD hK hS dX6_markHere_163
            · replace hf := if_te c29 hf
              refine lv_aload_n hx hb dX6_markHere_133 rfl (lv_at hl 1 rfl) ?_
              refine lv_iconst (v := 3) hx hb dX6_markHere_134 rfl ?_
              refine lv_bipush (v := 105) hx hb dX6_markHere_135 rfl ?_
              refine lv_bipush (v := 110) hx hb dX6_markHere_137 rfl ?_
              refine lv_bipush (v := 107) hx hb dX6_markHere_139 rfl ?_
              refine lv_bipush (v := 107) hx hb dX6_markHere_141 rfl ?_
              obtain ⟨r30, h31, hf⟩ := ob1_e hf
              refine kmz (w1 := (oMM C e0 e1 e2 e3 e4 e5 e6 e7 e8 e9 e10 e11 e12 e13 e14 e15 v22 m_held m_aside m_before m_isHeld m_tape m_taped v23 v24 v25 v26 v27 m_due m_firsts m_rows m_rowN m_sortOf m_sizeOf m_numbers m_holdsWhat m_holdsWhich m_holdsMany m_bodies m_ran m_actKind m_actN m_actA m_isParted [])) (va_runV (As := [.int 3, .int 105, .int 110, .int 107, .int 107]) (rest := []) ⟨hx, hb, hml, hown, hts⟩ (c_X6_isName l E D C e0 e1 e2 e3 e4 e5 e6 e7 e8 e9 e10 e11 e12 e13 e14 e15 H.size v22 m_held m_aside m_before m_isHeld m_tape m_taped v23 v24 v25 v26 v27 m_due m_firsts m_rows m_rowN m_sortOf m_sizeOf m_numbers m_holdsWhat m_holdsWhich m_holdsMany m_bodies m_ran m_actKind m_actN m_actA m_isParted 3 105 110 107 107 r30 h31) (cwV 5 hts gX6_markHere_X6_isName rfl rfl rfl hdX6_isName ⟨Nat.le_of_ble_eq_true rfl, Nat.le_of_ble_eq_true rfl⟩) (kpreM hP hD hK hS hE hA 0 rfl rfl rfl) rfl rfl hl.1 rfl (lv_room (Nat.le_of_ble_eq_true rfl)) dX6_markHere_143 ⟨Nat.zero_le _, Nat.zero_le _⟩) hP hD hS hA rfl (fun H locs hz32 hP hD hS => ?_)
              refine lv_if_eq (tgt := 163) hx hb dX6_markHere_146 (by decide) (fun c33 => ?_) (fun c33 => ?_)
              · replace hf := if_te c33 hf
                cases hf
                exact krv hQ hAe hx hb hr hlocks hP hD hK hS dX6_markHere_163
              · replace hf := if_fe c33 hf
                refine lv_aload_n hx hb dX6_markHere_149 rfl (lv_at hl 1 rfl) ?_
                obtain ⟨v34, v35, v36, v37, h38, hf⟩ := ob4_e hf
                refine kmv (w1 := (oMM C e0 e1 e2 e3 e4 e5 e6 e7 e8 e9 e10 e11 e12 e13 e14 e15 v22 m_held m_aside m_before m_isHeld m_tape m_taped v34 v35 v36 v37 v27 m_due m_firsts m_rows m_rowN m_sortOf m_sizeOf m_numbers m_holdsWhat m_holdsWhich m_holdsMany m_bodies m_ran m_actKind m_actN m_actA m_isParted [])) (va_runV (As := []) (rest := []) ⟨hx, hb, hml, hown, hts⟩ (c_X6_nextToken l E D C e0 e1 e2 e3 e4 e5 e6 e7 e8 e9 e10 e11 e12 e13 e14 e15 H.size N v22 m_held m_aside m_before m_isHeld m_tape m_taped v23 v24 v25 v26 v27 m_due m_firsts m_rows m_rowN m_sortOf m_sizeOf m_numbers m_holdsWhat m_holdsWhich m_holdsMany m_bodies m_ran m_actKind m_actN m_actA m_isParted v34 v35 v36 v37 h38) (cwV 0 hts gX6_markHere_X6_nextToken rfl rfl rfl hdX6_nextToken ⟨Nat.le_of_ble_eq_true rfl, Nat.le_of_ble_eq_true rfl⟩) (kpreM hP hD hK hS hE hA 0 rfl rfl rfl) rfl rfl hl.1 rfl (lv_room (Nat.le_of_ble_eq_true rfl)) dX6_markHere_150 ⟨Nat.zero_le _, Nat.zero_le _⟩) hP hD hS hA rfl (fun H locs hP hD hS => ?_)
                refine lv_aload_n hx hb dX6_markHere_153 rfl (lv_at hl 1 rfl) ?_
                refine lv_iload_n hx hb dX6_markHere_154 rfl (lv_at hl 0 rfl) ?_
                refine lv_iconst (v := 1) hx hb dX6_markHere_155 rfl ?_
                refine lv_iadd hx hb dX6_markHere_156 ?_
                refine lv_iconst (v := 0) hx hb dX6_markHere_157 rfl ?_
                refine lv_bipush (v := 99) hx hb dX6_markHere_158 rfl ?_
                obtain ⟨v39, v40, v41, v42, v43, v44, h45, hf⟩ := ob6_e hf
                refine kmv (w1 := (oMM C e0 e1 e2 e3 e4 e5 e6 e7 e8 e9 e10 e11 e12 e13 e14 e15 v39 m_held m_aside m_before m_isHeld m_tape m_taped v40 v41 v42 v43 v44 m_due m_firsts m_rows m_rowN m_sortOf m_sizeOf m_numbers m_holdsWhat m_holdsWhich m_holdsMany m_bodies m_ran m_actKind m_actN m_actA m_isParted [])) (va_runV (As := [.int (t1 + 1), .int 0, .int 99]) (rest := []) ⟨hx, hb, hml, hown, hts⟩ (c_X6_numberTo l E D C e0 e1 e2 e3 e4 e5 e6 e7 e8 e9 e10 e11 e12 e13 e14 e15 H.size N v22 m_held m_aside m_before m_isHeld m_tape m_taped v34 v35 v36 v37 v27 m_due m_firsts m_rows m_rowN m_sortOf m_sizeOf m_numbers m_holdsWhat m_holdsWhich m_holdsMany m_bodies m_ran m_actKind m_actN m_actA m_isParted (t1 + 1) 0 99 v39 v40 v41 v42 v43 v44 h45) (cwV 3 hts gX6_markHere_X6_numberTo rfl rfl rfl hdX6_numberTo ⟨Nat.le_of_ble_eq_true rfl, Nat.le_of_ble_eq_true rfl⟩) (kpreM hP hD hK hS hE hA 0 rfl rfl rfl) rfl rfl hl.1 rfl (lv_room (Nat.le_of_ble_eq_true rfl)) dX6_markHere_160 ⟨Nat.zero_le _, Nat.zero_le _⟩) hP hD hS hA rfl (fun H locs hP hD hS => ?_)
                cases hf
                exact krv hQ hAe hx hb hr hlocks hP hD hK hS dX6_markHere_163
          refine lv_if_eq (tgt := 117) hx hb dX6_markHere_110 (by decide) (fun c46 => ?_) (fun c46 => ?_)
          · replace hf := if_te c46 hf
            refine lv_iload_n hx hb dX6_markHere_117 rfl (lv_at hl 0 rfl) ?_
            refine lv_iconst (v := 2) hx hb dX6_markHere_118 rfl ?_
            refine lv_iadd hx hb dX6_markHere_119 ?_
            exact Hj21 (t1 + 2) H locs ls hP hD hS (lv_sub hl [0, 1] rfl) hf
          · replace hf := if_fe c46 hf
            refine lv_iconst (v := 0) hx hb dX6_markHere_113 rfl ?_
            refine lv_goto (tgt := 120) hx hb dX6_markHere_114 (by decide) ?_
            exact Hj21 0 H locs ls hP hD hS (lv_sub hl [0, 1] rfl) hf
        refine lv_if_ne (tgt := 105) hx hb dX6_markHere_94 (by decide) (fun c47 => ?_) (fun c47 => ?_)
        · replace hf := if_fe c47 hf
          exact Hj19 m_s H locs ls hP hD hS (lv_sub hl [0, 1] rfl) hf
        · replace hf := if_te c47 hf
          refine lv_aload_n hx hb dX6_markHere_97 rfl (lv_at hl 1 rfl) ?_
          refine lv_iload_n hx hb dX6_markHere_98 rfl (lv_at hl 2 rfl) ?_
          refine lv_bipush (v := 9) hx hb dX6_markHere_99 rfl ?_
          refine lv_iconst (v := 0) hx hb dX6_markHere_101 rfl ?_
          obtain ⟨v48, h49, hf⟩ := ob1_e hf
          refine kmv (w1 := (oMM C e0 e1 e2 e3 e4 e5 e6 e7 e8 e9 e10 e11 e12 e13 e14 e15 v48 m_held m_aside m_before m_isHeld m_tape m_taped v12 v13 v14 v15 v16 m_due m_firsts m_rows m_rowN m_sortOf m_sizeOf m_numbers m_holdsWhat m_holdsWhich m_holdsMany m_bodies m_ran m_actKind m_actN m_actA m_isParted [])) (va_runV (As := [.int x0, .int 9, .int 0]) (rest := []) ⟨hx, hb, hml, hown, hts⟩ (c_X6_comes0 l E D C e0 e1 e2 e3 e4 e5 e6 e7 e8 e9 e10 e11 e12 e13 e14 e15 H.size m_s m_held m_aside m_before m_isHeld m_tape m_taped v12 v13 v14 v15 v16 m_due m_firsts m_rows m_rowN m_sortOf m_sizeOf m_numbers m_holdsWhat m_holdsWhich m_holdsMany m_bodies m_ran m_actKind m_actN m_actA m_isParted x0 9 0 v48 h49) (cwV 3 hts gX6_markHere_X6_comes0 rfl rfl rfl hdX6_comes0 ⟨Nat.le_of_ble_eq_true rfl, Nat.le_of_ble_eq_true rfl⟩) (kpreM hP hD hK hS hE hA 0 rfl rfl rfl) rfl rfl hl.1 rfl (lv_room (Nat.le_of_ble_eq_true rfl)) dX6_markHere_102 ⟨Nat.zero_le _, Nat.zero_le _⟩) hP hD hS hA rfl (fun H locs hP hD hS => ?_)
          exact Hj19 v48 H locs ls hP hD hS (lv_sub hl [0, 1] rfl) hf
      obtain ⟨j50, hj50, hf⟩ := lj_e hf
      have Hj50 : ∀ (H : Heap) (locs : List Loc) (ls : Array Slot), va_P D vwCl (oMM C e0 e1 e2 e3 e4 e5 e6 e7 e8 e9 e10 e11 e12 e13 e14 e15 m_s m_held m_aside m_before m_isHeld m_tape m_taped v4 v5 v6 v7 v8 m_due m_firsts m_rows m_rowN m_sortOf m_sizeOf m_numbers m_holdsWhat m_holdsWhich m_holdsMany m_bodies m_ran m_actKind m_actN m_actA m_isParted []) H → va_D A (oMM C e0 e1 e2 e3 e4 e5 e6 e7 e8 e9 e10 e11 e12 e13 e14 e15 m_s m_held m_aside m_before m_isHeld m_tape m_taped v4 v5 v6 v7 v8 m_due m_firsts m_rows m_rowN m_sortOf m_sizeOf m_numbers m_holdsWhat m_holdsWhich m_holdsMany m_bodies m_ran m_actKind m_actN m_actA m_isParted []) → va_S A s.heap H locs → lv_has ls 3 [(2, .int t1), (0, .ref e0), (1, .int x0)] → j50 = some (m_s', m_token', m_from', m_to', m_value', m_isWrong') → W p l e (headSpec wsX6_markHere (rmX6_markHere)).room s m (List.toArray [Value.ref e0, Value.int x0]) below meth c H locs 0 0 Q (F0 m 86 ls [.ref e0]) := by
        intro H locs ls hP hD hS hl hf
        rw [hj50] at hf
        refine lv_iconst (v := 0) hx hb dX6_markHere_86 rfl ?_
        exact Hj11 0 H locs ls hP hD hS (lv_sub hl [0, 1, 2] rfl) hf
      refine lv_icmp_ne (tgt := 86) hx hb dX6_markHere_38 (by decide) (fun c51 => ?_) (fun c51 => ?_)
      · replace hf := if_fe c51 hf
        exact Hj50 H locs ls hP hD hS (lv_sub hl [0, 1, 2] rfl) hf
      · replace hf := if_te c51 hf
        refine lv_aload_n hx hb dX6_markHere_41 rfl (lv_at hl 1 rfl) ?_
        refine va_get (D := D) (ci := 6) (v := .int v6) (C := RX6) (T := TX6) (N := 28) hx hb hts hi_RX6 hown hK hP 0 rfl rfl 9 (by decide) (hts (.fieldLink RX6 70 "TravelMarksModel" "to" "I") (List.mem_of_getElem? (i := 3) rfl)) (fun _ h9 => h9) rfl dX6_markHere_42 ?_
        refine lv_aload_n hx hb dX6_markHere_45 rfl (lv_at hl 1 rfl) ?_
        refine va_get (D := D) (ci := 6) (v := .int v5) (C := RX6) (T := TX6) (N := 28) hx hb hts hi_RX6 hown hK hP 0 rfl rfl 8 (by decide) (hts (.fieldLink RX6 73 "TravelMarksModel" "from" "I") (List.mem_of_getElem? (i := 4) rfl)) (fun _ h9 => h9) rfl dX6_markHere_46 ?_
        refine lv_isub hx hb dX6_markHere_49 ?_
        refine lv_iconst (v := 2) hx hb dX6_markHere_50 rfl ?_
        refine lv_icmp_ne (tgt := 86) hx hb dX6_markHere_51 (by decide) (fun c52 => ?_) (fun c52 => ?_)
        · replace hf := if_fe c52 hf
          exact Hj50 H locs ls hP hD hS (lv_sub hl [0, 1, 2] rfl) hf
        · replace hf := if_te c52 hf
          refine lv_aload_n hx hb dX6_markHere_54 rfl (lv_at hl 1 rfl) ?_
          refine lv_aload_n hx hb dX6_markHere_55 rfl (lv_at hl 1 rfl) ?_
          refine va_get (D := D) (ci := 6) (v := .int v5) (C := RX6) (T := TX6) (N := 28) hx hb hts hi_RX6 hown hK hP 0 rfl rfl 8 (by decide) (hts (.fieldLink RX6 73 "TravelMarksModel" "from" "I") (List.mem_of_getElem? (i := 4) rfl)) (fun _ h9 => h9) rfl dX6_markHere_56 ?_
          obtain ⟨r53, h54, hf⟩ := ob1_e hf
          refine kmi (w1 := (oMM C e0 e1 e2 e3 e4 e5 e6 e7 e8 e9 e10 e11 e12 e13 e14 e15 m_s m_held m_aside m_before m_isHeld m_tape m_taped v4 v5 v6 v7 v8 m_due m_firsts m_rows m_rowN m_sortOf m_sizeOf m_numbers m_holdsWhat m_holdsWhich m_holdsMany m_bodies m_ran m_actKind m_actN m_actA m_isParted [])) (va_runV (As := [.int v5]) (rest := [.ref e0]) ⟨hx, hb, hml, hown, hts⟩ (c_X6_byteAt l E D C e0 e1 e2 e3 e4 e5 e6 e7 e8 e9 e10 e11 e12 e13 e14 e15 H.size m_s m_held m_aside m_before m_isHeld m_tape m_taped v4 v5 v6 v7 v8 m_due m_firsts m_rows m_rowN m_sortOf m_sizeOf m_numbers m_holdsWhat m_holdsWhich m_holdsMany m_bodies m_ran m_actKind m_actN m_actA m_isParted v5 r53 h54) (cwV 1 hts gX6_markHere_X6_byteAt rfl rfl rfl hdX6_byteAt ⟨Nat.le_of_ble_eq_true rfl, Nat.le_of_ble_eq_true rfl⟩) (kpreM hP hD hK hS hE hA 0 rfl rfl rfl) rfl rfl hl.1 rfl (lv_room (Nat.le_of_ble_eq_true rfl)) dX6_markHere_59 ⟨Nat.zero_le _, Nat.zero_le _⟩) hP hD hS hA rfl (fun H locs hP hD hS => ?_)
          refine lv_bipush (v := 111) hx hb dX6_markHere_62 rfl ?_
          refine lv_icmp_ne (tgt := 86) hx hb dX6_markHere_64 (by decide) (fun c55 => ?_) (fun c55 => ?_)
          · replace hf := if_fe c55 hf
            exact Hj50 H locs ls hP hD hS (lv_sub hl [0, 1, 2] rfl) hf
          · replace hf := if_te c55 hf
            refine lv_aload_n hx hb dX6_markHere_67 rfl (lv_at hl 1 rfl) ?_
            refine lv_aload_n hx hb dX6_markHere_68 rfl (lv_at hl 1 rfl) ?_
            refine va_get (D := D) (ci := 6) (v := .int v5) (C := RX6) (T := TX6) (N := 28) hx hb hts hi_RX6 hown hK hP 0 rfl rfl 8 (by decide) (hts (.fieldLink RX6 73 "TravelMarksModel" "from" "I") (List.mem_of_getElem? (i := 4) rfl)) (fun _ h9 => h9) rfl dX6_markHere_69 ?_
            refine lv_iconst (v := 1) hx hb dX6_markHere_72 rfl ?_
            refine lv_iadd hx hb dX6_markHere_73 ?_
            obtain ⟨r56, h57, hf⟩ := ob1_e hf
            refine kmi (w1 := (oMM C e0 e1 e2 e3 e4 e5 e6 e7 e8 e9 e10 e11 e12 e13 e14 e15 m_s m_held m_aside m_before m_isHeld m_tape m_taped v4 v5 v6 v7 v8 m_due m_firsts m_rows m_rowN m_sortOf m_sizeOf m_numbers m_holdsWhat m_holdsWhich m_holdsMany m_bodies m_ran m_actKind m_actN m_actA m_isParted [])) (va_runV (As := [.int (v5 + 1)]) (rest := [.ref e0]) ⟨hx, hb, hml, hown, hts⟩ (c_X6_byteAt l E D C e0 e1 e2 e3 e4 e5 e6 e7 e8 e9 e10 e11 e12 e13 e14 e15 H.size m_s m_held m_aside m_before m_isHeld m_tape m_taped v4 v5 v6 v7 v8 m_due m_firsts m_rows m_rowN m_sortOf m_sizeOf m_numbers m_holdsWhat m_holdsWhich m_holdsMany m_bodies m_ran m_actKind m_actN m_actA m_isParted (v5 + 1) r56 h57) (cwV 1 hts gX6_markHere_X6_byteAt rfl rfl rfl hdX6_byteAt ⟨Nat.le_of_ble_eq_true rfl, Nat.le_of_ble_eq_true rfl⟩) (kpreM hP hD hK hS hE hA 0 rfl rfl rfl) rfl rfl hl.1 rfl (lv_room (Nat.le_of_ble_eq_true rfl)) dX6_markHere_74 ⟨Nat.zero_le _, Nat.zero_le _⟩) hP hD hS hA rfl (fun H locs hP hD hS => ?_)
            refine lv_bipush (v := 110) hx hb dX6_markHere_77 rfl ?_
            refine lv_icmp_ne (tgt := 86) hx hb dX6_markHere_79 (by decide) (fun c58 => ?_) (fun c58 => ?_)
            · replace hf := if_fe c58 hf
              exact Hj50 H locs ls hP hD hS (lv_sub hl [0, 1, 2] rfl) hf
            · replace hf := if_te c58 hf
              refine lv_iconst (v := 1) hx hb dX6_markHere_82 rfl ?_
              refine lv_goto (tgt := 87) hx hb dX6_markHere_83 (by decide) ?_
              exact Hj11 1 H locs ls hP hD hS (lv_sub hl [0, 1, 2] rfl) hf
    refine lv_icmp_ge (tgt := 28) hx hb dX6_markHere_21 (by decide) (fun c59 => ?_) (fun c59 => ?_)
    · replace hf := if_te c59 hf
      refine lv_iconst (v := 0) hx hb dX6_markHere_28 rfl ?_
      exact Hj3 0 H locs ls hP hD hS (lv_sub hl [0, 1, 2] rfl) hf
    · replace hf := if_fe c59 hf
      refine lv_iconst (v := 1) hx hb dX6_markHere_24 rfl ?_
      refine lv_goto (tgt := 29) hx hb dX6_markHere_25 (by decide) ?_
      exact Hj3 1 H locs ls hP hD hS (lv_sub hl [0, 1, 2] rfl) hf
  exact main _ _ hP hD hS

def rmX6_touchHere : Room := { frames := 3, cells := 0, slots := 0, locals := 70 }
theorem hdX6_touchHere : yX6_touchHere.cls = RX6 ∧ yX6_touchHere.cls ≠ "java/lang/invoke/MethodHandle" ∧ yX6_touchHere.cls ≠ "java/lang/invoke/VarHandle" ∧ (parseMethodDescriptor yX6_touchHere.desc).map (fun d => d.parameters.length) = some 0 := by decide +kernel
set_option maxHeartbeats 40000000 in
set_option maxRecDepth 100000 in
theorem c_X6_touchHere (l : Launch) (E : Nat → Nat) (D : va_G) (C : Nat → ClassId) (e0 e1 e2 e3 e4 e5 e6 e7 e8 e9 e10 e11 e12 e13 e14 e15 : Nat) (sz : Nat) (N : Nat) (m_s : Nat → Int32) (m_held : Nat → Int32) (m_aside : Nat → Int32) (m_before : Nat → Int32) (m_isHeld : Int32) (m_tape : Nat → Int32) (m_taped : Int32) (m_token : Int32) (m_from : Int32) (m_to : Int32) (m_value : Int32) (m_isWrong : Int32) (m_due : Nat → Int32) (m_firsts : Nat → Int32) (m_rows : Nat → Int32) (m_rowN : Int32) (m_sortOf : Nat → Int32) (m_sizeOf : Nat → Int32) (m_numbers : Nat → Int32) (m_holdsWhat : Nat → Int32) (m_holdsWhich : Nat → Int32) (m_holdsMany : Nat → Int32) (m_bodies : Nat → Int32) (m_ran : Int32) (m_actKind : Int32) (m_actN : Int32) (m_actA : Int32) (m_isParted : Int32)  (m_s' : Nat → Int32) (m_token' : Int32) (m_from' : Int32) (m_to' : Int32) (m_value' : Int32) (m_isWrong' : Int32) (hf : f_X6_touchHere N m_s m_tape m_taped m_token m_from m_to m_value m_isWrong = some (m_s', m_token', m_from', m_to', m_value', m_isWrong')) : Met l yX6_touchHere wsX6_touchHere rmX6_touchHere (PC E D C [.ref e0] (oMM C e0 e1 e2 e3 e4 e5 e6 e7 e8 e9 e10 e11 e12 e13 e14 e15 m_s m_held m_aside m_before m_isHeld m_tape m_taped m_token m_from m_to m_value m_isWrong m_due m_firsts m_rows m_rowN m_sortOf m_sizeOf m_numbers m_holdsWhat m_holdsWhich m_holdsMany m_bodies m_ran m_actKind m_actN m_actA m_isParted []) sz) (QV D C (oMM C e0 e1 e2 e3 e4 e5 e6 e7 e8 e9 e10 e11 e12 e13 e14 e15 m_s m_held m_aside m_before m_isHeld m_tape m_taped m_token m_from m_to m_value m_isWrong m_due m_firsts m_rows m_rowN m_sortOf m_sizeOf m_numbers m_holdsWhat m_holdsWhich m_holdsMany m_bodies m_ran m_actKind m_actN m_actA m_isParted []) (oMM C e0 e1 e2 e3 e4 e5 e6 e7 e8 e9 e10 e11 e12 e13 e14 e15 (m_s') m_held m_aside m_before m_isHeld m_tape m_taped (m_token') (m_from') (m_to') (m_value') (m_isWrong') m_due m_firsts m_rows m_rowN m_sortOf m_sizeOf m_numbers m_holdsWhat m_holdsWhich m_holdsMany m_bodies m_ran m_actKind m_actN m_actA m_isParted []) sz) 0 0 (va_A (oMM C e0 e1 e2 e3 e4 e5 e6 e7 e8 e9 e10 e11 e12 e13 e14 e15 m_s m_held m_aside m_before m_isHeld m_tape m_taped m_token m_from m_to m_value m_isWrong m_due m_firsts m_rows m_rowN m_sortOf m_sizeOf m_numbers m_holdsWhat m_holdsWhich m_holdsMany m_bodies m_ran m_actKind m_actN m_actA m_isParted []) sz) := by
  refine Met.ofW (cc := cX6_touchHere) (maxL := 4) (ret := none) (by decide) rfl ?_
  intro p e s m args below meth c s₁ B hml hv
  obtain ⟨rfl, hsz, hP, hK, hD0, hE⟩ := hv
  have hx := B.exec
  have hb := B.bytes
  have hr := B.returns
  have hts := atoms_spec (ws := wsX6_touchHere) B.pre
  have hown : s.vm.findClass RX6 = some m.cls := findClass_of_methodNamed B.named
  have hlocks := B.notSynchronized
  subst hsz
  have hi_RX6 : ∀ w ∈ wsX60, w ∈ wsX6_touchHere := fun _ h => List.mem_cons_of_mem _ (List.mem_append_right _ h)
  have hD := hD0.self (sz := s.heap.size)
  obtain ⟨A, hAe⟩ := nm_ex (va_A (oMM C e0 e1 e2 e3 e4 e5 e6 e7 e8 e9 e10 e11 e12 e13 e14 e15 m_s m_held m_aside m_before m_isHeld m_tape m_taped m_token m_from m_to m_value m_isWrong m_due m_firsts m_rows m_rowN m_sortOf m_sizeOf m_numbers m_holdsWhat m_holdsWhich m_holdsMany m_bodies m_ran m_actKind m_actN m_actA m_isParted []) s.heap.size)
  rw [← hAe] at hD hE ⊢
  have hA : ∀ q : Nat, s.heap.size ≤ q → A q := fun q h => by rw [hAe]; exact Or.inr h
  have hS : va_S A s.heap s.heap [] := va_S.rf
  have hl := lv_entry ([.ref e0]) (n := 4) (Nat.le_of_ble_eq_true rfl)
  rw [lg_entry_eq]
  generalize (lg_sl ([.ref e0]) ++ List.replicate (4 - (lg_sl ([.ref e0])).length) Slot.unset).toArray = ls at hl ⊢
  have hl : lv_has ls 4 [(0, .ref e0)] := hl
  obtain ⟨Q, hQ⟩ := nm_ex (MQ below (QV D C (oMM C e0 e1 e2 e3 e4 e5 e6 e7 e8 e9 e10 e11 e12 e13 e14 e15 m_s m_held m_aside m_before m_isHeld m_tape m_taped m_token m_from m_to m_value m_isWrong m_due m_firsts m_rows m_rowN m_sortOf m_sizeOf m_numbers m_holdsWhat m_holdsWhich m_holdsMany m_bodies m_ran m_actKind m_actN m_actA m_isParted []) (oMM C e0 e1 e2 e3 e4 e5 e6 e7 e8 e9 e10 e11 e12 e13 e14 e15 (m_s') m_held m_aside m_before m_isHeld m_tape m_taped (m_token') (m_from') (m_to') (m_value') (m_isWrong') m_due m_firsts m_rows m_rowN m_sortOf m_sizeOf m_numbers m_holdsWhat m_holdsWhich m_holdsMany m_bodies m_ran m_actKind m_actN m_actA m_isParted []) s.heap.size) (List.toArray [Value.ref e0]) s 0 0 A)
  show W p l e (headSpec wsX6_touchHere (rmX6_touchHere)).room s m (List.toArray [Value.ref e0]) below meth c s.heap [] 0 0 (MQ below (QV D C (oMM C e0 e1 e2 e3 e4 e5 e6 e7 e8 e9 e10 e11 e12 e13 e14 e15 m_s m_held m_aside m_before m_isHeld m_tape m_taped m_token m_from m_to m_value m_isWrong m_due m_firsts m_rows m_rowN m_sortOf m_sizeOf m_numbers m_holdsWhat m_holdsWhich m_holdsMany m_bodies m_ran m_actKind m_actN m_actA m_isParted []) (oMM C e0 e1 e2 e3 e4 e5 e6 e7 e8 e9 e10 e11 e12 e13 e14 e15 (m_s') m_held m_aside m_before m_isHeld m_tape m_taped (m_token') (m_from') (m_to') (m_value') (m_isWrong') m_due m_firsts m_rows m_rowN m_sortOf m_sizeOf m_numbers m_holdsWhat m_holdsWhich m_holdsMany m_bodies m_ran m_actKind m_actN m_actA m_isParted []) s.heap.size) (List.toArray [Value.ref e0]) s 0 0 A) _
  rw [← hQ]
  unfold f_X6_touchHere at hf
  have main : ∀ (H : Heap) (locs : List Loc), va_P D vwCl (oMM C e0 e1 e2 e3 e4 e5 e6 e7 e8 e9 e10 e11 e12 e13 e14 e15 m_s m_held m_aside m_before m_isHeld m_tape m_taped m_token m_from m_to m_value m_isWrong m_due m_firsts m_rows m_rowN m_sortOf m_sizeOf m_numbers m_holdsWhat m_holdsWhich m_holdsMany m_bodies m_ran m_actKind m_actN m_actA m_isParted []) H → va_D A (oMM C e0 e1 e2 e3 e4 e5 e6 e7 e8 e9 e10 e11 e12 e13 e14 e15 m_s m_held m_aside m_before m_isHeld m_tape m_taped m_token m_from m_to m_value m_isWrong m_due m_firsts m_rows m_rowN m_sortOf m_sizeOf m_numbers m_holdsWhat m_holdsWhich m_holdsMany m_bodies m_ran m_actKind m_actN m_actA m_isParted []) → va_S A s.heap H locs → W p l e (headSpec wsX6_touchHere (rmX6_touchHere)).room s m (List.toArray [Value.ref e0]) below meth c H locs 0 0 Q (F0 m 0 ls []) := by
    intro H locs hP hD hS
    refine lv_aload_n hx hb dX6_touchHere_0 rfl (lv_at hl 0 rfl) ?_
    obtain ⟨v1, v2, v3, v4, h5, hf⟩ := ob4_e hf
    refine kmv (w1 := (oMM C e0 e1 e2 e3 e4 e5 e6 e7 e8 e9 e10 e11 e12 e13 e14 e15 m_s m_held m_aside m_before m_isHeld m_tape m_taped v1 v2 v3 v4 m_isWrong m_due m_firsts m_rows m_rowN m_sortOf m_sizeOf m_numbers m_holdsWhat m_holdsWhich m_holdsMany m_bodies m_ran m_actKind m_actN m_actA m_isParted [])) (va_runV (As := []) (rest := []) ⟨hx, hb, hml, hown, hts⟩ (c_X6_nextToken l E D C e0 e1 e2 e3 e4 e5 e6 e7 e8 e9 e10 e11 e12 e13 e14 e15 H.size N m_s m_held m_aside m_before m_isHeld m_tape m_taped m_token m_from m_to m_value m_isWrong m_due m_firsts m_rows m_rowN m_sortOf m_sizeOf m_numbers m_holdsWhat m_holdsWhich m_holdsMany m_bodies m_ran m_actKind m_actN m_actA m_isParted v1 v2 v3 v4 h5) (cwV 0 hts gX6_touchHere_X6_nextToken rfl rfl rfl hdX6_nextToken ⟨Nat.le_of_ble_eq_true rfl, Nat.le_of_ble_eq_true rfl⟩) (kpreM hP hD hK hS hE hA 0 rfl rfl rfl) rfl rfl hl.1 rfl (lv_room (Nat.le_of_ble_eq_true rfl)) dX6_touchHere_1 ⟨Nat.zero_le _, Nat.zero_le _⟩) hP hD hS hA rfl (fun H locs hP hD hS => ?_)
    refine lv_aload_n hx hb dX6_touchHere_4 rfl (lv_at hl 0 rfl) ?_
    refine va_get (D := D) (ci := 6) (v := .int v4) (C := RX6) (T := TX6) (N := 28) hx hb hts hi_RX6 hown hK hP 0 rfl rfl 10 (by decide) (hts (.fieldLink RX6 90 "TravelMarksModel" "value" "I") (List.mem_of_getElem? (i := 1) rfl)) (fun _ h9 => h9) rfl dX6_touchHere_5 ?_
    refine lv_istore_n (lv' := [(1, .int v4), (0, .ref e0)]) hx hb dX6_touchHere_8 rfl hl (by decide) rfl (fun ls hl => ?_)
    refine lv_aload_n hx hb dX6_touchHere_9 rfl (lv_at hl 1 rfl) ?_
    refine lv_aload_n hx hb dX6_touchHere_10 rfl (lv_at hl 1 rfl) ?_
    refine lv_iconst (v := 0) hx hb dX6_touchHere_11 rfl ?_
    refine lv_iconst (v := 5) hx hb dX6_touchHere_12 rfl ?_
    refine kmz (w1 := (oMM C e0 e1 e2 e3 e4 e5 e6 e7 e8 e9 e10 e11 e12 e13 e14 e15 m_s m_held m_aside m_before m_isHeld m_tape m_taped v1 v2 v3 v4 m_isWrong m_due m_firsts m_rows m_rowN m_sortOf m_sizeOf m_numbers m_holdsWhat m_holdsWhich m_holdsMany m_bodies m_ran m_actKind m_actN m_actA m_isParted [])) (va_runV (As := [.int 0, .int 5]) (rest := [.ref e0]) ⟨hx, hb, hml, hown, hts⟩ (c_X6_isNumber l E D C e0 e1 e2 e3 e4 e5 e6 e7 e8 e9 e10 e11 e12 e13 e14 e15 H.size m_s m_held m_aside m_before m_isHeld m_tape m_taped v1 v2 v3 v4 m_isWrong m_due m_firsts m_rows m_rowN m_sortOf m_sizeOf m_numbers m_holdsWhat m_holdsWhich m_holdsMany m_bodies m_ran m_actKind m_actN m_actA m_isParted 0 5 _ rfl) (cwV 2 hts gX6_touchHere_X6_isNumber rfl rfl rfl hdX6_isNumber ⟨Nat.le_of_ble_eq_true rfl, Nat.le_of_ble_eq_true rfl⟩) (kpreM hP hD hK hS hE hA 0 rfl rfl rfl) rfl rfl hl.1 rfl (lv_room (Nat.le_of_ble_eq_true rfl)) dX6_touchHere_13 ⟨Nat.zero_le _, Nat.zero_le _⟩) hP hD hS hA rfl (fun H locs hz6 hP hD hS => ?_)
    obtain ⟨v7, v8, v9, v10, v11, h12, hf⟩ := ob5_e hf
    refine kmv (w1 := (oMM C e0 e1 e2 e3 e4 e5 e6 e7 e8 e9 e10 e11 e12 e13 e14 e15 m_s m_held m_aside m_before m_isHeld m_tape m_taped v7 v8 v9 v10 v11 m_due m_firsts m_rows m_rowN m_sortOf m_sizeOf m_numbers m_holdsWhat m_holdsWhich m_holdsMany m_bodies m_ran m_actKind m_actN m_actA m_isParted [])) (va_runV (As := [.int (f_X6_isNumber v1 v2 v3 v4 0 5)]) (rest := []) ⟨hx, hb, hml, hown, hts⟩ (c_X6_needs l E D C e0 e1 e2 e3 e4 e5 e6 e7 e8 e9 e10 e11 e12 e13 e14 e15 H.size N m_s m_held m_aside m_before m_isHeld m_tape m_taped v1 v2 v3 v4 m_isWrong m_due m_firsts m_rows m_rowN m_sortOf m_sizeOf m_numbers m_holdsWhat m_holdsWhich m_holdsMany m_bodies m_ran m_actKind m_actN m_actA m_isParted (f_X6_isNumber v1 v2 v3 v4 0 5) v7 v8 v9 v10 v11 h12) (cwV 1 hts gX6_touchHere_X6_needs rfl rfl rfl hdX6_needs ⟨Nat.le_of_ble_eq_true rfl, Nat.le_of_ble_eq_true rfl⟩) (kpreM hP hD hK hS hE hA 0 rfl rfl rfl) rfl rfl hl.1 rfl (lv_room (Nat.le_of_ble_eq_true rfl)) dX6_touchHere_16 ⟨Nat.zero_le _, Nat.zero_le _⟩) hP hD hS hA rfl (fun H locs hP hD hS => ?_)
    refine lv_aload_n hx hb dX6_touchHere_19 rfl (lv_at hl 1 rfl) ?_
    refine lv_aload_n hx hb dX6_touchHere_20 rfl (lv_at hl 1 rfl) ?_
    refine va_get (D := D) (ci := 6) (v := .int v7) (C := RX6) (T := TX6) (N := 28) hx hb hts hi_RX6 hown hK hP 0 rfl rfl 7 (by decide) (hts (.fieldLink RX6 87 "TravelMarksModel" "token" "I") (List.mem_of_getElem? (i := 2) rfl)) (fun _ h9 => h9) rfl dX6_touchHere_21 ?_
    refine lv_iconst (v := 3) hx hb dX6_touchHere_24 rfl ?_
    obtain ⟨j14, hj14, hf⟩ := lj_e hf
    have Hj14 : ∀ (k13 : Int32) (H : Heap) (locs : List Loc) (ls : Array Slot), va_P D vwCl (oMM C e0 e1 e2 e3 e4 e5 e6 e7 e8 e9 e10 e11 e12 e13 e14 e15 m_s m_held m_aside m_before m_isHeld m_tape m_taped v7 v8 v9 v10 v11 m_due m_firsts m_rows m_rowN m_sortOf m_sizeOf m_numbers m_holdsWhat m_holdsWhich m_holdsMany m_bodies m_ran m_actKind m_actN m_actA m_isParted []) H → va_D A (oMM C e0 e1 e2 e3 e4 e5 e6 e7 e8 e9 e10 e11 e12 e13 e14 e15 m_s m_held m_aside m_before m_isHeld m_tape m_taped v7 v8 v9 v10 v11 m_due m_firsts m_rows m_rowN m_sortOf m_sizeOf m_numbers m_holdsWhat m_holdsWhich m_holdsMany m_bodies m_ran m_actKind m_actN m_actA m_isParted []) → va_S A s.heap H locs → lv_has ls 4 [(1, .int v4), (0, .ref e0)] → j14 k13 = some (m_s', m_token', m_from', m_to', m_value', m_isWrong') → W p l e (headSpec wsX6_touchHere (rmX6_touchHere)).room s m (List.toArray [Value.ref e0]) below meth c H locs 0 0 Q (F0 m 46 ls [.int k13, .ref e0]) := by
      intro k13 H locs ls hP hD hS hl hf
      rw [hj14] at hf
      obtain ⟨v15, v16, v17, v18, v19, h20, hf⟩ := ob5_e hf
      refine kmv (w1 := (oMM C e0 e1 e2 e3 e4 e5 e6 e7 e8 e9 e10 e11 e12 e13 e14 e15 m_s m_held m_aside m_before m_isHeld m_tape m_taped v15 v16 v17 v18 v19 m_due m_firsts m_rows m_rowN m_sortOf m_sizeOf m_numbers m_holdsWhat m_holdsWhich m_holdsMany m_bodies m_ran m_actKind m_actN m_actA m_isParted [])) (va_runV (As := [.int k13]) (rest := []) ⟨hx, hb, hml, hown, hts⟩ (c_X6_needs l E D C e0 e1 e2 e3 e4 e5 e6 e7 e8 e9 e10 e11 e12 e13 e14 e15 H.size N m_s m_held m_aside m_before m_isHeld m_tape m_taped v7 v8 v9 v10 v11 m_due m_firsts m_rows m_rowN m_sortOf m_sizeOf m_numbers m_holdsWhat m_holdsWhich m_holdsMany m_bodies m_ran m_actKind m_actN m_actA m_isParted k13 v15 v16 v17 v18 v19 h20) (cwV 1 hts gX6_touchHere_X6_needs rfl rfl rfl hdX6_needs ⟨Nat.le_of_ble_eq_true rfl, Nat.le_of_ble_eq_true rfl⟩) (kpreM hP hD hK hS hE hA 0 rfl rfl rfl) rfl rfl hl.1 rfl (lv_room (Nat.le_of_ble_eq_true rfl)) dX6_touchHere_46 ⟨Nat.zero_le _, Nat.zero_le _⟩) hP hD hS hA rfl (fun H locs hP hD hS => ?_)
      refine lv_aload_n hx hb dX6_touchHere_49 rfl (lv_at hl 1 rfl) ?_
      refine va_get (D := D) (ci := 6) (v := .int v18) (C := RX6) (T := TX6) (N := 28) hx hb hts hi_RX6 hown hK hP 0 rfl rfl 10 (by decide) (hts (.fieldLink RX6 90 "TravelMarksModel" "value" "I") (List.mem_of_getElem? (i := 1) rfl)) (fun _ h9 => h9) rfl dX6_touchHere_50 ?_
      refine lv_istore_n (lv' := [(2, .int v18), (1, .int v4), (0, .ref e0)]) hx hb dX6_touchHere_53 rfl hl (by decide) rfl (fun ls hl => ?_)
      refine lv_aload_n hx hb dX6_touchHere_54 rfl (lv_at hl 2 rfl) ?_
      refine lv_aload_n hx hb dX6_touchHere_55 rfl (lv_at hl 2 rfl) ?_
      refine lv_iconst (v := 0) hx hb dX6_touchHere_56 rfl ?_
      refine lv_bipush (v := 7) hx hb dX6_touchHere_57 rfl ?_
      refine kmz (w1 := (oMM C e0 e1 e2 e3 e4 e5 e6 e7 e8 e9 e10 e11 e12 e13 e14 e15 m_s m_held m_aside m_before m_isHeld m_tape m_taped v15 v16 v17 v18 v19 m_due m_firsts m_rows m_rowN m_sortOf m_sizeOf m_numbers m_holdsWhat m_holdsWhich m_holdsMany m_bodies m_ran m_actKind m_actN m_actA m_isParted [])) (va_runV (As := [.int 0, .int 7]) (rest := [.ref e0]) ⟨hx, hb, hml, hown, hts⟩ (c_X6_isNumber l E D C e0 e1 e2 e3 e4 e5 e6 e7 e8 e9 e10 e11 e12 e13 e14 e15 H.size m_s m_held m_aside m_before m_isHeld m_tape m_taped v15 v16 v17 v18 v19 m_due m_firsts m_rows m_rowN m_sortOf m_sizeOf m_numbers m_holdsWhat m_holdsWhich m_holdsMany m_bodies m_ran m_actKind m_actN m_actA m_isParted 0 7 _ rfl) (cwV 2 hts gX6_touchHere_X6_isNumber rfl rfl rfl hdX6_isNumber ⟨Nat.le_of_ble_eq_true rfl, Nat.le_of_ble_eq_true rfl⟩) (kpreM hP hD hK hS hE hA 0 rfl rfl rfl) rfl rfl hl.1 rfl (lv_room (Nat.le_of_ble_eq_true rfl)) dX6_touchHere_59 ⟨Nat.zero_le _, Nat.zero_le _⟩) hP hD hS hA rfl (fun H locs hz21 hP hD hS => ?_)
      obtain ⟨v22, v23, v24, v25, v26, h27, hf⟩ := ob5_e hf
      refine kmv (w1 := (oMM C e0 e1 e2 e3 e4 e5 e6 e7 e8 e9 e10 e11 e12 e13 e14 e15 m_s m_held m_aside m_before m_isHeld m_tape m_taped v22 v23 v24 v25 v26 m_due m_firsts m_rows m_rowN m_sortOf m_sizeOf m_numbers m_holdsWhat m_holdsWhich m_holdsMany m_bodies m_ran m_actKind m_actN m_actA m_isParted [])) (va_runV (As := [.int (f_X6_isNumber v15 v16 v17 v18 0 7)]) (rest := []) ⟨hx, hb, hml, hown, hts⟩ (c_X6_needs l E D C e0 e1 e2 e3 e4 e5 e6 e7 e8 e9 e10 e11 e12 e13 e14 e15 H.size N m_s m_held m_aside m_before m_isHeld m_tape m_taped v15 v16 v17 v18 v19 m_due m_firsts m_rows m_rowN m_sortOf m_sizeOf m_numbers m_holdsWhat m_holdsWhich m_holdsMany m_bodies m_ran m_actKind m_actN m_actA m_isParted (f_X6_isNumber v15 v16 v17 v18 0 7) v22 v23 v24 v25 v26 h27) (cwV 1 hts gX6_touchHere_X6_needs rfl rfl rfl hdX6_needs ⟨Nat.le_of_ble_eq_true rfl, Nat.le_of_ble_eq_true rfl⟩) (kpreM hP hD hK hS hE hA 0 rfl rfl rfl) rfl rfl hl.1 rfl (lv_room (Nat.le_of_ble_eq_true rfl)) dX6_touchHere_62 ⟨Nat.zero_le _, Nat.zero_le _⟩) hP hD hS hA rfl (fun H locs hP hD hS => ?_)
      refine lv_aload_n hx hb dX6_touchHere_65 rfl (lv_at hl 2 rfl) ?_
      refine lv_aload_n hx hb dX6_touchHere_66 rfl (lv_at hl 2 rfl) ?_
      refine lv_bipush (v := 119) hx hb dX6_touchHere_67 rfl ?_
      refine lv_bipush (v := 105) hx hb dX6_touchHere_69 rfl ?_
      refine lv_bipush (v := 116) hx hb dX6_touchHere_71 rfl ?_
      refine lv_bipush (v := 104) hx hb dX6_touchHere_73 rfl ?_
      obtain ⟨r28, h29, hf⟩ := ob1_e hf
      refine kmz (w1 := (oMM C e0 e1 e2 e3 e4 e5 e6 e7 e8 e9 e10 e11 e12 e13 e14 e15 m_s m_held m_aside m_before m_isHeld m_tape m_taped v22 v23 v24 v25 v26 m_due m_firsts m_rows m_rowN m_sortOf m_sizeOf m_numbers m_holdsWhat m_holdsWhich m_holdsMany m_bodies m_ran m_actKind m_actN m_actA m_isParted [])) (va_runV (As := [.int 119, .int 105, .int 116, .int 104]) (rest := [.ref e0]) ⟨hx, hb, hml, hown, hts⟩ (c_X6_isFour l E D C e0 e1 e2 e3 e4 e5 e6 e7 e8 e9 e10 e11 e12 e13 e14 e15 H.size m_s m_held m_aside m_before m_isHeld m_tape m_taped v22 v23 v24 v25 v26 m_due m_firsts m_rows m_rowN m_sortOf m_sizeOf m_numbers m_holdsWhat m_holdsWhich m_holdsMany m_bodies m_ran m_actKind m_actN m_actA m_isParted 119 105 116 104 r28 h29) (cwV 4 hts gX6_touchHere_X6_isFour rfl rfl rfl hdX6_isFour ⟨Nat.le_of_ble_eq_true rfl, Nat.le_of_ble_eq_true rfl⟩) (kpreM hP hD hK hS hE hA 0 rfl rfl rfl) rfl rfl hl.1 rfl (lv_room (Nat.le_of_ble_eq_true rfl)) dX6_touchHere_75 ⟨Nat.zero_le _, Nat.zero_le _⟩) hP hD hS hA rfl (fun H locs hz30 hP hD hS => ?_)
      obtain ⟨v31, v32, v33, v34, v35, h36, hf⟩ := ob5_e hf
      refine kmv (w1 := (oMM C e0 e1 e2 e3 e4 e5 e6 e7 e8 e9 e10 e11 e12 e13 e14 e15 m_s m_held m_aside m_before m_isHeld m_tape m_taped v31 v32 v33 v34 v35 m_due m_firsts m_rows m_rowN m_sortOf m_sizeOf m_numbers m_holdsWhat m_holdsWhich m_holdsMany m_bodies m_ran m_actKind m_actN m_actA m_isParted [])) (va_runV (As := [.int r28]) (rest := []) ⟨hx, hb, hml, hown, hts⟩ (c_X6_needs l E D C e0 e1 e2 e3 e4 e5 e6 e7 e8 e9 e10 e11 e12 e13 e14 e15 H.size N m_s m_held m_aside m_before m_isHeld m_tape m_taped v22 v23 v24 v25 v26 m_due m_firsts m_rows m_rowN m_sortOf m_sizeOf m_numbers m_holdsWhat m_holdsWhich m_holdsMany m_bodies m_ran m_actKind m_actN m_actA m_isParted r28 v31 v32 v33 v34 v35 h36) (cwV 1 hts gX6_touchHere_X6_needs rfl rfl rfl hdX6_needs ⟨Nat.le_of_ble_eq_true rfl, Nat.le_of_ble_eq_true rfl⟩) (kpreM hP hD hK hS hE hA 0 rfl rfl rfl) rfl rfl hl.1 rfl (lv_room (Nat.le_of_ble_eq_true rfl)) dX6_touchHere_78 ⟨Nat.zero_le _, Nat.zero_le _⟩) hP hD hS hA rfl (fun H locs hP hD hS => ?_)
      refine lv_aload_n hx hb dX6_touchHere_81 rfl (lv_at hl 2 rfl) ?_
      refine va_get (D := D) (ci := 6) (v := .int v34) (C := RX6) (T := TX6) (N := 28) hx hb hts hi_RX6 hown hK hP 0 rfl rfl 10 (by decide) (hts (.fieldLink RX6 90 "TravelMarksModel" "value" "I") (List.mem_of_getElem? (i := 1) rfl)) (fun _ h9 => h9) rfl dX6_touchHere_82 ?_
      refine lv_istore_n (lv' := [(3, .int v34), (2, .int v18), (1, .int v4), (0, .ref e0)]) hx hb dX6_touchHere_85 rfl hl (by decide) rfl (fun ls hl => ?_)
      refine lv_aload_n hx hb dX6_touchHere_86 rfl (lv_at hl 3 rfl) ?_
      refine lv_aload_n hx hb dX6_touchHere_87 rfl (lv_at hl 3 rfl) ?_
      refine lv_iconst (v := 0) hx hb dX6_touchHere_88 rfl ?_
      refine lv_bipush (v := 7) hx hb dX6_touchHere_89 rfl ?_
      refine kmz (w1 := (oMM C e0 e1 e2 e3 e4 e5 e6 e7 e8 e9 e10 e11 e12 e13 e14 e15 m_s m_held m_aside m_before m_isHeld m_tape m_taped v31 v32 v33 v34 v35 m_due m_firsts m_rows m_rowN m_sortOf m_sizeOf m_numbers m_holdsWhat m_holdsWhich m_holdsMany m_bodies m_ran m_actKind m_actN m_actA m_isParted [])) (va_runV (As := [.int 0, .int 7]) (rest := [.ref e0]) ⟨hx, hb, hml, hown, hts⟩ (c_X6_isNumber l E D C e0 e1 e2 e3 e4 e5 e6 e7 e8 e9 e10 e11 e12 e13 e14 e15 H.size m_s m_held m_aside m_before m_isHeld m_tape m_taped v31 v32 v33 v34 v35 m_due m_firsts m_rows m_rowN m_sortOf m_sizeOf m_numbers m_holdsWhat m_holdsWhich m_holdsMany m_bodies m_ran m_actKind m_actN m_actA m_isParted 0 7 _ rfl) (cwV 2 hts gX6_touchHere_X6_isNumber rfl rfl rfl hdX6_isNumber ⟨Nat.le_of_ble_eq_true rfl, Nat.le_of_ble_eq_true rfl⟩) (kpreM hP hD hK hS hE hA 0 rfl rfl rfl) rfl rfl hl.1 rfl (lv_room (Nat.le_of_ble_eq_true rfl)) dX6_touchHere_91 ⟨Nat.zero_le _, Nat.zero_le _⟩) hP hD hS hA rfl (fun H locs hz37 hP hD hS => ?_)
      obtain ⟨j39, hj39, hf⟩ := lj_e hf
      have Hj39 : ∀ (k38 : Int32) (H : Heap) (locs : List Loc) (ls : Array Slot), va_P D vwCl (oMM C e0 e1 e2 e3 e4 e5 e6 e7 e8 e9 e10 e11 e12 e13 e14 e15 m_s m_held m_aside m_before m_isHeld m_tape m_taped v31 v32 v33 v34 v35 m_due m_firsts m_rows m_rowN m_sortOf m_sizeOf m_numbers m_holdsWhat m_holdsWhich m_holdsMany m_bodies m_ran m_actKind m_actN m_actA m_isParted []) H → va_D A (oMM C e0 e1 e2 e3 e4 e5 e6 e7 e8 e9 e10 e11 e12 e13 e14 e15 m_s m_held m_aside m_before m_isHeld m_tape m_taped v31 v32 v33 v34 v35 m_due m_firsts m_rows m_rowN m_sortOf m_sizeOf m_numbers m_holdsWhat m_holdsWhich m_holdsMany m_bodies m_ran m_actKind m_actN m_actA m_isParted []) → va_S A s.heap H locs → lv_has ls 4 [(3, .int v34), (2, .int v18), (1, .int v4), (0, .ref e0)] → j39 k38 = some (m_s', m_token', m_from', m_to', m_value', m_isWrong') → W p l e (headSpec wsX6_touchHere (rmX6_touchHere)).room s m (List.toArray [Value.ref e0]) below meth c H locs 0 0 Q (F0 m 110 ls [.int k38, .ref e0]) := by
        intro k38 H locs ls hP hD hS hl hf
        rw [hj39] at hf
        obtain ⟨v40, v41, v42, v43, v44, h45, hf⟩ := ob5_e hf
        refine kmv (w1 := (oMM C e0 e1 e2 e3 e4 e5 e6 e7 e8 e9 e10 e11 e12 e13 e14 e15 m_s m_held m_aside m_before m_isHeld m_tape m_taped v40 v41 v42 v43 v44 m_due m_firsts m_rows m_rowN m_sortOf m_sizeOf m_numbers m_holdsWhat m_holdsWhich m_holdsMany m_bodies m_ran m_actKind m_actN m_actA m_isParted [])) (va_runV (As := [.int k38]) (rest := []) ⟨hx, hb, hml, hown, hts⟩ (c_X6_needs l E D C e0 e1 e2 e3 e4 e5 e6 e7 e8 e9 e10 e11 e12 e13 e14 e15 H.size N m_s m_held m_aside m_before m_isHeld m_tape m_taped v31 v32 v33 v34 v35 m_due m_firsts m_rows m_rowN m_sortOf m_sizeOf m_numbers m_holdsWhat m_holdsWhich m_holdsMany m_bodies m_ran m_actKind m_actN m_actA m_isParted k38 v40 v41 v42 v43 v44 h45) (cwV 1 hts gX6_touchHere_X6_needs rfl rfl rfl hdX6_needs ⟨Nat.le_of_ble_eq_true rfl, Nat.le_of_ble_eq_true rfl⟩) (kpreM hP hD hK hS hE hA 0 rfl rfl rfl) rfl rfl hl.1 rfl (lv_room (Nat.le_of_ble_eq_true rfl)) dX6_touchHere_110 ⟨Nat.zero_le _, Nat.zero_le _⟩) hP hD hS hA rfl (fun H locs hP hD hS => ?_)
        refine lv_aload_n hx hb dX6_touchHere_113 rfl (lv_at hl 3 rfl) ?_
        refine va_get (D := D) (ci := 6) (v := .int v44) (C := RX6) (T := TX6) (N := 28) hx hb hts hi_RX6 hown hK hP 0 rfl rfl 11 (by decide) (hts (.fieldLink RX6 93 "TravelMarksModel" "isWrong" "Z") (List.mem_of_getElem? (i := 4) rfl)) (fun _ h9 => h9) rfl dX6_touchHere_114 ?_
        refine lv_if_ne (tgt := 144) hx hb dX6_touchHere_117 (by decide) (fun c46 => ?_) (fun c46 => ?_)
        · replace hf := if_fe c46 hf
          cases hf
          exact krv hQ hAe hx hb hr hlocks hP hD hK hS dX6_touchHere_144
        · replace hf := if_te c46 hf
          refine lv_aload_n hx hb dX6_touchHere_120 rfl (lv_at hl 3 rfl) ?_
          refine va_get (D := D) (ci := 6) (v := .ref e1) (C := RX6) (T := TX6) (N := 28) hx hb hts hi_RX6 hown hK hP 0 rfl rfl 0 (by decide) (hts (.fieldLink RX6 7 "TravelMarksModel" "s" "[I") (List.mem_of_getElem? (i := 5) rfl)) (fun _ h9 => h9) rfl dX6_touchHere_121 ?_
          refine lv_bipush (v := 7) hx hb dX6_touchHere_124 rfl ?_
          refine lv_iload_n hx hb dX6_touchHere_126 rfl (lv_at hl 2 rfl) ?_
          refine lv_iadd hx hb dX6_touchHere_127 ?_
          refine lv_iconst (v := 1) hx hb dX6_touchHere_128 rfl ?_
          refine lv_iload_n hx hb dX6_touchHere_129 rfl (lv_at hl 1 rfl) ?_
          refine lv_iadd hx hb dX6_touchHere_130 ?_
          obtain ⟨t47, et47, hf⟩ := lj_e hf
          refine lv_ren et47 ?_
          obtain ⟨hi48, hf⟩ := ckA_e hf
          refine va_iast hx hb hK hP hD hS 1 0 rfl rfl hi48 dX6_touchHere_131 (fun H locs hP hD hS => ?_)
          obtain ⟨v49, ev49, hf⟩ := lj_e hf
          have hP : va_P D vwCl (oMM C e0 e1 e2 e3 e4 e5 e6 e7 e8 e9 e10 e11 e12 e13 e14 e15 v49 m_held m_aside m_before m_isHeld m_tape m_taped v40 v41 v42 v43 v44 m_due m_firsts m_rows m_rowN m_sortOf m_sizeOf m_numbers m_holdsWhat m_holdsWhich m_holdsMany m_bodies m_ran m_actKind m_actN m_actA m_isParted []) H := by rw [ev49]; exact hP
          have hD : va_D A (oMM C e0 e1 e2 e3 e4 e5 e6 e7 e8 e9 e10 e11 e12 e13 e14 e15 v49 m_held m_aside m_before m_isHeld m_tape m_taped v40 v41 v42 v43 v44 m_due m_firsts m_rows m_rowN m_sortOf m_sizeOf m_numbers m_holdsWhat m_holdsWhich m_holdsMany m_bodies m_ran m_actKind m_actN m_actA m_isParted []) := by rw [ev49]; exact hD
          refine lv_aload_n hx hb dX6_touchHere_132 rfl (lv_at hl 3 rfl) ?_
          refine va_get (D := D) (ci := 6) (v := .ref e1) (C := RX6) (T := TX6) (N := 28) hx hb hts hi_RX6 hown hK hP 0 rfl rfl 0 (by decide) (hts (.fieldLink RX6 7 "TravelMarksModel" "s" "[I") (List.mem_of_getElem? (i := 5) rfl)) (fun _ h9 => h9) rfl dX6_touchHere_133 ?_
          refine lv_bipush (v := 13) hx hb dX6_touchHere_136 rfl ?_
          refine lv_iload_n hx hb dX6_touchHere_138 rfl (lv_at hl 2 rfl) ?_
          refine lv_iadd hx hb dX6_touchHere_139 ?_
          refine lv_iconst (v := 1) hx hb dX6_touchHere_140 rfl ?_
          refine lv_iload_n hx hb dX6_touchHere_141 rfl (lv_at hl 0 rfl) ?_
          refine lv_iadd hx hb dX6_touchHere_142 ?_
          obtain ⟨t50, et50, hf⟩ := lj_e hf
          refine lv_ren et50 ?_
          obtain ⟨hi51, hf⟩ := ckA_e hf
          refine va_iast hx hb hK hP hD hS 1 0 rfl rfl hi51 dX6_touchHere_143 (fun H locs hP hD hS => ?_)
          obtain ⟨v52, ev52, hf⟩ := lj_e hf
          have hP : va_P D vwCl (oMM C e0 e1 e2 e3 e4 e5 e6 e7 e8 e9 e10 e11 e12 e13 e14 e15 v52 m_held m_aside m_before m_isHeld m_tape m_taped v40 v41 v42 v43 v44 m_due m_firsts m_rows m_rowN m_sortOf m_sizeOf m_numbers m_holdsWhat m_holdsWhich m_holdsMany m_bodies m_ran m_actKind m_actN m_actA m_isParted []) H := by rw [ev52]; exact hP
          have hD : va_D A (oMM C e0 e1 e2 e3 e4 e5 e6 e7 e8 e9 e10 e11 e12 e13 e14 e15 v52 m_held m_aside m_before m_isHeld m_tape m_taped v40 v41 v42 v43 v44 m_due m_firsts m_rows m_rowN m_sortOf m_sizeOf m_numbers m_holdsWhat m_holdsWhich m_holdsMany m_bodies m_ran m_actKind m_actN m_actA m_isParted []) := by rw [ev52]; exact hD
          cases hf
          exact krv hQ hAe hx hb hr hlocks hP hD hK hS dX6_touchHere_144
      obtain ⟨j53, hj53, hf⟩ := lj_e hf
      have Hj53 : ∀ (H : Heap) (locs : List Loc) (ls : Array Slot), va_P D vwCl (oMM C e0 e1 e2 e3 e4 e5 e6 e7 e8 e9 e10 e11 e12 e13 e14 e15 m_s m_held m_aside m_before m_isHeld m_tape m_taped v31 v32 v33 v34 v35 m_due m_firsts m_rows m_rowN m_sortOf m_sizeOf m_numbers m_holdsWhat m_holdsWhich m_holdsMany m_bodies m_ran m_actKind m_actN m_actA m_isParted []) H → va_D A (oMM C e0 e1 e2 e3 e4 e5 e6 e7 e8 e9 e10 e11 e12 e13 e14 e15 m_s m_held m_aside m_before m_isHeld m_tape m_taped v31 v32 v33 v34 v35 m_due m_firsts m_rows m_rowN m_sortOf m_sizeOf m_numbers m_holdsWhat m_holdsWhich m_holdsMany m_bodies m_ran m_actKind m_actN m_actA m_isParted []) → va_S A s.heap H locs → lv_has ls 4 [(3, .int v34), (2, .int v18), (1, .int v4), (0, .ref e0)] → j53 = some (m_s', m_token', m_from', m_to', m_value', m_isWrong') → W p l e (headSpec wsX6_touchHere (rmX6_touchHere)).room s m (List.toArray [Value.ref e0]) below meth c H locs 0 0 Q (F0 m 109 ls [.ref e0]) := by
        intro H locs ls hP hD hS hl hf
        rw [hj53] at hf
        refine lv_iconst (v := 0) hx hb dX6_touchHere_109 rfl ?_
        exact Hj39 0 H locs ls hP hD hS (lv_sub hl [0, 1, 2, 3] rfl) hf
      refine lv_if_eq (tgt := 109) hx hb dX6_touchHere_94 (by decide) (fun c54 => ?_) (fun c54 => ?_)
      · replace hf := if_te c54 hf
        exact Hj53 H locs ls hP hD hS (lv_sub hl [0, 1, 2, 3] rfl) hf
      · replace hf := if_fe c54 hf
        refine lv_aload_n hx hb dX6_touchHere_97 rfl (lv_at hl 3 rfl) ?_
        refine va_get (D := D) (ci := 6) (v := .int v34) (C := RX6) (T := TX6) (N := 28) hx hb hts hi_RX6 hown hK hP 0 rfl rfl 10 (by decide) (hts (.fieldLink RX6 90 "TravelMarksModel" "value" "I") (List.mem_of_getElem? (i := 1) rfl)) (fun _ h9 => h9) rfl dX6_touchHere_98 ?_
        refine lv_iload_n hx hb dX6_touchHere_101 rfl (lv_at hl 1 rfl) ?_
        refine lv_icmp_eq (tgt := 109) hx hb dX6_touchHere_102 (by decide) (fun c55 => ?_) (fun c55 => ?_)
        · replace hf := if_te c55 hf
          exact Hj53 H locs ls hP hD hS (lv_sub hl [0, 1, 2, 3] rfl) hf
        · replace hf := if_fe c55 hf
          refine lv_iconst (v := 1) hx hb dX6_touchHere_105 rfl ?_
          refine lv_goto (tgt := 110) hx hb dX6_touchHere_106 (by decide) ?_
          exact Hj39 1 H locs ls hP hD hS (lv_sub hl [0, 1, 2, 3] rfl) hf
    obtain ⟨j56, hj56, hf⟩ := lj_e hf
    have Hj56 : ∀ (H : Heap) (locs : List Loc) (ls : Array Slot), va_P D vwCl (oMM C e0 e1 e2 e3 e4 e5 e6 e7 e8 e9 e10 e11 e12 e13 e14 e15 m_s m_held m_aside m_before m_isHeld m_tape m_taped v7 v8 v9 v10 v11 m_due m_firsts m_rows m_rowN m_sortOf m_sizeOf m_numbers m_holdsWhat m_holdsWhich m_holdsMany m_bodies m_ran m_actKind m_actN m_actA m_isParted []) H → va_D A (oMM C e0 e1 e2 e3 e4 e5 e6 e7 e8 e9 e10 e11 e12 e13 e14 e15 m_s m_held m_aside m_before m_isHeld m_tape m_taped v7 v8 v9 v10 v11 m_due m_firsts m_rows m_rowN m_sortOf m_sizeOf m_numbers m_holdsWhat m_holdsWhich m_holdsMany m_bodies m_ran m_actKind m_actN m_actA m_isParted []) → va_S A s.heap H locs → lv_has ls 4 [(1, .int v4), (0, .ref e0)] → j56 = some (m_s', m_token', m_from', m_to', m_value', m_isWrong') → W p l e (headSpec wsX6_touchHere (rmX6_touchHere)).room s m (List.toArray [Value.ref e0]) below meth c H locs 0 0 Q (F0 m 45 ls [.ref e0]) := by
      intro H locs ls hP hD hS hl hf
      rw [hj56] at hf
      refine lv_iconst (v := 0) hx hb dX6_touchHere_45 rfl ?_
      exact Hj14 0 H locs ls hP hD hS (lv_sub hl [0, 1] rfl) hf
    refine lv_icmp_ne (tgt := 45) hx hb dX6_touchHere_25 (by decide) (fun c57 => ?_) (fun c57 => ?_)
    · replace hf := if_fe c57 hf
      exact Hj56 H locs ls hP hD hS (lv_sub hl [0, 1] rfl) hf
    · replace hf := if_te c57 hf
      refine lv_aload_n hx hb dX6_touchHere_28 rfl (lv_at hl 1 rfl) ?_
      refine lv_aload_n hx hb dX6_touchHere_29 rfl (lv_at hl 1 rfl) ?_
      refine va_get (D := D) (ci := 6) (v := .int v8) (C := RX6) (T := TX6) (N := 28) hx hb hts hi_RX6 hown hK hP 0 rfl rfl 8 (by decide) (hts (.fieldLink RX6 73 "TravelMarksModel" "from" "I") (List.mem_of_getElem? (i := 3) rfl)) (fun _ h9 => h9) rfl dX6_touchHere_30 ?_
      obtain ⟨r58, h59, hf⟩ := ob1_e hf
      refine kmi (w1 := (oMM C e0 e1 e2 e3 e4 e5 e6 e7 e8 e9 e10 e11 e12 e13 e14 e15 m_s m_held m_aside m_before m_isHeld m_tape m_taped v7 v8 v9 v10 v11 m_due m_firsts m_rows m_rowN m_sortOf m_sizeOf m_numbers m_holdsWhat m_holdsWhich m_holdsMany m_bodies m_ran m_actKind m_actN m_actA m_isParted [])) (va_runV (As := [.int v8]) (rest := [.ref e0]) ⟨hx, hb, hml, hown, hts⟩ (c_X6_byteAt l E D C e0 e1 e2 e3 e4 e5 e6 e7 e8 e9 e10 e11 e12 e13 e14 e15 H.size m_s m_held m_aside m_before m_isHeld m_tape m_taped v7 v8 v9 v10 v11 m_due m_firsts m_rows m_rowN m_sortOf m_sizeOf m_numbers m_holdsWhat m_holdsWhich m_holdsMany m_bodies m_ran m_actKind m_actN m_actA m_isParted v8 r58 h59) (cwV 1 hts gX6_touchHere_X6_byteAt rfl rfl rfl hdX6_byteAt ⟨Nat.le_of_ble_eq_true rfl, Nat.le_of_ble_eq_true rfl⟩) (kpreM hP hD hK hS hE hA 0 rfl rfl rfl) rfl rfl hl.1 rfl (lv_room (Nat.le_of_ble_eq_true rfl)) dX6_touchHere_33 ⟨Nat.zero_le _, Nat.zero_le _⟩) hP hD hS hA rfl (fun H locs hP hD hS => ?_)
      refine lv_bipush (v := 58) hx hb dX6_touchHere_36 rfl ?_
      refine lv_icmp_ne (tgt := 45) hx hb dX6_touchHere_38 (by decide) (fun c60 => ?_) (fun c60 => ?_)
      · replace hf := if_fe c60 hf
        exact Hj56 H locs ls hP hD hS (lv_sub hl [0, 1] rfl) hf
      · replace hf := if_te c60 hf
        refine lv_iconst (v := 1) hx hb dX6_touchHere_41 rfl ?_
        refine lv_goto (tgt := 46) hx hb dX6_touchHere_42 (by decide) ?_
        exact Hj14 1 H locs ls hP hD hS (lv_sub hl [0, 1] rfl) hf
  exact main _ _ hP hD hS

