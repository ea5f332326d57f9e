def rmX6_begins : Room := { frames := 0, cells := 0, slots := 0, locals := 0 }
theorem hdX6_begins : yX6_begins.cls = RX6 ∧ yX6_begins.cls ≠ "java/lang/invoke/MethodHandle" ∧ yX6_begins.cls ≠ "java/lang/invoke/VarHandle" ∧ (parseMethodDescriptor yX6_begins.desc).map (fun d => d.parameters.length) = some 0 := by decide +kernel
set_option maxHeartbeats 40000000 in
set_option maxRecDepth 100000 in
theorem c_X6_begins (l : Launch) (E : Nat → Nat) (D : va_G) (C : Nat → ClassId) (e0 e1 e2 e3 e4 e5 e6 e7 e8 e9 e10 e11 e12 e13 e14 e15 : Nat) (sz : Nat) (N : Nat) (m_s : Nat → Int32) (m_held : Nat → Int32) (m_aside : Nat → Int32) (m_before : Nat → Int32) (m_isHeld : Int32) (m_tape : Nat → Int32) (m_taped : Int32) (m_token : Int32) (m_from : Int32) (m_to : Int32) (m_value : Int32) (m_isWrong : Int32) (m_due : Nat → Int32) (m_firsts : Nat → Int32) (m_rows : Nat → Int32) (m_rowN : Int32) (m_sortOf : Nat → Int32) (m_sizeOf : Nat → Int32) (m_numbers : Nat → Int32) (m_holdsWhat : Nat → Int32) (m_holdsWhich : Nat → Int32) (m_holdsMany : Nat → Int32) (m_bodies : Nat → Int32) (m_ran : Int32) (m_actKind : Int32) (m_actN : Int32) (m_actA : Int32) (m_isParted : Int32)  (m_s' : Nat → Int32) (hf : f_X6_begins N m_s = some m_s') : Met l yX6_begins wsX6_begins rmX6_begins (PC E D C [.ref e0] (oMM C e0 e1 e2 e3 e4 e5 e6 e7 e8 e9 e10 e11 e12 e13 e14 e15 m_s m_held m_aside m_before m_isHeld m_tape m_taped m_token m_from m_to m_value m_isWrong m_due m_firsts m_rows m_rowN m_sortOf m_sizeOf m_numbers m_holdsWhat m_holdsWhich m_holdsMany m_bodies m_ran m_actKind m_actN m_actA m_isParted []) sz) (QV D C (oMM C e0 e1 e2 e3 e4 e5 e6 e7 e8 e9 e10 e11 e12 e13 e14 e15 m_s m_held m_aside m_before m_isHeld m_tape m_taped m_token m_from m_to m_value m_isWrong m_due m_firsts m_rows m_rowN m_sortOf m_sizeOf m_numbers m_holdsWhat m_holdsWhich m_holdsMany m_bodies m_ran m_actKind m_actN m_actA m_isParted []) (oMM C e0 e1 e2 e3 e4 e5 e6 e7 e8 e9 e10 e11 e12 e13 e14 e15 (m_s') m_held m_aside m_before m_isHeld m_tape m_taped m_token m_from m_to m_value m_isWrong m_due m_firsts m_rows m_rowN m_sortOf m_sizeOf m_numbers m_holdsWhat m_holdsWhich m_holdsMany m_bodies m_ran m_actKind m_actN m_actA m_isParted []) sz) 0 0 (va_A (oMM C e0 e1 e2 e3 e4 e5 e6 e7 e8 e9 e10 e11 e12 e13 e14 e15 m_s m_held m_aside m_before m_isHeld m_tape m_taped m_token m_from m_to m_value m_isWrong m_due m_firsts m_rows m_rowN m_sortOf m_sizeOf m_numbers m_holdsWhat m_holdsWhich m_holdsMany m_bodies m_ran m_actKind m_actN m_actA m_isParted []) sz) := by
  refine Met.ofW (cc := cX6_begins) (maxL := 3) (ret := none) (by decide) rfl ?_
  intro p e s m args below meth c s₁ B hml hv
  obtain ⟨rfl, hsz, hP, hK, hD0, hE⟩ := hv
  have hx := B.exec
  have hb := B.bytes
  have hr := B.returns
  have hts := atoms_spec (ws := wsX6_begins) B.pre
  have hown : s.vm.findClass RX6 = some m.cls := findClass_of_methodNamed B.named
  have hlocks := B.notSynchronized
  subst hsz
  have hi_RX6 : ∀ w ∈ wsX60, w ∈ wsX6_begins := fun _ h => List.mem_cons_of_mem _ (List.mem_append_right _ h)
  have hD := hD0.self (sz := s.heap.size)
  obtain ⟨A, hAe⟩ := nm_ex (va_A (oMM C e0 e1 e2 e3 e4 e5 e6 e7 e8 e9 e10 e11 e12 e13 e14 e15 m_s m_held m_aside m_before m_isHeld m_tape m_taped m_token m_from m_to m_value m_isWrong m_due m_firsts m_rows m_rowN m_sortOf m_sizeOf m_numbers m_holdsWhat m_holdsWhich m_holdsMany m_bodies m_ran m_actKind m_actN m_actA m_isParted []) s.heap.size)
  rw [← hAe] at hD hE ⊢
  have hA : ∀ q : Nat, s.heap.size ≤ q → A q := fun q h => by rw [hAe]; exact Or.inr h
  have hS : va_S A s.heap s.heap [] := va_S.rf
  have hl := lv_entry ([.ref e0]) (n := 3) (Nat.le_of_ble_eq_true rfl)
  rw [lg_entry_eq]
  generalize (lg_sl ([.ref e0]) ++ List.replicate (3 - (lg_sl ([.ref e0])).length) Slot.unset).toArray = ls at hl ⊢
  have hl : lv_has ls 3 [(0, .ref e0)] := hl
  obtain ⟨Q, hQ⟩ := nm_ex (MQ below (QV D C (oMM C e0 e1 e2 e3 e4 e5 e6 e7 e8 e9 e10 e11 e12 e13 e14 e15 m_s m_held m_aside m_before m_isHeld m_tape m_taped m_token m_from m_to m_value m_isWrong m_due m_firsts m_rows m_rowN m_sortOf m_sizeOf m_numbers m_holdsWhat m_holdsWhich m_holdsMany m_bodies m_ran m_actKind m_actN m_actA m_isParted []) (oMM C e0 e1 e2 e3 e4 e5 e6 e7 e8 e9 e10 e11 e12 e13 e14 e15 (m_s') m_held m_aside m_before m_isHeld m_tape m_taped m_token m_from m_to m_value m_isWrong m_due m_firsts m_rows m_rowN m_sortOf m_sizeOf m_numbers m_holdsWhat m_holdsWhich m_holdsMany m_bodies m_ran m_actKind m_actN m_actA m_isParted []) s.heap.size) (List.toArray [Value.ref e0]) s 0 0 A)
  show W p l e (headSpec wsX6_begins (rmX6_begins)).room s m (List.toArray [Value.ref e0]) below meth c s.heap [] 0 0 (MQ below (QV D C (oMM C e0 e1 e2 e3 e4 e5 e6 e7 e8 e9 e10 e11 e12 e13 e14 e15 m_s m_held m_aside m_before m_isHeld m_tape m_taped m_token m_from m_to m_value m_isWrong m_due m_firsts m_rows m_rowN m_sortOf m_sizeOf m_numbers m_holdsWhat m_holdsWhich m_holdsMany m_bodies m_ran m_actKind m_actN m_actA m_isParted []) (oMM C e0 e1 e2 e3 e4 e5 e6 e7 e8 e9 e10 e11 e12 e13 e14 e15 (m_s') m_held m_aside m_before m_isHeld m_tape m_taped m_token m_from m_to m_value m_isWrong m_due m_firsts m_rows m_rowN m_sortOf m_sizeOf m_numbers m_holdsWhat m_holdsWhich m_holdsMany m_bodies m_ran m_actKind m_actN m_actA m_isParted []) s.heap.size) (List.toArray [Value.ref e0]) s 0 0 A) _
  rw [← hQ]
  unfold f_X6_begins at hf
  have main : ∀ (H : Heap) (locs : List Loc), va_P D vwCl (oMM C e0 e1 e2 e3 e4 e5 e6 e7 e8 e9 e10 e11 e12 e13 e14 e15 m_s m_held m_aside m_before m_isHeld m_tape m_taped m_token m_from m_to m_value m_isWrong m_due m_firsts m_rows m_rowN m_sortOf m_sizeOf m_numbers m_holdsWhat m_holdsWhich m_holdsMany m_bodies m_ran m_actKind m_actN m_actA m_isParted []) H → va_D A (oMM C e0 e1 e2 e3 e4 e5 e6 e7 e8 e9 e10 e11 e12 e13 e14 e15 m_s m_held m_aside m_before m_isHeld m_tape m_taped m_token m_from m_to m_value m_isWrong m_due m_firsts m_rows m_rowN m_sortOf m_sizeOf m_numbers m_holdsWhat m_holdsWhich m_holdsMany m_bodies m_ran m_actKind m_actN m_actA m_isParted []) → va_S A s.heap H locs → W p l e (headSpec wsX6_begins (rmX6_begins)).room s m (List.toArray [Value.ref e0]) below meth c H locs 0 0 Q (F0 m 0 ls []) := by
    intro H locs hP hD hS
    refine lv_aload_n hx hb dX6_begins_0 rfl (lv_at hl 0 rfl) ?_
    refine va_get (D := D) (ci := 6) (v := .ref e1) (C := RX6) (T := TX6) (N := 28) hx hb hts hi_RX6 hown hK hP 0 rfl rfl 0 (by decide) (hts (.fieldLink RX6 7 "TravelMarksModel" "s" "[I") (List.mem_of_getElem? (i := 1) rfl)) (fun _ h9 => h9) rfl dX6_begins_1 ?_
    refine lv_iconst (v := 2) hx hb dX6_begins_4 rfl ?_
    refine va_iald hx hb hK hP 1 0 rfl rfl (i := 2) (vin (by decide)) dX6_begins_5 ?_
    refine lv_ren (show (m_s 2) = m_s (Int32.toNatClampNeg 2) from rfl) ?_
    obtain ⟨t1, et1, hf⟩ := lj_e hf
    refine lv_ren et1 ?_
    refine lv_istore_n (lv' := [(1, .int t1), (0, .ref e0)]) hx hb dX6_begins_6 rfl hl (by decide) rfl (fun ls hl => ?_)
    refine lv_iconst (v := 0) hx hb dX6_begins_7 rfl ?_
    refine lv_istore_n (lv' := [(2, .int 0), (1, .int t1), (0, .ref e0)]) hx hb dX6_begins_8 rfl hl (by decide) rfl (fun ls hl => ?_)
    obtain ⟨j3, hj3, hf⟩ := lj_e hf
    have Hj3 : ∀ (v2 : Nat → Int32) (H : Heap) (locs : List Loc) (ls : Array Slot), va_P D vwCl (oMM C e0 e1 e2 e3 e4 e5 e6 e7 e8 e9 e10 e11 e12 e13 e14 e15 v2 m_held m_aside m_before m_isHeld m_tape m_taped m_token m_from m_to m_value m_isWrong m_due m_firsts m_rows m_rowN m_sortOf m_sizeOf m_numbers m_holdsWhat m_holdsWhich m_holdsMany m_bodies m_ran m_actKind m_actN m_actA m_isParted []) H → va_D A (oMM C e0 e1 e2 e3 e4 e5 e6 e7 e8 e9 e10 e11 e12 e13 e14 e15 v2 m_held m_aside m_before m_isHeld m_tape m_taped m_token m_from m_to m_value m_isWrong m_due m_firsts m_rows m_rowN m_sortOf m_sizeOf m_numbers m_holdsWhat m_holdsWhich m_holdsMany m_bodies m_ran m_actKind m_actN m_actA m_isParted []) → va_S A s.heap H locs → lv_has ls 3 [(1, .int t1), (0, .ref e0)] → j3 v2 = some m_s' → W p l e (headSpec wsX6_begins (rmX6_begins)).room s m (List.toArray [Value.ref e0]) below meth c H locs 0 0 Q (F0 m 28 ls []) := by
      intro v2 H locs ls hP hD hS hl hf
      rw [hj3] at hf
      refine lv_aload_n hx hb dX6_begins_28 rfl (lv_at hl 1 rfl) ?_
      refine va_get (D := D) (ci := 6) (v := .ref e1) (C := RX6) (T := TX6) (N := 28) hx hb hts hi_RX6 hown hK hP 0 rfl rfl 0 (by decide) (hts (.fieldLink RX6 7 "TravelMarksModel" "s" "[I") (List.mem_of_getElem? (i := 1) rfl)) (fun _ h9 => h9) rfl dX6_begins_29 ?_
      refine lv_iconst (v := 2) hx hb dX6_begins_32 rfl ?_
      refine lv_iload_n hx hb dX6_begins_33 rfl (lv_at hl 0 rfl) ?_
      refine va_iast hx hb hK hP hD hS 1 0 rfl rfl (i := 2) (vin (by decide)) dX6_begins_34 (fun H locs hP hD hS => ?_)
      obtain ⟨v4, ev4, hf⟩ := lj_e hf
      have hP : va_P D vwCl (oMM C e0 e1 e2 e3 e4 e5 e6 e7 e8 e9 e10 e11 e12 e13 e14 e15 v4 m_held m_aside m_before m_isHeld m_tape m_taped m_token m_from m_to m_value m_isWrong m_due m_firsts m_rows m_rowN m_sortOf m_sizeOf m_numbers m_holdsWhat m_holdsWhich m_holdsMany m_bodies m_ran m_actKind m_actN m_actA m_isParted []) H := by rw [ev4]; exact hP
      have hD : va_D A (oMM C e0 e1 e2 e3 e4 e5 e6 e7 e8 e9 e10 e11 e12 e13 e14 e15 v4 m_held m_aside m_before m_isHeld m_tape m_taped m_token m_from m_to m_value m_isWrong m_due m_firsts m_rows m_rowN m_sortOf m_sizeOf m_numbers m_holdsWhat m_holdsWhich m_holdsMany m_bodies m_ran m_actKind m_actN m_actA m_isParted []) := by rw [ev4]; exact hD
      refine lv_aload_n hx hb dX6_begins_35 rfl (lv_at hl 1 rfl) ?_
      refine va_get (D := D) (ci := 6) (v := .ref e1) (C := RX6) (T := TX6) (N := 28) hx hb hts hi_RX6 hown hK hP 0 rfl rfl 0 (by decide) (hts (.fieldLink RX6 7 "TravelMarksModel" "s" "[I") (List.mem_of_getElem? (i := 1) rfl)) (fun _ h9 => h9) rfl dX6_begins_36 ?_
      refine lv_iconst (v := 3) hx hb dX6_begins_39 rfl ?_
      refine lv_iconst (v := 3) hx hb dX6_begins_40 rfl ?_
      refine va_iast hx hb hK hP hD hS 1 0 rfl rfl (i := 3) (vin (by decide)) dX6_begins_41 (fun H locs hP hD hS => ?_)
      obtain ⟨v5, ev5, hf⟩ := lj_e hf
      have hP : va_P D vwCl (oMM C e0 e1 e2 e3 e4 e5 e6 e7 e8 e9 e10 e11 e12 e13 e14 e15 v5 m_held m_aside m_before m_isHeld m_tape m_taped m_token m_from m_to m_value m_isWrong m_due m_firsts m_rows m_rowN m_sortOf m_sizeOf m_numbers m_holdsWhat m_holdsWhich m_holdsMany m_bodies m_ran m_actKind m_actN m_actA m_isParted []) H := by rw [ev5]; exact hP
      have hD : va_D A (oMM C e0 e1 e2 e3 e4 e5 e6 e7 e8 e9 e10 e11 e12 e13 e14 e15 v5 m_held m_aside m_before m_isHeld m_tape m_taped m_token m_from m_to m_value m_isWrong m_due m_firsts m_rows m_rowN m_sortOf m_sizeOf m_numbers m_holdsWhat m_holdsWhich m_holdsMany m_bodies m_ran m_actKind m_actN m_actA m_isParted []) := by rw [ev5]; exact hD
      refine lv_aload_n hx hb dX6_begins_42 rfl (lv_at hl 1 rfl) ?_
      refine va_get (D := D) (ci := 6) (v := .ref e1) (C := RX6) (T := TX6) (N := 28) hx hb hts hi_RX6 hown hK hP 0 rfl rfl 0 (by decide) (hts (.fieldLink RX6 7 "TravelMarksModel" "s" "[I") (List.mem_of_getElem? (i := 1) rfl)) (fun _ h9 => h9) rfl dX6_begins_43 ?_
      refine lv_iconst (v := 4) hx hb dX6_begins_46 rfl ?_
      refine lv_iconst (v := 1) hx hb dX6_begins_47 rfl ?_
      refine va_iast hx hb hK hP hD hS 1 0 rfl rfl (i := 4) (vin (by decide)) dX6_begins_48 (fun H locs hP hD hS => ?_)
      obtain ⟨v6, ev6, hf⟩ := lj_e hf
      have hP : va_P D vwCl (oMM C e0 e1 e2 e3 e4 e5 e6 e7 e8 e9 e10 e11 e12 e13 e14 e15 v6 m_held m_aside m_before m_isHeld m_tape m_taped m_token m_from m_to m_value m_isWrong m_due m_firsts m_rows m_rowN m_sortOf m_sizeOf m_numbers m_holdsWhat m_holdsWhich m_holdsMany m_bodies m_ran m_actKind m_actN m_actA m_isParted []) H := by rw [ev6]; exact hP
      have hD : va_D A (oMM C e0 e1 e2 e3 e4 e5 e6 e7 e8 e9 e10 e11 e12 e13 e14 e15 v6 m_held m_aside m_before m_isHeld m_tape m_taped m_token m_from m_to m_value m_isWrong m_due m_firsts m_rows m_rowN m_sortOf m_sizeOf m_numbers m_holdsWhat m_holdsWhich m_holdsMany m_bodies m_ran m_actKind m_actN m_actA m_isParted []) := by rw [ev6]; exact hD
      refine lv_aload_n hx hb dX6_begins_49 rfl (lv_at hl 1 rfl) ?_
      refine va_get (D := D) (ci := 6) (v := .ref e1) (C := RX6) (T := TX6) (N := 28) hx hb hts hi_RX6 hown hK hP 0 rfl rfl 0 (by decide) (hts (.fieldLink RX6 7 "TravelMarksModel" "s" "[I") (List.mem_of_getElem? (i := 1) rfl)) (fun _ h9 => h9) rfl dX6_begins_50 ?_
      refine lv_iconst (v := 5) hx hb dX6_begins_53 rfl ?_
      refine lv_iconst (v := 5) hx hb dX6_begins_54 rfl ?_
      refine va_iast hx hb hK hP hD hS 1 0 rfl rfl (i := 5) (vin (by decide)) dX6_begins_55 (fun H locs hP hD hS => ?_)
      obtain ⟨v7, ev7, hf⟩ := lj_e hf
      have hP : va_P D vwCl (oMM C e0 e1 e2 e3 e4 e5 e6 e7 e8 e9 e10 e11 e12 e13 e14 e15 v7 m_held m_aside m_before m_isHeld m_tape m_taped m_token m_from m_to m_value m_isWrong m_due m_firsts m_rows m_rowN m_sortOf m_sizeOf m_numbers m_holdsWhat m_holdsWhich m_holdsMany m_bodies m_ran m_actKind m_actN m_actA m_isParted []) H := by rw [ev7]; exact hP
      have hD : va_D A (oMM C e0 e1 e2 e3 e4 e5 e6 e7 e8 e9 e10 e11 e12 e13 e14 e15 v7 m_held m_aside m_before m_isHeld m_tape m_taped m_token m_from m_to m_value m_isWrong m_due m_firsts m_rows m_rowN m_sortOf m_sizeOf m_numbers m_holdsWhat m_holdsWhich m_holdsMany m_bodies m_ran m_actKind m_actN m_actA m_isParted []) := by rw [ev7]; exact hD
      refine lv_aload_n hx hb dX6_begins_56 rfl (lv_at hl 1 rfl) ?_
      refine va_get (D := D) (ci := 6) (v := .ref e1) (C := RX6) (T := TX6) (N := 28) hx hb hts hi_RX6 hown hK hP 0 rfl rfl 0 (by decide) (hts (.fieldLink RX6 7 "TravelMarksModel" "s" "[I") (List.mem_of_getElem? (i := 1) rfl)) (fun _ h9 => h9) rfl dX6_begins_57 ?_
      refine lv_bipush (v := 6) hx hb dX6_begins_60 rfl ?_
      refine lv_bipush (v := 20) hx hb dX6_begins_62 rfl ?_
      refine va_iast hx hb hK hP hD hS 1 0 rfl rfl (i := 6) (vin (by decide)) dX6_begins_64 (fun H locs hP hD hS => ?_)
      obtain ⟨v8, ev8, hf⟩ := lj_e hf
      have hP : va_P D vwCl (oMM C e0 e1 e2 e3 e4 e5 e6 e7 e8 e9 e10 e11 e12 e13 e14 e15 v8 m_held m_aside m_before m_isHeld m_tape m_taped m_token m_from m_to m_value m_isWrong m_due m_firsts m_rows m_rowN m_sortOf m_sizeOf m_numbers m_holdsWhat m_holdsWhich m_holdsMany m_bodies m_ran m_actKind m_actN m_actA m_isParted []) H := by rw [ev8]; exact hP
      have hD : va_D A (oMM C e0 e1 e2 e3 e4 e5 e6 e7 e8 e9 e10 e11 e12 e13 e14 e15 v8 m_held m_aside m_before m_isHeld m_tape m_taped m_token m_from m_to m_value m_isWrong m_due m_firsts m_rows m_rowN m_sortOf m_sizeOf m_numbers m_holdsWhat m_holdsWhich m_holdsMany m_bodies m_ran m_actKind m_actN m_actA m_isParted []) := by rw [ev8]; exact hD
      cases hf
      exact krv hQ hAe hx hb hr hlocks hP hD hK hS dX6_begins_65
    have hL9 : ∀ (n : Nat) (i9 : Int32) (v10 : Nat → Int32) (H : Heap) (locs : List Loc) (ls : Array Slot), va_P D vwCl (oMM C e0 e1 e2 e3 e4 e5 e6 e7 e8 e9 e10 e11 e12 e13 e14 e15 v10 m_held m_aside m_before m_isHeld m_tape m_taped m_token m_from m_to m_value m_isWrong m_due m_firsts m_rows m_rowN m_sortOf m_sizeOf m_numbers m_holdsWhat m_holdsWhich m_holdsMany m_bodies m_ran m_actKind m_actN m_actA m_isParted []) H → va_D A (oMM C e0 e1 e2 e3 e4 e5 e6 e7 e8 e9 e10 e11 e12 e13 e14 e15 v10 m_held m_aside m_before m_isHeld m_tape m_taped m_token m_from m_to m_value m_isWrong m_due m_firsts m_rows m_rowN m_sortOf m_sizeOf m_numbers m_holdsWhat m_holdsWhich m_holdsMany m_bodies m_ran m_actKind m_actN m_actA m_isParted []) → va_S A s.heap H locs → lv_has ls 3 [(2, .int i9), (1, .int t1), (0, .ref e0)] → f_X6_begins_L9 j3 n i9 v10 = some m_s' → W p l e (headSpec wsX6_begins (rmX6_begins)).room s m (List.toArray [Value.ref e0]) below meth c H locs 0 0 Q (F0 m 9 ls []) := by
      intro n
      induction n with
      | zero =>
        intro i9 v10 H locs ls hP hD hS hl hf
        exact absurd hf (fun h => by cases h)
      | succ n ih =>
        intro i9 v10 H locs ls hP hD hS hl hf
        rw [f_X6_begins_L9] at hf
        refine lv_iload_n hx hb dX6_begins_9 rfl (lv_at hl 0 rfl) ?_
        refine lv_bipush (v := 43) hx hb dX6_begins_10 rfl ?_
        refine lv_icmp_ge (tgt := 28) hx hb dX6_begins_12 (by decide) (fun c11 => ?_) (fun c11 => ?_)
        · replace hf := if_te c11 hf
          exact Hj3 v10 H locs ls hP hD hS (lv_sub hl [1, 2] rfl) hf
        · replace hf := if_fe c11 hf
          refine lv_aload_n hx hb dX6_begins_15 rfl (lv_at hl 2 rfl) ?_
          refine va_get (D := D) (ci := 6) (v := .ref e1) (C := RX6) (T := TX6) (N := 28) hx hb hts hi_RX6 hown hK hP 0 rfl rfl 0 (by decide) (hts (.fieldLink RX6 7 "TravelMarksModel" "s" "[I") (List.mem_of_getElem? (i := 1) rfl)) (fun _ h9 => h9) rfl dX6_begins_16 ?_
          refine lv_iload_n hx hb dX6_begins_19 rfl (lv_at hl 0 rfl) ?_
          refine lv_iconst (v := 0) hx hb dX6_begins_20 rfl ?_
          obtain ⟨hi12, hf⟩ := ckA_e hf
          refine va_iast hx hb hK hP hD hS 1 0 rfl rfl hi12 dX6_begins_21 (fun H locs hP hD hS => ?_)
          obtain ⟨v13, ev13, hf⟩ := lj_e hf
          have hP : va_P D vwCl (oMM C e0 e1 e2 e3 e4 e5 e6 e7 e8 e9 e10 e11 e12 e13 e14 e15 v13 m_held m_aside m_before m_isHeld m_tape m_taped m_token m_from m_to m_value m_isWrong m_due m_firsts m_rows m_rowN m_sortOf m_sizeOf m_numbers m_holdsWhat m_holdsWhich m_holdsMany m_bodies m_ran m_actKind m_actN m_actA m_isParted []) H := by rw [ev13]; exact hP
          have hD : va_D A (oMM C e0 e1 e2 e3 e4 e5 e6 e7 e8 e9 e10 e11 e12 e13 e14 e15 v13 m_held m_aside m_before m_isHeld m_tape m_taped m_token m_from m_to m_value m_isWrong m_due m_firsts m_rows m_rowN m_sortOf m_sizeOf m_numbers m_holdsWhat m_holdsWhich m_holdsMany m_bodies m_ran m_actKind m_actN m_actA m_isParted []) := by rw [ev13]; exact hD
          obtain ⟨t14, et14, hf⟩ := lj_e hf
          refine lv_iinc (v := t14) (lv' := [(2, .int t14), (1, .int t1), (0, .ref e0)]) hx hb dX6_begins_22 hl (k := 0) rfl (by rw [et14]; rfl) (by decide) rfl (fun ls hl => ?_)
          refine lv_goto (tgt := 9) hx hb dX6_begins_25 (by decide) ?_
          exact ih t14 v13 H locs ls hP hD hS (lv_sub hl [0, 1, 2] rfl) hf
    exact hL9 N 0 m_s H locs ls hP hD hS (lv_sub hl [0, 1, 2] rfl) hf
  exact main _ _ hP hD hS

def rmX6_isIn : Room := { frames := 0, cells := 0, slots := 0, locals := 0 }
theorem hdX6_isIn : yX6_isIn.cls ≠ "java/lang/invoke/MethodHandle" ∧ yX6_isIn.cls ≠ "java/lang/invoke/VarHandle" ∧ (parseMethodDescriptor yX6_isIn.desc).map (fun d => d.parameters.length) = some 3 := by decide +kernel
set_option maxHeartbeats 40000000 in
set_option maxRecDepth 100000 in
theorem c_X6_isIn (l : Launch) (E : Nat → Nat) (D : va_G) (C : Nat → ClassId) (sz : Nat)  (x0 : Int64) (x1 : Int64) (x2 : Int64) (r : Int32) (hf : f_X6_isIn x0 x1 x2 = r) : Met l yX6_isIn wsX6_isIn rmX6_isIn (PC E D C [.long x0, .long x1, .long x2] [] sz) (QZ D C [] [] sz r) 0 0 (va_A [] sz) := by
  refine Met.ofW (cc := cX6_isIn) (maxL := 6) (ret := (some .boolean)) (by decide) rfl ?_
  intro p e s m args below meth c s₁ B hml hv
  obtain ⟨rfl, hsz, hP, hK, hD0, hE⟩ := hv
  have hx := B.exec
  have hb := B.bytes
  have hr := B.returns
  have hts := atoms_spec (ws := wsX6_isIn) B.pre
  have hown : s.vm.findClass RX6 = some m.cls := findClass_of_methodNamed B.named
  have hlocks := B.notSynchronized
  subst hsz
  have hD := hD0.self (sz := s.heap.size)
  obtain ⟨A, hAe⟩ := nm_ex (va_A [] s.heap.size)
  rw [← hAe] at hD hE ⊢
  have hA : ∀ q : Nat, s.heap.size ≤ q → A q := fun q h => by rw [hAe]; exact Or.inr h
  have hS : va_S A s.heap s.heap [] := va_S.rf
  have hl := lv_entry ([.long x0, .long x1, .long x2]) (n := 6) (Nat.le_of_ble_eq_true rfl)
  rw [lg_entry_eq]
  generalize (lg_sl ([.long x0, .long x1, .long x2]) ++ List.replicate (6 - (lg_sl ([.long x0, .long x1, .long x2])).length) Slot.unset).toArray = ls at hl ⊢
  have hl : lv_has ls 6 [(0, .long x0), (2, .long x1), (4, .long x2)] := hl
  obtain ⟨Q, hQ⟩ := nm_ex (MQ below (QZ D C [] [] s.heap.size r) (List.toArray [Value.long x0, Value.long x1, Value.long x2]) s 0 0 A)
  show W p l e (headSpec wsX6_isIn (rmX6_isIn)).room s m (List.toArray [Value.long x0, Value.long x1, Value.long x2]) below meth c s.heap [] 0 0 (MQ below (QZ D C [] [] s.heap.size r) (List.toArray [Value.long x0, Value.long x1, Value.long x2]) s 0 0 A) _
  rw [← hQ]
  unfold f_X6_isIn at hf
  have main : ∀ (H : Heap) (locs : List Loc), va_P D vwCl [] H → va_D A [] → va_S A s.heap H locs → W p l e (headSpec wsX6_isIn (rmX6_isIn)).room s m (List.toArray [Value.long x0, Value.long x1, Value.long x2]) below meth c H locs 0 0 Q (F0 m 0 ls []) := by
    intro H locs hP hD hS
    refine lv_lload_n hx hb dX6_isIn_0 rfl (lv_at hl 0 rfl) ?_
    refine lv_lload_n hx hb dX6_isIn_1 rfl (lv_at hl 1 rfl) ?_
    refine W.lcmp hx hb dX6_isIn_2 ?_
    refine lv_if_lt (tgt := 17) hx hb dX6_isIn_3 (by decide) (fun c1 => ?_) (fun c1 => ?_)
    · replace hf := if_te c1 hf
      refine lv_iconst (v := 0) hx hb dX6_isIn_17 rfl ?_
      cases hf
      exact krz hQ hAe hx hb hr hlocks zb_0 hP hD hK hS dX6_isIn_18
    · replace hf := if_fe c1 hf
      refine lv_lload_n hx hb dX6_isIn_6 rfl (lv_at hl 0 rfl) ?_
      refine lv_lload hx hb dX6_isIn_7 (lv_at hl 2 rfl) ?_
      refine W.lcmp hx hb dX6_isIn_9 ?_
      refine lv_if_gt (tgt := 17) hx hb dX6_isIn_10 (by decide) (fun c2 => ?_) (fun c2 => ?_)
      · replace hf := if_te c2 hf
        refine lv_iconst (v := 0) hx hb dX6_isIn_17 rfl ?_
        cases hf
        exact krz hQ hAe hx hb hr hlocks zb_0 hP hD hK hS dX6_isIn_18
      · replace hf := if_fe c2 hf
        refine lv_iconst (v := 1) hx hb dX6_isIn_13 rfl ?_
        refine lv_goto (tgt := 18) hx hb dX6_isIn_14 (by decide) ?_
        cases hf
        exact krz hQ hAe hx hb hr hlocks zb_1 hP hD hK hS dX6_isIn_18
  exact main _ _ hP hD hS

def rmX6_isPerson : Room := { frames := 0, cells := 0, slots := 0, locals := 0 }
theorem hdX6_isPerson : yX6_isPerson.cls ≠ "java/lang/invoke/MethodHandle" ∧ yX6_isPerson.cls ≠ "java/lang/invoke/VarHandle" ∧ (parseMethodDescriptor yX6_isPerson.desc).map (fun d => d.parameters.length) = some 1 := by decide +kernel
set_option maxHeartbeats 40000000 in
set_option maxRecDepth 100000 in
theorem c_X6_isPerson (l : Launch) (E : Nat → Nat) (D : va_G) (C : Nat → ClassId) (sz : Nat)  (x0 : Int32) (r : Int32) (hf : f_X6_isPerson x0 = r) : Met l yX6_isPerson wsX6_isPerson rmX6_isPerson (PC E D C [.int x0] [] sz) (QZ D C [] [] sz r) 0 0 (va_A [] sz) := by
  refine Met.ofW (cc := cX6_isPerson) (maxL := 1) (ret := (some .boolean)) (by decide) rfl ?_
  intro p e s m args below meth c s₁ B hml hv
  obtain ⟨rfl, hsz, hP, hK, hD0, hE⟩ := hv
  have hx := B.exec
  have hb := B.bytes
  have hr := B.returns
  have hts := atoms_spec (ws := wsX6_isPerson) B.pre
  have hown : s.vm.findClass RX6 = some m.cls := findClass_of_methodNamed B.named
  have hlocks := B.notSynchronized
  subst hsz
  have hD := hD0.self (sz := s.heap.size)
  obtain ⟨A, hAe⟩ := nm_ex (va_A [] s.heap.size)
  rw [← hAe] at hD hE ⊢
  have hA : ∀ q : Nat, s.heap.size ≤ q → A q := fun q h => by rw [hAe]; exact Or.inr h
  have hS : va_S A s.heap s.heap [] := va_S.rf
  have hl := lv_entry ([.int x0]) (n := 1) (Nat.le_of_ble_eq_true rfl)
  rw [lg_entry_eq]
  generalize (lg_sl ([.int x0]) ++ List.replicate (1 - (lg_sl ([.int x0])).length) Slot.unset).toArray = ls at hl ⊢
  have hl : lv_has ls 1 [(0, .int x0)] := hl
  obtain ⟨Q, hQ⟩ := nm_ex (MQ below (QZ D C [] [] s.heap.size r) (List.toArray [Value.int x0]) s 0 0 A)
  show W p l e (headSpec wsX6_isPerson (rmX6_isPerson)).room s m (List.toArray [Value.int x0]) below meth c s.heap [] 0 0 (MQ below (QZ D C [] [] s.heap.size r) (List.toArray [Value.int x0]) s 0 0 A) _
  rw [← hQ]
  unfold f_X6_isPerson at hf
  have main : ∀ (H : Heap) (locs : List Loc), va_P D vwCl [] H → va_D A [] → va_S A s.heap H locs → W p l e (headSpec wsX6_isPerson (rmX6_isPerson)).room s m (List.toArray [Value.int x0]) below meth c H locs 0 0 Q (F0 m 0 ls []) := by
    intro H locs hP hD hS
    refine lv_iload_n hx hb dX6_isPerson_0 rfl (lv_at hl 0 rfl) ?_
    refine lv_if_lt (tgt := 14) hx hb dX6_isPerson_1 (by decide) (fun c1 => ?_) (fun c1 => ?_)
    · replace hf := if_te c1 hf
      refine lv_iconst (v := 0) hx hb dX6_isPerson_14 rfl ?_
      cases hf
      exact krz hQ hAe hx hb hr hlocks zb_0 hP hD hK hS dX6_isPerson_15
    · replace hf := if_fe c1 hf
      refine lv_iload_n hx hb dX6_isPerson_4 rfl (lv_at hl 0 rfl) ?_
      refine lv_bipush (v := 8) hx hb dX6_isPerson_5 rfl ?_
      refine lv_icmp_ge (tgt := 14) hx hb dX6_isPerson_7 (by decide) (fun c2 => ?_) (fun c2 => ?_)
      · replace hf := if_te c2 hf
        refine lv_iconst (v := 0) hx hb dX6_isPerson_14 rfl ?_
        cases hf
        exact krz hQ hAe hx hb hr hlocks zb_0 hP hD hK hS dX6_isPerson_15
      · replace hf := if_fe c2 hf
        refine lv_iconst (v := 1) hx hb dX6_isPerson_10 rfl ?_
        refine lv_goto (tgt := 15) hx hb dX6_isPerson_11 (by decide) ?_
        cases hf
        exact krz hQ hAe hx hb hr hlocks zb_1 hP hD hK hS dX6_isPerson_15
  exact main _ _ hP hD hS

def rmX6_isRest : Room := { frames := 0, cells := 0, slots := 0, locals := 0 }
theorem hdX6_isRest : yX6_isRest.cls ≠ "java/lang/invoke/MethodHandle" ∧ yX6_isRest.cls ≠ "java/lang/invoke/VarHandle" ∧ (parseMethodDescriptor yX6_isRest.desc).map (fun d => d.parameters.length) = some 1 := by decide +kernel
set_option maxHeartbeats 40000000 in
set_option maxRecDepth 100000 in
theorem c_X6_isRest (l : Launch) (E : Nat → Nat) (D : va_G) (C : Nat → ClassId) (sz : Nat)  (x0 : Int32) (r : Int32) (hf : f_X6_isRest x0 = r) : Met l yX6_isRest wsX6_isRest rmX6_isRest (PC E D C [.int x0] [] sz) (QZ D C [] [] sz r) 0 0 (va_A [] sz) := by
  refine Met.ofW (cc := cX6_isRest) (maxL := 1) (ret := (some .boolean)) (by decide) rfl ?_
  intro p e s m args below meth c s₁ B hml hv
  obtain ⟨rfl, hsz, hP, hK, hD0, hE⟩ := hv
  have hx := B.exec
  have hb := B.bytes
  have hr := B.returns
  have hts := atoms_spec (ws := wsX6_isRest) B.pre
  have hown : s.vm.findClass RX6 = some m.cls := findClass_of_methodNamed B.named
  have hlocks := B.notSynchronized
  subst hsz
  have hD := hD0.self (sz := s.heap.size)
  obtain ⟨A, hAe⟩ := nm_ex (va_A [] s.heap.size)
  rw [← hAe] at hD hE ⊢
  have hA : ∀ q : Nat, s.heap.size ≤ q → A q := fun q h => by rw [hAe]; exact Or.inr h
  have hS : va_S A s.heap s.heap [] := va_S.rf
  have hl := lv_entry ([.int x0]) (n := 1) (Nat.le_of_ble_eq_true rfl)
  rw [lg_entry_eq]
  generalize (lg_sl ([.int x0]) ++ List.replicate (1 - (lg_sl ([.int x0])).length) Slot.unset).toArray = ls at hl ⊢
  have hl : lv_has ls 1 [(0, .int x0)] := hl
  obtain ⟨Q, hQ⟩ := nm_ex (MQ below (QZ D C [] [] s.heap.size r) (List.toArray [Value.int x0]) s 0 0 A)
  show W p l e (headSpec wsX6_isRest (rmX6_isRest)).room s m (List.toArray [Value.int x0]) below meth c s.heap [] 0 0 (MQ below (QZ D C [] [] s.heap.size r) (List.toArray [Value.int x0]) s 0 0 A) _
  rw [← hQ]
  unfold f_X6_isRest at hf
  have main : ∀ (H : Heap) (locs : List Loc), va_P D vwCl [] H → va_D A [] → va_S A s.heap H locs → W p l e (headSpec wsX6_isRest (rmX6_isRest)).room s m (List.toArray [Value.int x0]) below meth c H locs 0 0 Q (F0 m 0 ls []) := by
    intro H locs hP hD hS
    refine lv_iload_n hx hb dX6_isRest_0 rfl (lv_at hl 0 rfl) ?_
    refine lv_if_lt (tgt := 14) hx hb dX6_isRest_1 (by decide) (fun c1 => ?_) (fun c1 => ?_)
    · replace hf := if_te c1 hf
      refine lv_iconst (v := 0) hx hb dX6_isRest_14 rfl ?_
      cases hf
      exact krz hQ hAe hx hb hr hlocks zb_0 hP hD hK hS dX6_isRest_15
    · replace hf := if_fe c1 hf
      refine lv_iload_n hx hb dX6_isRest_4 rfl (lv_at hl 0 rfl) ?_
      refine lv_bipush (v := 6) hx hb dX6_isRest_5 rfl ?_
      refine lv_icmp_ge (tgt := 14) hx hb dX6_isRest_7 (by decide) (fun c2 => ?_) (fun c2 => ?_)
      · replace hf := if_te c2 hf
        refine lv_iconst (v := 0) hx hb dX6_isRest_14 rfl ?_
        cases hf
        exact krz hQ hAe hx hb hr hlocks zb_0 hP hD hK hS dX6_isRest_15
      · replace hf := if_fe c2 hf
        refine lv_iconst (v := 1) hx hb dX6_isRest_10 rfl ?_
        refine lv_goto (tgt := 15) hx hb dX6_isRest_11 (by decide) ?_
        cases hf
        exact krz hQ hAe hx hb hr hlocks zb_1 hP hD hK hS dX6_isRest_15
  exact main _ _ hP hD hS

def rmX6_isOne : Room := { frames := 0, cells := 0, slots := 0, locals := 0 }
theorem hdX6_isOne : yX6_isOne.cls = RX6 ∧ yX6_isOne.cls ≠ "java/lang/invoke/MethodHandle" ∧ yX6_isOne.cls ≠ "java/lang/invoke/VarHandle" ∧ (parseMethodDescriptor yX6_isOne.desc).map (fun d => d.parameters.length) = some 1 := by decide +kernel
set_option maxHeartbeats 40000000 in
set_option maxRecDepth 100000 in
theorem c_X6_isOne (l : Launch) (E : Nat → Nat) (D : va_G) (C : Nat → ClassId) (e0 e1 e2 e3 e4 e5 e6 e7 e8 e9 e10 e11 e12 e13 e14 e15 : Nat) (sz : Nat) (m_s : Nat → Int32) (m_held : Nat → Int32) (m_aside : Nat → Int32) (m_before : Nat → Int32) (m_isHeld : Int32) (m_tape : Nat → Int32) (m_taped : Int32) (m_token : Int32) (m_from : Int32) (m_to : Int32) (m_value : Int32) (m_isWrong : Int32) (m_due : Nat → Int32) (m_firsts : Nat → Int32) (m_rows : Nat → Int32) (m_rowN : Int32) (m_sortOf : Nat → Int32) (m_sizeOf : Nat → Int32) (m_numbers : Nat → Int32) (m_holdsWhat : Nat → Int32) (m_holdsWhich : Nat → Int32) (m_holdsMany : Nat → Int32) (m_bodies : Nat → Int32) (m_ran : Int32) (m_actKind : Int32) (m_actN : Int32) (m_actA : Int32) (m_isParted : Int32) (x0 : Int32) (r : Int32) (hf : f_X6_isOne m_s x0 = r) : Met l yX6_isOne wsX6_isOne rmX6_isOne (PC E D C [.ref e0, .int x0] (oMM C e0 e1 e2 e3 e4 e5 e6 e7 e8 e9 e10 e11 e12 e13 e14 e15 m_s m_held m_aside m_before m_isHeld m_tape m_taped m_token m_from m_to m_value m_isWrong m_due m_firsts m_rows m_rowN m_sortOf m_sizeOf m_numbers m_holdsWhat m_holdsWhich m_holdsMany m_bodies m_ran m_actKind m_actN m_actA m_isParted []) sz) (QZ D C (oMM C e0 e1 e2 e3 e4 e5 e6 e7 e8 e9 e10 e11 e12 e13 e14 e15 m_s m_held m_aside m_before m_isHeld m_tape m_taped m_token m_from m_to m_value m_isWrong m_due m_firsts m_rows m_rowN m_sortOf m_sizeOf m_numbers m_holdsWhat m_holdsWhich m_holdsMany m_bodies m_ran m_actKind m_actN m_actA m_isParted []) (oMM C e0 e1 e2 e3 e4 e5 e6 e7 e8 e9 e10 e11 e12 e13 e14 e15 m_s m_held m_aside m_before m_isHeld m_tape m_taped m_token m_from m_to m_value m_isWrong m_due m_firsts m_rows m_rowN m_sortOf m_sizeOf m_numbers m_holdsWhat m_holdsWhich m_holdsMany m_bodies m_ran m_actKind m_actN m_actA m_isParted []) sz r) 0 0 (va_A (oMM C e0 e1 e2 e3 e4 e5 e6 e7 e8 e9 e10 e11 e12 e13 e14 e15 m_s m_held m_aside m_before m_isHeld m_tape m_taped m_token m_from m_to m_value m_isWrong m_due m_firsts m_rows m_rowN m_sortOf m_sizeOf m_numbers m_holdsWhat m_holdsWhich m_holdsMany m_bodies m_ran m_actKind m_actN m_actA m_isParted []) sz) := by
  refine Met.ofW (cc := cX6_isOne) (maxL := 2) (ret := (some .boolean)) (by decide) rfl ?_
  intro p e s m args below meth c s₁ B hml hv
  obtain ⟨rfl, hsz, hP, hK, hD0, hE⟩ := hv
  have hx := B.exec
  have hb := B.bytes
  have hr := B.returns
  have hts := atoms_spec (ws := wsX6_isOne) B.pre
  have hown : s.vm.findClass RX6 = some m.cls := findClass_of_methodNamed B.named
  have hlocks := B.notSynchronized
  subst hsz
  have hi_RX6 : ∀ w ∈ wsX60, w ∈ wsX6_isOne := fun _ h => List.mem_cons_of_mem _ (List.mem_append_right _ h)
  have hD := hD0.self (sz := s.heap.size)
  obtain ⟨A, hAe⟩ := nm_ex (va_A (oMM C e0 e1 e2 e3 e4 e5 e6 e7 e8 e9 e10 e11 e12 e13 e14 e15 m_s m_held m_aside m_before m_isHeld m_tape m_taped m_token m_from m_to m_value m_isWrong m_due m_firsts m_rows m_rowN m_sortOf m_sizeOf m_numbers m_holdsWhat m_holdsWhich m_holdsMany m_bodies m_ran m_actKind m_actN m_actA m_isParted []) s.heap.size)
  rw [← hAe] at hD hE ⊢
  have hA : ∀ q : Nat, s.heap.size ≤ q → A q := fun q h => by rw [hAe]; exact Or.inr h
  have hS : va_S A s.heap s.heap [] := va_S.rf
  have hl := lv_entry ([.ref e0, .int x0]) (n := 2) (Nat.le_of_ble_eq_true rfl)
  rw [lg_entry_eq]
  generalize (lg_sl ([.ref e0, .int x0]) ++ List.replicate (2 - (lg_sl ([.ref e0, .int x0])).length) Slot.unset).toArray = ls at hl ⊢
  have hl : lv_has ls 2 [(0, .ref e0), (1, .int x0)] := hl
  obtain ⟨Q, hQ⟩ := nm_ex (MQ below (QZ D C (oMM C e0 e1 e2 e3 e4 e5 e6 e7 e8 e9 e10 e11 e12 e13 e14 e15 m_s m_held m_aside m_before m_isHeld m_tape m_taped m_token m_from m_to m_value m_isWrong m_due m_firsts m_rows m_rowN m_sortOf m_sizeOf m_numbers m_holdsWhat m_holdsWhich m_holdsMany m_bodies m_ran m_actKind m_actN m_actA m_isParted []) (oMM C e0 e1 e2 e3 e4 e5 e6 e7 e8 e9 e10 e11 e12 e13 e14 e15 m_s m_held m_aside m_before m_isHeld m_tape m_taped m_token m_from m_to m_value m_isWrong m_due m_firsts m_rows m_rowN m_sortOf m_sizeOf m_numbers m_holdsWhat m_holdsWhich m_holdsMany m_bodies m_ran m_actKind m_actN m_actA m_isParted []) s.heap.size r) (List.toArray [Value.ref e0, Value.int x0]) s 0 0 A)
  show W p l e (headSpec wsX6_isOne (rmX6_isOne)).room s m (List.toArray [Value.ref e0, Value.int x0]) below meth c s.heap [] 0 0 (MQ below (QZ D C (oMM C e0 e1 e2 e3 e4 e5 e6 e7 e8 e9 e10 e11 e12 e13 e14 e15 m_s m_held m_aside m_before m_isHeld m_tape m_taped m_token m_from m_to m_value m_isWrong m_due m_firsts m_rows m_rowN m_sortOf m_sizeOf m_numbers m_holdsWhat m_holdsWhich m_holdsMany m_bodies m_ran m_actKind m_actN m_actA m_isParted []) (oMM C e0 e1 e2 e3 e4 e5 e6 e7 e8 e9 e10 e11 e12 e13 e14 e15 m_s m_held m_aside m_before m_isHeld m_tape m_taped m_token m_from m_to m_value m_isWrong m_due m_firsts m_rows m_rowN m_sortOf m_sizeOf m_numbers m_holdsWhat m_holdsWhich m_holdsMany m_bodies m_ran m_actKind m_actN m_actA m_isParted []) s.heap.size r) (List.toArray [Value.ref e0, Value.int x0]) s 0 0 A) _
  rw [← hQ]
  unfold f_X6_isOne at hf
  have main : ∀ (H : Heap) (locs : List Loc), va_P D vwCl (oMM C e0 e1 e2 e3 e4 e5 e6 e7 e8 e9 e10 e11 e12 e13 e14 e15 m_s m_held m_aside m_before m_isHeld m_tape m_taped m_token m_from m_to m_value m_isWrong m_due m_firsts m_rows m_rowN m_sortOf m_sizeOf m_numbers m_holdsWhat m_holdsWhich m_holdsMany m_bodies m_ran m_actKind m_actN m_actA m_isParted []) H → va_D A (oMM C e0 e1 e2 e3 e4 e5 e6 e7 e8 e9 e10 e11 e12 e13 e14 e15 m_s m_held m_aside m_before m_isHeld m_tape m_taped m_token m_from m_to m_value m_isWrong m_due m_firsts m_rows m_rowN m_sortOf m_sizeOf m_numbers m_holdsWhat m_holdsWhich m_holdsMany m_bodies m_ran m_actKind m_actN m_actA m_isParted []) → va_S A s.heap H locs → W p l e (headSpec wsX6_isOne (rmX6_isOne)).room s m (List.toArray [Value.ref e0, Value.int x0]) below meth c H locs 0 0 Q (F0 m 0 ls []) := by
    intro H locs hP hD hS
    refine lv_iload_n hx hb dX6_isOne_0 rfl (lv_at hl 1 rfl) ?_
    refine lv_if_lt (tgt := 18) hx hb dX6_isOne_1 (by decide) (fun c1 => ?_) (fun c1 => ?_)
    · replace hf := if_te c1 hf
      refine lv_iconst (v := 0) hx hb dX6_isOne_18 rfl ?_
      cases hf
      exact krz hQ hAe hx hb hr hlocks zb_0 hP hD hK hS dX6_isOne_19
    · replace hf := if_fe c1 hf
      refine lv_iload_n hx hb dX6_isOne_4 rfl (lv_at hl 1 rfl) ?_
      refine lv_aload_n hx hb dX6_isOne_5 rfl (lv_at hl 0 rfl) ?_
      refine va_get (D := D) (ci := 6) (v := .ref e1) (C := RX6) (T := TX6) (N := 28) hx hb hts hi_RX6 hown hK hP 0 rfl rfl 0 (by decide) (hts (.fieldLink RX6 7 "TravelMarksModel" "s" "[I") (List.mem_of_getElem? (i := 1) rfl)) (fun _ h9 => h9) rfl dX6_isOne_6 ?_
      refine lv_iconst (v := 0) hx hb dX6_isOne_9 rfl ?_
      refine va_iald hx hb hK hP 1 0 rfl rfl (i := 0) (vin (by decide)) dX6_isOne_10 ?_
      refine lv_ren (show (m_s 0) = m_s (Int32.toNatClampNeg 0) from rfl) ?_
      refine lv_icmp_ge (tgt := 18) hx hb dX6_isOne_11 (by decide) (fun c2 => ?_) (fun c2 => ?_)
      · replace hf := if_te c2 hf
        refine lv_iconst (v := 0) hx hb dX6_isOne_18 rfl ?_
        cases hf
        exact krz hQ hAe hx hb hr hlocks zb_0 hP hD hK hS dX6_isOne_19
      · replace hf := if_fe c2 hf
        refine lv_iconst (v := 1) hx hb dX6_isOne_14 rfl ?_
        refine lv_goto (tgt := 19) hx hb dX6_isOne_15 (by decide) ?_
        cases hf
        exact krz hQ hAe hx hb hr hlocks zb_1 hP hD hK hS dX6_isOne_19
  exact main _ _ hP hD hS

def rmX6_its : Room := { frames := 0, cells := 0, slots := 0, locals := 0 }
theorem hdX6_its : yX6_its.cls = RX6 ∧ yX6_its.cls ≠ "java/lang/invoke/MethodHandle" ∧ yX6_its.cls ≠ "java/lang/invoke/VarHandle" ∧ (parseMethodDescriptor yX6_its.desc).map (fun d => d.parameters.length) = some 2 := by decide +kernel
set_option maxHeartbeats 40000000 in
set_option maxRecDepth 100000 in
theorem c_X6_its (l : Launch) (E : Nat → Nat) (D : va_G) (C : Nat → ClassId) (e0 e1 e2 e3 e4 e5 e6 e7 e8 e9 e10 e11 e12 e13 e14 e15 : Nat) (sz : Nat) (m_s : Nat → Int32) (m_held : Nat → Int32) (m_aside : Nat → Int32) (m_before : Nat → Int32) (m_isHeld : Int32) (m_tape : Nat → Int32) (m_taped : Int32) (m_token : Int32) (m_from : Int32) (m_to : Int32) (m_value : Int32) (m_isWrong : Int32) (m_due : Nat → Int32) (m_firsts : Nat → Int32) (m_rows : Nat → Int32) (m_rowN : Int32) (m_sortOf : Nat → Int32) (m_sizeOf : Nat → Int32) (m_numbers : Nat → Int32) (m_holdsWhat : Nat → Int32) (m_holdsWhich : Nat → Int32) (m_holdsMany : Nat → Int32) (m_bodies : Nat → Int32) (m_ran : Int32) (m_actKind : Int32) (m_actN : Int32) (m_actA : Int32) (m_isParted : Int32) (x0 : Int32) (x1 : Int32) (r : Int32) (hf : f_X6_its m_s x0 x1 = some r) : Met l yX6_its wsX6_its rmX6_its (PC E D C [.ref e0, .int x0, .int x1] (oMM C e0 e1 e2 e3 e4 e5 e6 e7 e8 e9 e10 e11 e12 e13 e14 e15 m_s m_held m_aside m_before m_isHeld m_tape m_taped m_token m_from m_to m_value m_isWrong m_due m_firsts m_rows m_rowN m_sortOf m_sizeOf m_numbers m_holdsWhat m_holdsWhich m_holdsMany m_bodies m_ran m_actKind m_actN m_actA m_isParted []) sz) (QI D C (oMM C e0 e1 e2 e3 e4 e5 e6 e7 e8 e9 e10 e11 e12 e13 e14 e15 m_s m_held m_aside m_before m_isHeld m_tape m_taped m_token m_from m_to m_value m_isWrong m_due m_firsts m_rows m_rowN m_sortOf m_sizeOf m_numbers m_holdsWhat m_holdsWhich m_holdsMany m_bodies m_ran m_actKind m_actN m_actA m_isParted []) (oMM C e0 e1 e2 e3 e4 e5 e6 e7 e8 e9 e10 e11 e12 e13 e14 e15 m_s m_held m_aside m_before m_isHeld m_tape m_taped m_token m_from m_to m_value m_isWrong m_due m_firsts m_rows m_rowN m_sortOf m_sizeOf m_numbers m_holdsWhat m_holdsWhich m_holdsMany m_bodies m_ran m_actKind m_actN m_actA m_isParted []) sz r) 0 0 (va_A (oMM C e0 e1 e2 e3 e4 e5 e6 e7 e8 e9 e10 e11 e12 e13 e14 e15 m_s m_held m_aside m_before m_isHeld m_tape m_taped m_token m_from m_to m_value m_isWrong m_due m_firsts m_rows m_rowN m_sortOf m_sizeOf m_numbers m_holdsWhat m_holdsWhich m_holdsMany m_bodies m_ran m_actKind m_actN m_actA m_isParted []) sz) := by
  refine Met.ofW (cc := cX6_its) (maxL := 3) (ret := (some .int)) (by decide) rfl ?_
  intro p e s m args below meth c s₁ B hml hv
  obtain ⟨rfl, hsz, hP, hK, hD0, hE⟩ := hv
  have hx := B.exec
  have hb := B.bytes
  have hr := B.returns
  have hts := atoms_spec (ws := wsX6_its) B.pre
  have hown : s.vm.findClass RX6 = some m.cls := findClass_of_methodNamed B.named
  have hlocks := B.notSynchronized
  subst hsz
  have hi_RX6 : ∀ w ∈ wsX60, w ∈ wsX6_its := fun _ h => List.mem_cons_of_mem _ (List.mem_append_right _ h)
  have hD := hD0.self (sz := s.heap.size)
  obtain ⟨A, hAe⟩ := nm_ex (va_A (oMM C e0 e1 e2 e3 e4 e5 e6 e7 e8 e9 e10 e11 e12 e13 e14 e15 m_s m_held m_aside m_before m_isHeld m_tape m_taped m_token m_from m_to m_value m_isWrong m_due m_firsts m_rows m_rowN m_sortOf m_sizeOf m_numbers m_holdsWhat m_holdsWhich m_holdsMany m_bodies m_ran m_actKind m_actN m_actA m_isParted []) s.heap.size)
  rw [← hAe] at hD hE ⊢
  have hA : ∀ q : Nat, s.heap.size ≤ q → A q := fun q h => by rw [hAe]; exact Or.inr h
  have hS : va_S A s.heap s.heap [] := va_S.rf
  have hl := lv_entry ([.ref e0, .int x0, .int x1]) (n := 3) (Nat.le_of_ble_eq_true rfl)
  rw [lg_entry_eq]
  generalize (lg_sl ([.ref e0, .int x0, .int x1]) ++ List.replicate (3 - (lg_sl ([.ref e0, .int x0, .int x1])).length) Slot.unset).toArray = ls at hl ⊢
  have hl : lv_has ls 3 [(0, .ref e0), (1, .int x0), (2, .int x1)] := hl
  obtain ⟨Q, hQ⟩ := nm_ex (MQ below (QI D C (oMM C e0 e1 e2 e3 e4 e5 e6 e7 e8 e9 e10 e11 e12 e13 e14 e15 m_s m_held m_aside m_before m_isHeld m_tape m_taped m_token m_from m_to m_value m_isWrong m_due m_firsts m_rows m_rowN m_sortOf m_sizeOf m_numbers m_holdsWhat m_holdsWhich m_holdsMany m_bodies m_ran m_actKind m_actN m_actA m_isParted []) (oMM C e0 e1 e2 e3 e4 e5 e6 e7 e8 e9 e10 e11 e12 e13 e14 e15 m_s m_held m_aside m_before m_isHeld m_tape m_taped m_token m_from m_to m_value m_isWrong m_due m_firsts m_rows m_rowN m_sortOf m_sizeOf m_numbers m_holdsWhat m_holdsWhich m_holdsMany m_bodies m_ran m_actKind m_actN m_actA m_isParted []) s.heap.size r) (List.toArray [Value.ref e0, Value.int x0, Value.int x1]) s 0 0 A)
  show W p l e (headSpec wsX6_its (rmX6_its)).room s m (List.toArray [Value.ref e0, Value.int x0, Value.int x1]) below meth c s.heap [] 0 0 (MQ below (QI D C (oMM C e0 e1 e2 e3 e4 e5 e6 e7 e8 e9 e10 e11 e12 e13 e14 e15 m_s m_held m_aside m_before m_isHeld m_tape m_taped m_token m_from m_to m_value m_isWrong m_due m_firsts m_rows m_rowN m_sortOf m_sizeOf m_numbers m_holdsWhat m_holdsWhich m_holdsMany m_bodies m_ran m_actKind m_actN m_actA m_isParted []) (oMM C e0 e1 e2 e3 e4 e5 e6 e7 e8 e9 e10 e11 e12 e13 e14 e15 m_s m_held m_aside m_before m_isHeld m_tape m_taped m_token m_from m_to m_value m_isWrong m_due m_firsts m_rows m_rowN m_sortOf m_sizeOf m_numbers m_holdsWhat m_holdsWhich m_holdsMany m_bodies m_ran m_actKind m_actN m_actA m_isParted []) s.heap.size r) (List.toArray [Value.ref e0, Value.int x0, Value.int x1]) s 0 0 A) _
  rw [← hQ]
  unfold f_X6_its at hf
  have main : ∀ (H : Heap) (locs : List Loc), va_P D vwCl (oMM C e0 e1 e2 e3 e4 e5 e6 e7 e8 e9 e10 e11 e12 e13 e14 e15 m_s m_held m_aside m_before m_isHeld m_tape m_taped m_token m_from m_to m_value m_isWrong m_due m_firsts m_rows m_rowN m_sortOf m_sizeOf m_numbers m_holdsWhat m_holdsWhich m_holdsMany m_bodies m_ran m_actKind m_actN m_actA m_isParted []) H → va_D A (oMM C e0 e1 e2 e3 e4 e5 e6 e7 e8 e9 e10 e11 e12 e13 e14 e15 m_s m_held m_aside m_before m_isHeld m_tape m_taped m_token m_from m_to m_value m_isWrong m_due m_firsts m_rows m_rowN m_sortOf m_sizeOf m_numbers m_holdsWhat m_holdsWhich m_holdsMany m_bodies m_ran m_actKind m_actN m_actA m_isParted []) → va_S A s.heap H locs → W p l e (headSpec wsX6_its (rmX6_its)).room s m (List.toArray [Value.ref e0, Value.int x0, Value.int x1]) below meth c H locs 0 0 Q (F0 m 0 ls []) := by
    intro H locs hP hD hS
    refine lv_aload_n hx hb dX6_its_0 rfl (lv_at hl 0 rfl) ?_
    refine va_get (D := D) (ci := 6) (v := .ref e1) (C := RX6) (T := TX6) (N := 28) hx hb hts hi_RX6 hown hK hP 0 rfl rfl 0 (by decide) (hts (.fieldLink RX6 7 "TravelMarksModel" "s" "[I") (List.mem_of_getElem? (i := 1) rfl)) (fun _ h9 => h9) rfl dX6_its_1 ?_
    refine lv_bipush (v := 19) hx hb dX6_its_4 rfl ?_
    refine lv_iconst (v := 3) hx hb dX6_its_6 rfl ?_
    refine lv_iload_n hx hb dX6_its_7 rfl (lv_at hl 1 rfl) ?_
    refine lv_imul hx hb dX6_its_8 ?_
    refine lv_iadd hx hb dX6_its_9 ?_
    refine lv_iload_n hx hb dX6_its_10 rfl (lv_at hl 2 rfl) ?_
    refine lv_iadd hx hb dX6_its_11 ?_
    obtain ⟨y2, ey2, hi1, hf⟩ := rdA_x hf
    refine va_iald hx hb hK hP 1 0 rfl rfl hi1 dX6_its_12 ?_
    refine lv_ren ey2 ?_
    cases hf
    exact kri hQ hAe hx hb hr hlocks hP hD hK hS dX6_its_13
  exact main _ _ hP hD hS

def rmX6_becomes : Room := { frames := 0, cells := 0, slots := 0, locals := 0 }
theorem hdX6_becomes : yX6_becomes.cls = RX6 ∧ yX6_becomes.cls ≠ "java/lang/invoke/MethodHandle" ∧ yX6_becomes.cls ≠ "java/lang/invoke/VarHandle" ∧ (parseMethodDescriptor yX6_becomes.desc).map (fun d => d.parameters.length) = some 2 := by decide +kernel
set_option maxHeartbeats 40000000 in
set_option maxRecDepth 100000 in
theorem c_X6_becomes (l : Launch) (E : Nat → Nat) (D : va_G) (C : Nat → ClassId) (e0 e1 e2 e3 e4 e5 e6 e7 e8 e9 e10 e11 e12 e13 e14 e15 : Nat) (sz : Nat) (m_s : Nat → Int32) (m_held : Nat → Int32) (m_aside : Nat → Int32) (m_before : Nat → Int32) (m_isHeld : Int32) (m_tape : Nat → Int32) (m_taped : Int32) (m_token : Int32) (m_from : Int32) (m_to : Int32) (m_value : Int32) (m_isWrong : Int32) (m_due : Nat → Int32) (m_firsts : Nat → Int32) (m_rows : Nat → Int32) (m_rowN : Int32) (m_sortOf : Nat → Int32) (m_sizeOf : Nat → Int32) (m_numbers : Nat → Int32) (m_holdsWhat : Nat → Int32) (m_holdsWhich : Nat → Int32) (m_holdsMany : Nat → Int32) (m_bodies : Nat → Int32) (m_ran : Int32) (m_actKind : Int32) (m_actN : Int32) (m_actA : Int32) (m_isParted : Int32) (x0 : Int32) (x1 : Int32) (r : Int32) (m_s' : Nat → Int32) (hf : f_X6_becomes m_s x0 x1 = some (r, m_s')) : Met l yX6_becomes wsX6_becomes rmX6_becomes (PC E D C [.ref e0, .int x0, .int x1] (oMM C e0 e1 e2 e3 e4 e5 e6 e7 e8 e9 e10 e11 e12 e13 e14 e15 m_s m_held m_aside m_before m_isHeld m_tape m_taped m_token m_from m_to m_value m_isWrong m_due m_firsts m_rows m_rowN m_sortOf m_sizeOf m_numbers m_holdsWhat m_holdsWhich m_holdsMany m_bodies m_ran m_actKind m_actN m_actA m_isParted []) sz) (QI D C (oMM C e0 e1 e2 e3 e4 e5 e6 e7 e8 e9 e10 e11 e12 e13 e14 e15 m_s m_held m_aside m_before m_isHeld m_tape m_taped m_token m_from m_to m_value m_isWrong m_due m_firsts m_rows m_rowN m_sortOf m_sizeOf m_numbers m_holdsWhat m_holdsWhich m_holdsMany m_bodies m_ran m_actKind m_actN m_actA m_isParted []) (oMM C e0 e1 e2 e3 e4 e5 e6 e7 e8 e9 e10 e11 e12 e13 e14 e15 (m_s') m_held m_aside m_before m_isHeld m_tape m_taped m_token m_from m_to m_value m_isWrong m_due m_firsts m_rows m_rowN m_sortOf m_sizeOf m_numbers m_holdsWhat m_holdsWhich m_holdsMany m_bodies m_ran m_actKind m_actN m_actA m_isParted []) sz r) 0 0 (va_A (oMM C e0 e1 e2 e3 e4 e5 e6 e7 e8 e9 e10 e11 e12 e13 e14 e15 m_s m_held m_aside m_before m_isHeld m_tape m_taped m_token m_from m_to m_value m_isWrong m_due m_firsts m_rows m_rowN m_sortOf m_sizeOf m_numbers m_holdsWhat m_holdsWhich m_holdsMany m_bodies m_ran m_actKind m_actN m_actA m_isParted []) sz) := by
  refine Met.ofW (cc := cX6_becomes) (maxL := 4) (ret := (some .int)) (by decide) rfl ?_
  intro p e s m args below meth c s₁ B hml hv
  obtain ⟨rfl, hsz, hP, hK, hD0, hE⟩ := hv
  have hx := B.exec
  have hb := B.bytes
  have hr := B.returns
  have hts := atoms_spec (ws := wsX6_becomes) B.pre
  have hown : s.vm.findClass RX6 = some m.cls := findClass_of_methodNamed B.named
  have hlocks := B.notSynchronized
  subst hsz
  have hi_RX6 : ∀ w ∈ wsX60, w ∈ wsX6_becomes := fun _ h => List.mem_cons_of_mem _ (List.mem_append_right _ h)
  have hD := hD0.self (sz := s.heap.size)
  obtain ⟨A, hAe⟩ := nm_ex (va_A (oMM C e0 e1 e2 e3 e4 e5 e6 e7 e8 e9 e10 e11 e12 e13 e14 e15 m_s m_held m_aside m_before m_isHeld m_tape m_taped m_token m_from m_to m_value m_isWrong m_due m_firsts m_rows m_rowN m_sortOf m_sizeOf m_numbers m_holdsWhat m_holdsWhich m_holdsMany m_bodies m_ran m_actKind m_actN m_actA m_isParted []) s.heap.size)
  rw [← hAe] at hD hE ⊢
  have hA : ∀ q : Nat, s.heap.size ≤ q → A q := fun q h => by rw [hAe]; exact Or.inr h
  have hS : va_S A s.heap s.heap [] := va_S.rf
  have hl := lv_entry ([.ref e0, .int x0, .int x1]) (n := 4) (Nat.le_of_ble_eq_true rfl)
  rw [lg_entry_eq]
  generalize (lg_sl ([.ref e0, .int x0, .int x1]) ++ List.replicate (4 - (lg_sl ([.ref e0, .int x0, .int x1])).length) Slot.unset).toArray = ls at hl ⊢
  have hl : lv_has ls 4 [(0, .ref e0), (1, .int x0), (2, .int x1)] := hl
  obtain ⟨Q, hQ⟩ := nm_ex (MQ below (QI D C (oMM C e0 e1 e2 e3 e4 e5 e6 e7 e8 e9 e10 e11 e12 e13 e14 e15 m_s m_held m_aside m_before m_isHeld m_tape m_taped m_token m_from m_to m_value m_isWrong m_due m_firsts m_rows m_rowN m_sortOf m_sizeOf m_numbers m_holdsWhat m_holdsWhich m_holdsMany m_bodies m_ran m_actKind m_actN m_actA m_isParted []) (oMM C e0 e1 e2 e3 e4 e5 e6 e7 e8 e9 e10 e11 e12 e13 e14 e15 (m_s') m_held m_aside m_before m_isHeld m_tape m_taped m_token m_from m_to m_value m_isWrong m_due m_firsts m_rows m_rowN m_sortOf m_sizeOf m_numbers m_holdsWhat m_holdsWhich m_holdsMany m_bodies m_ran m_actKind m_actN m_actA m_isParted []) s.heap.size r) (List.toArray [Value.ref e0, Value.int x0, Value.int x1]) s 0 0 A)
  show W p l e (headSpec wsX6_becomes (rmX6_becomes)).room s m (List.toArray [Value.ref e0, Value.int x0, Value.int x1]) below meth c s.heap [] 0 0 (MQ below (QI D C (oMM C e0 e1 e2 e3 e4 e5 e6 e7 e8 e9 e10 e11 e12 e13 e14 e15 m_s m_held m_aside m_before m_isHeld m_tape m_taped m_token m_from m_to m_value m_isWrong m_due m_firsts m_rows m_rowN m_sortOf m_sizeOf m_numbers m_holdsWhat m_holdsWhich m_holdsMany m_bodies m_ran m_actKind m_actN m_actA m_isParted []) (oMM C e0 e1 e2 e3 e4 e5 e6 e7 e8 e9 e10 e11 e12 e13 e14 e15 (m_s') m_held m_aside m_before m_isHeld m_tape m_taped m_token m_from m_to m_value m_isWrong m_due m_firsts m_rows m_rowN m_sortOf m_sizeOf m_numbers m_holdsWhat m_holdsWhich m_holdsMany m_bodies m_ran m_actKind m_actN m_actA m_isParted []) s.heap.size r) (List.toArray [Value.ref e0, Value.int x0, Value.int x1]) s 0 0 A) _
  rw [← hQ]
  unfold f_X6_becomes at hf
  have main : ∀ (H : Heap) (locs : List Loc), va_P D vwCl (oMM C e0 e1 e2 e3 e4 e5 e6 e7 e8 e9 e10 e11 e12 e13 e14 e15 m_s m_held m_aside m_before m_isHeld m_tape m_taped m_token m_from m_to m_value m_isWrong m_due m_firsts m_rows m_rowN m_sortOf m_sizeOf m_numbers m_holdsWhat m_holdsWhich m_holdsMany m_bodies m_ran m_actKind m_actN m_actA m_isParted []) H → va_D A (oMM C e0 e1 e2 e3 e4 e5 e6 e7 e8 e9 e10 e11 e12 e13 e14 e15 m_s m_held m_aside m_before m_isHeld m_tape m_taped m_token m_from m_to m_value m_isWrong m_due m_firsts m_rows m_rowN m_sortOf m_sizeOf m_numbers m_holdsWhat m_holdsWhich m_holdsMany m_bodies m_ran m_actKind m_actN m_actA m_isParted []) → va_S A s.heap H locs → W p l e (headSpec wsX6_becomes (rmX6_becomes)).room s m (List.toArray [Value.ref e0, Value.int x0, Value.int x1]) below meth c H locs 0 0 Q (F0 m 0 ls []) := by
    intro H locs hP hD hS
    refine lv_aload_n hx hb dX6_becomes_0 rfl (lv_at hl 0 rfl) ?_
    refine va_get (D := D) (ci := 6) (v := .ref e1) (C := RX6) (T := TX6) (N := 28) hx hb hts hi_RX6 hown hK hP 0 rfl rfl 0 (by decide) (hts (.fieldLink RX6 7 "TravelMarksModel" "s" "[I") (List.mem_of_getElem? (i := 1) rfl)) (fun _ h9 => h9) rfl dX6_becomes_1 ?_
    refine lv_iload_n hx hb dX6_becomes_4 rfl (lv_at hl 1 rfl) ?_
    obtain ⟨y2, ey2, hi1, hf⟩ := rdA_x hf
    refine va_iald hx hb hK hP 1 0 rfl rfl hi1 dX6_becomes_5 ?_
    refine lv_ren ey2 ?_
    refine lv_istore_n (lv' := [(3, .int y2), (0, .ref e0), (1, .int x0), (2, .int x1)]) hx hb dX6_becomes_6 rfl hl (by decide) rfl (fun ls hl => ?_)
    refine lv_aload_n hx hb dX6_becomes_7 rfl (lv_at hl 1 rfl) ?_
    refine va_get (D := D) (ci := 6) (v := .ref e1) (C := RX6) (T := TX6) (N := 28) hx hb hts hi_RX6 hown hK hP 0 rfl rfl 0 (by decide) (hts (.fieldLink RX6 7 "TravelMarksModel" "s" "[I") (List.mem_of_getElem? (i := 1) rfl)) (fun _ h9 => h9) rfl dX6_becomes_8 ?_
    refine lv_iload_n hx hb dX6_becomes_11 rfl (lv_at hl 2 rfl) ?_
    refine lv_iload_n hx hb dX6_becomes_12 rfl (lv_at hl 3 rfl) ?_
    obtain ⟨hi3, hf⟩ := ckA_e hf
    refine va_iast hx hb hK hP hD hS 1 0 rfl rfl hi3 dX6_becomes_13 (fun H locs hP hD hS => ?_)
    obtain ⟨v4, ev4, hf⟩ := lj_e hf
    have hP : va_P D vwCl (oMM C e0 e1 e2 e3 e4 e5 e6 e7 e8 e9 e10 e11 e12 e13 e14 e15 v4 m_held m_aside m_before m_isHeld m_tape m_taped m_token m_from m_to m_value m_isWrong m_due m_firsts m_rows m_rowN m_sortOf m_sizeOf m_numbers m_holdsWhat m_holdsWhich m_holdsMany m_bodies m_ran m_actKind m_actN m_actA m_isParted []) H := by rw [ev4]; exact hP
    have hD : va_D A (oMM C e0 e1 e2 e3 e4 e5 e6 e7 e8 e9 e10 e11 e12 e13 e14 e15 v4 m_held m_aside m_before m_isHeld m_tape m_taped m_token m_from m_to m_value m_isWrong m_due m_firsts m_rows m_rowN m_sortOf m_sizeOf m_numbers m_holdsWhat m_holdsWhich m_holdsMany m_bodies m_ran m_actKind m_actN m_actA m_isParted []) := by rw [ev4]; exact hD
    refine lv_iload_n hx hb dX6_becomes_14 rfl (lv_at hl 0 rfl) ?_
    cases hf
    exact kri hQ hAe hx hb hr hlocks hP hD hK hS dX6_becomes_15
  exact main _ _ hP hD hS

def rmX6_copyRow : Room := { frames := 0, cells := 0, slots := 0, locals := 0 }
theorem hdX6_copyRow : yX6_copyRow.cls ≠ "java/lang/invoke/MethodHandle" ∧ yX6_copyRow.cls ≠ "java/lang/invoke/VarHandle" ∧ (parseMethodDescriptor yX6_copyRow.desc).map (fun d => d.parameters.length) = some 2 := by decide +kernel
set_option maxHeartbeats 40000000 in
set_option maxRecDepth 100000 in
theorem c_X6_copyRow (l : Launch) (E : Nat → Nat) (D : va_G) (C : Nat → ClassId) (b0 b1 : Nat) (sz : Nat) (N : Nat) (w0 : Nat → Int32) (w1 : Nat → Int32)  (w1' : Nat → Int32) (hf : f_X6_copyRow N w0 w1 = some w1') : Met l yX6_copyRow wsX6_copyRow rmX6_copyRow (PC E D C [.ref b0, .ref b1] (oArrI C b0 43 w0 (oArrI C b1 43 w1 [])) sz) (QV D C (oArrI C b0 43 w0 (oArrI C b1 43 w1 [])) (oArrI C b0 43 w0 (oArrI C b1 43 (w1') [])) sz) 0 0 (va_A (oArrI C b0 43 w0 (oArrI C b1 43 w1 [])) sz) := by
  refine Met.ofW (cc := cX6_copyRow) (maxL := 3) (ret := none) (by decide) rfl ?_
  intro p e s m args below meth c s₁ B hml hv
  obtain ⟨rfl, hsz, hP, hK, hD0, hE⟩ := hv
  have hx := B.exec
  have hb := B.bytes
  have hr := B.returns
  have hts := atoms_spec (ws := wsX6_copyRow) B.pre
  have hown : s.vm.findClass RX6 = some m.cls := findClass_of_methodNamed B.named
  have hlocks := B.notSynchronized
  subst hsz
  have hD := hD0.self (sz := s.heap.size)
  obtain ⟨A, hAe⟩ := nm_ex (va_A (oArrI C b0 43 w0 (oArrI C b1 43 w1 [])) s.heap.size)
  rw [← hAe] at hD hE ⊢
  have hA : ∀ q : Nat, s.heap.size ≤ q → A q := fun q h => by rw [hAe]; exact Or.inr h
  have hS : va_S A s.heap s.heap [] := va_S.rf
  have hl := lv_entry ([.ref b0, .ref b1]) (n := 3) (Nat.le_of_ble_eq_true rfl)
  rw [lg_entry_eq]
  generalize (lg_sl ([.ref b0, .ref b1]) ++ List.replicate (3 - (lg_sl ([.ref b0, .ref b1])).length) Slot.unset).toArray = ls at hl ⊢
  have hl : lv_has ls 3 [(0, .ref b0), (1, .ref b1)] := hl
  obtain ⟨Q, hQ⟩ := nm_ex (MQ below (QV D C (oArrI C b0 43 w0 (oArrI C b1 43 w1 [])) (oArrI C b0 43 w0 (oArrI C b1 43 (w1') [])) s.heap.size) (List.toArray [Value.ref b0, Value.ref b1]) s 0 0 A)
  show W p l e (headSpec wsX6_copyRow (rmX6_copyRow)).room s m (List.toArray [Value.ref b0, Value.ref b1]) below meth c s.heap [] 0 0 (MQ below (QV D C (oArrI C b0 43 w0 (oArrI C b1 43 w1 [])) (oArrI C b0 43 w0 (oArrI C b1 43 (w1') [])) s.heap.size) (List.toArray [Value.ref b0, Value.ref b1]) s 0 0 A) _
  rw [← hQ]
  unfold f_X6_copyRow at hf
  have main : ∀ (H : Heap) (locs : List Loc), va_P D vwCl (oArrI C b0 43 w0 (oArrI C b1 43 w1 [])) H → va_D A (oArrI C b0 43 w0 (oArrI C b1 43 w1 [])) → va_S A s.heap H locs → W p l e (headSpec wsX6_copyRow (rmX6_copyRow)).room s m (List.toArray [Value.ref b0, Value.ref b1]) below meth c H locs 0 0 Q (F0 m 0 ls []) := by
    intro H locs hP hD hS
    refine lv_iconst (v := 0) hx hb dX6_copyRow_0 rfl ?_
    refine lv_istore_n (lv' := [(2, .int 0), (0, .ref b0), (1, .ref b1)]) hx hb dX6_copyRow_1 rfl hl (by decide) rfl (fun ls hl => ?_)
    have hL2 : ∀ (n : Nat) (i1 : Int32) (v2 : Nat → Int32) (H : Heap) (locs : List Loc) (ls : Array Slot), va_P D vwCl (oArrI C b0 43 w0 (oArrI C b1 43 v2 [])) H → va_D A (oArrI C b0 43 w0 (oArrI C b1 43 v2 [])) → va_S A s.heap H locs → lv_has ls 3 [(2, .int i1), (0, .ref b0), (1, .ref b1)] → f_X6_copyRow_L2 w0 n i1 v2 = some w1' → W p l e (headSpec wsX6_copyRow (rmX6_copyRow)).room s m (List.toArray [Value.ref b0, Value.ref b1]) below meth c H locs 0 0 Q (F0 m 2 ls []) := by
      intro n
      induction n with
      | zero =>
        intro i1 v2 H locs ls hP hD hS hl hf
        exact absurd hf (fun h => by cases h)
      | succ n ih =>
        intro i1 v2 H locs ls hP hD hS hl hf
        rw [f_X6_copyRow_L2] at hf
        refine lv_iload_n hx hb dX6_copyRow_2 rfl (lv_at hl 0 rfl) ?_
        refine lv_bipush (v := 43) hx hb dX6_copyRow_3 rfl ?_
        refine lv_icmp_ge (tgt := 20) hx hb dX6_copyRow_5 (by decide) (fun c3 => ?_) (fun c3 => ?_)
        · replace hf := if_te c3 hf
          cases hf
          exact krv hQ hAe hx hb hr hlocks hP hD hK hS dX6_copyRow_20
        · replace hf := if_fe c3 hf
          refine lv_aload_n hx hb dX6_copyRow_8 rfl (lv_at hl 2 rfl) ?_
          refine lv_iload_n hx hb dX6_copyRow_9 rfl (lv_at hl 0 rfl) ?_
          refine lv_aload_n hx hb dX6_copyRow_10 rfl (lv_at hl 1 rfl) ?_
          refine lv_iload_n hx hb dX6_copyRow_11 rfl (lv_at hl 0 rfl) ?_
          obtain ⟨y5, ey5, hi4, hf⟩ := rdA_x hf
          refine va_iald hx hb hK hP 0 0 rfl rfl hi4 dX6_copyRow_12 ?_
          refine lv_ren ey5 ?_
          obtain ⟨hi6, hf⟩ := ckA_e hf
          refine va_iast hx hb hK hP hD hS 1 0 rfl rfl hi6 dX6_copyRow_13 (fun H locs hP hD hS => ?_)
          obtain ⟨v7, ev7, hf⟩ := lj_e hf
          have hP : va_P D vwCl (oArrI C b0 43 w0 (oArrI C b1 43 v7 [])) H := by rw [ev7]; exact hP
          have hD : va_D A (oArrI C b0 43 w0 (oArrI C b1 43 v7 [])) := by rw [ev7]; exact hD
          obtain ⟨t8, et8, hf⟩ := lj_e hf
          refine lv_iinc (v := t8) (lv' := [(2, .int t8), (0, .ref b0), (1, .ref b1)]) hx hb dX6_copyRow_14 hl (k := 0) rfl (by rw [et8]; rfl) (by decide) rfl (fun ls hl => ?_)
          refine lv_goto (tgt := 2) hx hb dX6_copyRow_17 (by decide) ?_
          exact ih t8 v7 H locs ls hP hD hS (lv_sub hl [0, 1, 2] rfl) hf
    exact hL2 N 0 w1 H locs ls hP hD hS (lv_sub hl [0, 1, 2] rfl) hf
  exact main _ _ hP hD hS

def rmX6_greatest : Room := { frames := 0, cells := 0, slots := 0, locals := 0 }
theorem hdX6_greatest : yX6_greatest.cls ≠ "java/lang/invoke/MethodHandle" ∧ yX6_greatest.cls ≠ "java/lang/invoke/VarHandle" ∧ (parseMethodDescriptor yX6_greatest.desc).map (fun d => d.parameters.length) = some 2 := by decide +kernel
set_option maxHeartbeats 40000000 in
set_option maxRecDepth 100000 in
theorem c_X6_greatest (l : Launch) (E : Nat → Nat) (D : va_G) (C : Nat → ClassId) (sz : Nat)  (x0 : Int32) (x1 : Int32) (r : Int32) (hf : f_X6_greatest x0 x1 = r) : Met l yX6_greatest wsX6_greatest rmX6_greatest (PC E D C [.int x0, .int x1] [] sz) (QI D C [] [] sz r) 0 0 (va_A [] sz) := by
  refine Met.ofW (cc := cX6_greatest) (maxL := 2) (ret := (some .int)) (by decide) rfl ?_
  intro p e s m args below meth c s₁ B hml hv
  obtain ⟨rfl, hsz, hP, hK, hD0, hE⟩ := hv
  have hx := B.exec
  have hb := B.bytes
  have hr := B.returns
  have hts := atoms_spec (ws := wsX6_greatest) B.pre
  have hown : s.vm.findClass RX6 = some m.cls := findClass_of_methodNamed B.named
  have hlocks := B.notSynchronized
  subst hsz
  have hD := hD0.self (sz := s.heap.size)
  obtain ⟨A, hAe⟩ := nm_ex (va_A [] s.heap.size)
  rw [← hAe] at hD hE ⊢
  have hA : ∀ q : Nat, s.heap.size ≤ q → A q := fun q h => by rw [hAe]; exact Or.inr h
  have hS : va_S A s.heap s.heap [] := va_S.rf
  have hl := lv_entry ([.int x0, .int x1]) (n := 2) (Nat.le_of_ble_eq_true rfl)
  rw [lg_entry_eq]
  generalize (lg_sl ([.int x0, .int x1]) ++ List.replicate (2 - (lg_sl ([.int x0, .int x1])).length) Slot.unset).toArray = ls at hl ⊢
  have hl : lv_has ls 2 [(0, .int x0), (1, .int x1)] := hl
  obtain ⟨Q, hQ⟩ := nm_ex (MQ below (QI D C [] [] s.heap.size r) (List.toArray [Value.int x0, Value.int x1]) s 0 0 A)
  show W p l e (headSpec wsX6_greatest (rmX6_greatest)).room s m (List.toArray [Value.int x0, Value.int x1]) below meth c s.heap [] 0 0 (MQ below (QI D C [] [] s.heap.size r) (List.toArray [Value.int x0, Value.int x1]) s 0 0 A) _
  rw [← hQ]
  unfold f_X6_greatest at hf
  have main : ∀ (H : Heap) (locs : List Loc), va_P D vwCl [] H → va_D A [] → va_S A s.heap H locs → W p l e (headSpec wsX6_greatest (rmX6_greatest)).room s m (List.toArray [Value.int x0, Value.int x1]) below meth c H locs 0 0 Q (F0 m 0 ls []) := by
    intro H locs hP hD hS
    refine lv_iload_n hx hb dX6_greatest_0 rfl (lv_at hl 0 rfl) ?_
    refine lv_iload_n hx hb dX6_greatest_1 rfl (lv_at hl 1 rfl) ?_
    refine lv_icmp_le (tgt := 9) hx hb dX6_greatest_2 (by decide) (fun c1 => ?_) (fun c1 => ?_)
    · replace hf := if_te c1 hf
      refine lv_iload_n hx hb dX6_greatest_9 rfl (lv_at hl 1 rfl) ?_
      cases hf
      exact kri hQ hAe hx hb hr hlocks hP hD hK hS dX6_greatest_10
    · replace hf := if_fe c1 hf
      refine lv_iload_n hx hb dX6_greatest_5 rfl (lv_at hl 0 rfl) ?_
      refine lv_goto (tgt := 10) hx hb dX6_greatest_6 (by decide) ?_
      cases hf
      exact kri hQ hAe hx hb hr hlocks hP hD hK hS dX6_greatest_10
  exact main _ _ hP hD hS

def rmX6_least : Room := { frames := 0, cells := 0, slots := 0, locals := 0 }
theorem hdX6_least : yX6_least.cls ≠ "java/lang/invoke/MethodHandle" ∧ yX6_least.cls ≠ "java/lang/invoke/VarHandle" ∧ (parseMethodDescriptor yX6_least.desc).map (fun d => d.parameters.length) = some 2 := by decide +kernel
set_option maxHeartbeats 40000000 in
set_option maxRecDepth 100000 in
theorem c_X6_least (l : Launch) (E : Nat → Nat) (D : va_G) (C : Nat → ClassId) (sz : Nat)  (x0 : Int32) (x1 : Int32) (r : Int32) (hf : f_X6_least x0 x1 = r) : Met l yX6_least wsX6_least rmX6_least (PC E D C [.int x0, .int x1] [] sz) (QI D C [] [] sz r) 0 0 (va_A [] sz) := by
  refine Met.ofW (cc := cX6_least) (maxL := 2) (ret := (some .int)) (by decide) rfl ?_
  intro p e s m args below meth c s₁ B hml hv
  obtain ⟨rfl, hsz, hP, hK, hD0, hE⟩ := hv
  have hx := B.exec
  have hb := B.bytes
  have hr := B.returns
  have hts := atoms_spec (ws := wsX6_least) B.pre
  have hown : s.vm.findClass RX6 = some m.cls := findClass_of_methodNamed B.named
  have hlocks := B.notSynchronized
  subst hsz
  have hD := hD0.self (sz := s.heap.size)
  obtain ⟨A, hAe⟩ := nm_ex (va_A [] s.heap.size)
  rw [← hAe] at hD hE ⊢
  have hA : ∀ q : Nat, s.heap.size ≤ q → A q := fun q h => by rw [hAe]; exact Or.inr h
  have hS : va_S A s.heap s.heap [] := va_S.rf
  have hl := lv_entry ([.int x0, .int x1]) (n := 2) (Nat.le_of_ble_eq_true rfl)
  rw [lg_entry_eq]
  generalize (lg_sl ([.int x0, .int x1]) ++ List.replicate (2 - (lg_sl ([.int x0, .int x1])).length) Slot.unset).toArray = ls at hl ⊢
  have hl : lv_has ls 2 [(0, .int x0), (1, .int x1)] := hl
  obtain ⟨Q, hQ⟩ := nm_ex (MQ below (QI D C [] [] s.heap.size r) (List.toArray [Value.int x0, Value.int x1]) s 0 0 A)
  show W p l e (headSpec wsX6_least (rmX6_least)).room s m (List.toArray [Value.int x0, Value.int x1]) below meth c s.heap [] 0 0 (MQ below (QI D C [] [] s.heap.size r) (List.toArray [Value.int x0, Value.int x1]) s 0 0 A) _
  rw [← hQ]
  unfold f_X6_least at hf
  have main : ∀ (H : Heap) (locs : List Loc), va_P D vwCl [] H → va_D A [] → va_S A s.heap H locs → W p l e (headSpec wsX6_least (rmX6_least)).room s m (List.toArray [Value.int x0, Value.int x1]) below meth c H locs 0 0 Q (F0 m 0 ls []) := by
    intro H locs hP hD hS
    refine lv_iload_n hx hb dX6_least_0 rfl (lv_at hl 0 rfl) ?_
    refine lv_iload_n hx hb dX6_least_1 rfl (lv_at hl 1 rfl) ?_
    refine lv_icmp_ge (tgt := 9) hx hb dX6_least_2 (by decide) (fun c1 => ?_) (fun c1 => ?_)
    · replace hf := if_te c1 hf
      refine lv_iload_n hx hb dX6_least_9 rfl (lv_at hl 1 rfl) ?_
      cases hf
      exact kri hQ hAe hx hb hr hlocks hP hD hK hS dX6_least_10
    · replace hf := if_fe c1 hf
      refine lv_iload_n hx hb dX6_least_5 rfl (lv_at hl 0 rfl) ?_
      refine lv_goto (tgt := 10) hx hb dX6_least_6 (by decide) ?_
      cases hf
      exact kri hQ hAe hx hb hr hlocks hP hD hK hS dX6_least_10
  exact main _ _ hP hD hS

def rmX6_within : Room := { frames := 0, cells := 0, slots := 0, locals := 0 }
theorem hdX6_within : yX6_within.cls ≠ "java/lang/invoke/MethodHandle" ∧ yX6_within.cls ≠ "java/lang/invoke/VarHandle" ∧ (parseMethodDescriptor yX6_within.desc).map (fun d => d.parameters.length) = some 1 := by decide +kernel
set_option maxHeartbeats 40000000 in
set_option maxRecDepth 100000 in
theorem c_X6_within (l : Launch) (E : Nat → Nat) (D : va_G) (C : Nat → ClassId) (sz : Nat)  (x0 : Int32) (r : Int32) (hf : f_X6_within x0 = r) : Met l yX6_within wsX6_within rmX6_within (PC E D C [.int x0] [] sz) (QI D C [] [] sz r) 0 0 (va_A [] sz) := by
  refine Met.ofW (cc := cX6_within) (maxL := 1) (ret := (some .int)) (by decide) rfl ?_
  intro p e s m args below meth c s₁ B hml hv
  obtain ⟨rfl, hsz, hP, hK, hD0, hE⟩ := hv
  have hx := B.exec
  have hb := B.bytes
  have hr := B.returns
  have hts := atoms_spec (ws := wsX6_within) B.pre
  have hown : s.vm.findClass RX6 = some m.cls := findClass_of_methodNamed B.named
  have hlocks := B.notSynchronized
  subst hsz
  have hD := hD0.self (sz := s.heap.size)
  obtain ⟨A, hAe⟩ := nm_ex (va_A [] s.heap.size)
  rw [← hAe] at hD hE ⊢
  have hA : ∀ q : Nat, s.heap.size ≤ q → A q := fun q h => by rw [hAe]; exact Or.inr h
  have hS : va_S A s.heap s.heap [] := va_S.rf
  have hl := lv_entry ([.int x0]) (n := 1) (Nat.le_of_ble_eq_true rfl)
  rw [lg_entry_eq]
  generalize (lg_sl ([.int x0]) ++ List.replicate (1 - (lg_sl ([.int x0])).length) Slot.unset).toArray = ls at hl ⊢
  have hl : lv_has ls 1 [(0, .int x0)] := hl
  obtain ⟨Q, hQ⟩ := nm_ex (MQ below (QI D C [] [] s.heap.size r) (List.toArray [Value.int x0]) s 0 0 A)
  show W p l e (headSpec wsX6_within (rmX6_within)).room s m (List.toArray [Value.int x0]) below meth c s.heap [] 0 0 (MQ below (QI D C [] [] s.heap.size r) (List.toArray [Value.int x0]) s 0 0 A) _
  rw [← hQ]
  unfold f_X6_within at hf
  have main : ∀ (H : Heap) (locs : List Loc), va_P D vwCl [] H → va_D A [] → va_S A s.heap H locs → W p l e (headSpec wsX6_within (rmX6_within)).room s m (List.toArray [Value.int x0]) below meth c H locs 0 0 Q (F0 m 0 ls []) := by
    intro H locs hP hD hS
    refine lv_iload_n hx hb dX6_within_0 rfl (lv_at hl 0 rfl) ?_
    refine lv_if_ge (tgt := 8) hx hb dX6_within_1 (by decide) (fun c1 => ?_) (fun c1 => ?_)
    · replace hf := if_te c1 hf
      refine lv_iload_n hx hb dX6_within_8 rfl (lv_at hl 0 rfl) ?_
      refine lv_bipush (v := 99) hx hb dX6_within_9 rfl ?_
      refine lv_icmp_le (tgt := 19) hx hb dX6_within_11 (by decide) (fun c2 => ?_) (fun c2 => ?_)
      · replace hf := if_te c2 hf
        refine lv_iload_n hx hb dX6_within_19 rfl (lv_at hl 0 rfl) ?_
        cases hf
        exact kri hQ hAe hx hb hr hlocks hP hD hK hS dX6_within_20
      · replace hf := if_fe c2 hf
        refine lv_bipush (v := 99) hx hb dX6_within_14 rfl ?_
        refine lv_goto (tgt := 20) hx hb dX6_within_16 (by decide) ?_
        cases hf
        exact kri hQ hAe hx hb hr hlocks hP hD hK hS dX6_within_20
    · replace hf := if_fe c1 hf
      refine lv_iconst (v := 0) hx hb dX6_within_4 rfl ?_
      refine lv_goto (tgt := 20) hx hb dX6_within_5 (by decide) ?_
      cases hf
      exact kri hQ hAe hx hb hr hlocks hP hD hK hS dX6_within_20
  exact main _ _ hP hD hS

def rmX6_size : Room := { frames := 0, cells := 0, slots := 0, locals := 0 }
theorem hdX6_size : yX6_size.cls ≠ "java/lang/invoke/MethodHandle" ∧ yX6_size.cls ≠ "java/lang/invoke/VarHandle" ∧ (parseMethodDescriptor yX6_size.desc).map (fun d => d.parameters.length) = some 1 := by decide +kernel
set_option maxHeartbeats 40000000 in
set_option maxRecDepth 100000 in
theorem c_X6_size (l : Launch) (E : Nat → Nat) (D : va_G) (C : Nat → ClassId) (sz : Nat) (N : Nat)  (x0 : Int32) (r : Int32) (hf : f_X6_size N x0 = some r) : Met l yX6_size wsX6_size rmX6_size (PC E D C [.int x0] [] sz) (QI D C [] [] sz r) 0 0 (va_A [] sz) := by
  refine Met.ofW (cc := cX6_size) (maxL := 3) (ret := (some .int)) (by decide) rfl ?_
  intro p e s m args below meth c s₁ B hml hv
  obtain ⟨rfl, hsz, hP, hK, hD0, hE⟩ := hv
  have hx := B.exec
  have hb := B.bytes
  have hr := B.returns
  have hts := atoms_spec (ws := wsX6_size) B.pre
  have hown : s.vm.findClass RX6 = some m.cls := findClass_of_methodNamed B.named
  have hlocks := B.notSynchronized
  subst hsz
  have hD := hD0.self (sz := s.heap.size)
  obtain ⟨A, hAe⟩ := nm_ex (va_A [] s.heap.size)
  rw [← hAe] at hD hE ⊢
  have hA : ∀ q : Nat, s.heap.size ≤ q → A q := fun q h => by rw [hAe]; exact Or.inr h
  have hS : va_S A s.heap s.heap [] := va_S.rf
  have hl := lv_entry ([.int x0]) (n := 3) (Nat.le_of_ble_eq_true rfl)
  rw [lg_entry_eq]
  generalize (lg_sl ([.int x0]) ++ List.replicate (3 - (lg_sl ([.int x0])).length) Slot.unset).toArray = ls at hl ⊢
  have hl : lv_has ls 3 [(0, .int x0)] := hl
  obtain ⟨Q, hQ⟩ := nm_ex (MQ below (QI D C [] [] s.heap.size r) (List.toArray [Value.int x0]) s 0 0 A)
  show W p l e (headSpec wsX6_size (rmX6_size)).room s m (List.toArray [Value.int x0]) below meth c s.heap [] 0 0 (MQ below (QI D C [] [] s.heap.size r) (List.toArray [Value.int x0]) s 0 0 A) _
  rw [← hQ]
  unfold f_X6_size at hf
  have main : ∀ (H : Heap) (locs : List Loc), va_P D vwCl [] H → va_D A [] → va_S A s.heap H locs → W p l e (headSpec wsX6_size (rmX6_size)).room s m (List.toArray [Value.int x0]) below meth c H locs 0 0 Q (F0 m 0 ls []) := by
    intro H locs hP hD hS
    refine lv_iconst (v := 0) hx hb dX6_size_0 rfl ?_
    refine lv_istore_n (lv' := [(1, .int 0), (0, .int x0)]) hx hb dX6_size_1 rfl hl (by decide) rfl (fun ls hl => ?_)
    refine lv_iload_n hx hb dX6_size_2 rfl (lv_at hl 1 rfl) ?_
    refine lv_istore_n (lv' := [(2, .int x0), (1, .int 0), (0, .int x0)]) hx hb dX6_size_3 rfl hl (by decide) rfl (fun ls hl => ?_)
    have hL4 : ∀ (n : Nat) (i1 : Int32) (i2 : Int32) (H : Heap) (locs : List Loc) (ls : Array Slot), va_P D vwCl [] H → va_D A [] → va_S A s.heap H locs → lv_has ls 3 [(2, .int i1), (1, .int i2)] → f_X6_size_L4 n i1 i2 = some r → W p l e (headSpec wsX6_size (rmX6_size)).room s m (List.toArray [Value.int x0]) below meth c H locs 0 0 Q (F0 m 4 ls []) := by
      intro n
      induction n with
      | zero =>
        intro i1 i2 H locs ls hP hD hS hl hf
        exact absurd hf (fun h => by cases h)
      | succ n ih =>
        intro i1 i2 H locs ls hP hD hS hl hf
        rw [f_X6_size_L4] at hf
        refine lv_iload_n hx hb dX6_size_4 rfl (lv_at hl 0 rfl) ?_
        refine lv_if_eq (tgt := 20) hx hb dX6_size_5 (by decide) (fun c3 => ?_) (fun c3 => ?_)
        · replace hf := if_te c3 hf
          refine lv_iload_n hx hb dX6_size_20 rfl (lv_at hl 1 rfl) ?_
          cases hf
          exact kri hQ hAe hx hb hr hlocks hP hD hK hS dX6_size_21
        · replace hf := if_fe c3 hf
          obtain ⟨t4, et4, hf⟩ := lj_e hf
          refine lv_iinc (v := t4) (lv' := [(1, .int t4), (2, .int i1)]) hx hb dX6_size_8 hl (k := 1) rfl (by rw [et4]; rfl) (by decide) rfl (fun ls hl => ?_)
          refine lv_iload_n hx hb dX6_size_11 rfl (lv_at hl 1 rfl) ?_
          refine lv_iload_n hx hb dX6_size_12 rfl (lv_at hl 1 rfl) ?_
          refine lv_iconst (v := 1) hx hb dX6_size_13 rfl ?_
          refine lv_isub hx hb dX6_size_14 ?_
          refine lv_iand hx hb dX6_size_15 ?_
          obtain ⟨t5, et5, hf⟩ := lj_e hf
          refine lv_ren et5 ?_
          refine lv_istore_n (lv' := [(2, .int t5), (1, .int t4)]) hx hb dX6_size_16 rfl hl (by decide) rfl (fun ls hl => ?_)
          refine lv_goto (tgt := 4) hx hb dX6_size_17 (by decide) ?_
          exact ih t5 t4 H locs ls hP hD hS (lv_sub hl [0, 1] rfl) hf
    exact hL4 N x0 0 H locs ls hP hD hS (lv_sub hl [0, 1] rfl) hf
  exact main _ _ hP hD hS

def rmX6_isUnder : Room := { frames := 0, cells := 0, slots := 0, locals := 0 }
theorem hdX6_isUnder : yX6_isUnder.cls ≠ "java/lang/invoke/MethodHandle" ∧ yX6_isUnder.cls ≠ "java/lang/invoke/VarHandle" ∧ (parseMethodDescriptor yX6_isUnder.desc).map (fun d => d.parameters.length) = some 2 := by decide +kernel
set_option maxHeartbeats 40000000 in
set_option maxRecDepth 100000 in
theorem c_X6_isUnder (l : Launch) (E : Nat → Nat) (D : va_G) (C : Nat → ClassId) (sz : Nat)  (x0 : Int32) (x1 : Int32) (r : Int32) (hf : f_X6_isUnder x0 x1 = r) : Met l yX6_isUnder wsX6_isUnder rmX6_isUnder (PC E D C [.int x0, .int x1] [] sz) (QZ D C [] [] sz r) 0 0 (va_A [] sz) := by
  refine Met.ofW (cc := cX6_isUnder) (maxL := 2) (ret := (some .boolean)) (by decide) rfl ?_
  intro p e s m args below meth c s₁ B hml hv
  obtain ⟨rfl, hsz, hP, hK, hD0, hE⟩ := hv
  have hx := B.exec
  have hb := B.bytes
  have hr := B.returns
  have hts := atoms_spec (ws := wsX6_isUnder) B.pre
  have hown : s.vm.findClass RX6 = some m.cls := findClass_of_methodNamed B.named
  have hlocks := B.notSynchronized
  subst hsz
  have hD := hD0.self (sz := s.heap.size)
  obtain ⟨A, hAe⟩ := nm_ex (va_A [] s.heap.size)
  rw [← hAe] at hD hE ⊢
  have hA : ∀ q : Nat, s.heap.size ≤ q → A q := fun q h => by rw [hAe]; exact Or.inr h
  have hS : va_S A s.heap s.heap [] := va_S.rf
  have hl := lv_entry ([.int x0, .int x1]) (n := 2) (Nat.le_of_ble_eq_true rfl)
  rw [lg_entry_eq]
  generalize (lg_sl ([.int x0, .int x1]) ++ List.replicate (2 - (lg_sl ([.int x0, .int x1])).length) Slot.unset).toArray = ls at hl ⊢
  have hl : lv_has ls 2 [(0, .int x0), (1, .int x1)] := hl
  obtain ⟨Q, hQ⟩ := nm_ex (MQ below (QZ D C [] [] s.heap.size r) (List.toArray [Value.int x0, Value.int x1]) s 0 0 A)
  show W p l e (headSpec wsX6_isUnder (rmX6_isUnder)).room s m (List.toArray [Value.int x0, Value.int x1]) below meth c s.heap [] 0 0 (MQ below (QZ D C [] [] s.heap.size r) (List.toArray [Value.int x0, Value.int x1]) s 0 0 A) _
  rw [← hQ]
  unfold f_X6_isUnder at hf
  have main : ∀ (H : Heap) (locs : List Loc), va_P D vwCl [] H → va_D A [] → va_S A s.heap H locs → W p l e (headSpec wsX6_isUnder (rmX6_isUnder)).room s m (List.toArray [Value.int x0, Value.int x1]) below meth c H locs 0 0 Q (F0 m 0 ls []) := by
    intro H locs hP hD hS
    refine lv_iload_n hx hb dX6_isUnder_0 rfl (lv_at hl 1 rfl) ?_
    refine lv_if_eq (tgt := 29) hx hb dX6_isUnder_1 (by decide) (fun c1 => ?_) (fun c1 => ?_)
    · replace hf := if_te c1 hf
      refine lv_iconst (v := 1) hx hb dX6_isUnder_29 rfl ?_
      refine lv_goto (tgt := 34) hx hb dX6_isUnder_30 (by decide) ?_
      cases hf
      exact krz hQ hAe hx hb hr hlocks zb_1 hP hD hK hS dX6_isUnder_34
    · replace hf := if_fe c1 hf
      refine lv_iload_n hx hb dX6_isUnder_4 rfl (lv_at hl 0 rfl) ?_
      refine lv_iload_n hx hb dX6_isUnder_5 rfl (lv_at hl 1 rfl) ?_
      refine lv_icmp_eq (tgt := 29) hx hb dX6_isUnder_6 (by decide) (fun c2 => ?_) (fun c2 => ?_)
      · replace hf := if_te c2 hf
        refine lv_iconst (v := 1) hx hb dX6_isUnder_29 rfl ?_
        refine lv_goto (tgt := 34) hx hb dX6_isUnder_30 (by decide) ?_
        cases hf
        exact krz hQ hAe hx hb hr hlocks zb_1 hP hD hK hS dX6_isUnder_34
      · replace hf := if_fe c2 hf
        refine lv_iload_n hx hb dX6_isUnder_9 rfl (lv_at hl 1 rfl) ?_
        refine lv_iconst (v := 1) hx hb dX6_isUnder_10 rfl ?_
        obtain ⟨j3, hj3, hf⟩ := lj_e hf
        have Hj3 : ∀ (H : Heap) (locs : List Loc) (ls : Array Slot), va_P D vwCl [] H → va_D A [] → va_S A s.heap H locs → lv_has ls 2 [(0, .int x0), (1, .int x1)] → j3 = r → W p l e (headSpec wsX6_isUnder (rmX6_isUnder)).room s m (List.toArray [Value.int x0, Value.int x1]) below meth c H locs 0 0 Q (F0 m 19 ls []) := by
          intro H locs ls hP hD hS hl hf
          rw [hj3] at hf
          refine lv_iload_n hx hb dX6_isUnder_19 rfl (lv_at hl 1 rfl) ?_
          refine lv_iconst (v := 2) hx hb dX6_isUnder_20 rfl ?_
          refine lv_icmp_ne (tgt := 33) hx hb dX6_isUnder_21 (by decide) (fun c4 => ?_) (fun c4 => ?_)
          · replace hf := if_fe c4 hf
            refine lv_iconst (v := 0) hx hb dX6_isUnder_33 rfl ?_
            cases hf
            exact krz hQ hAe hx hb hr hlocks zb_0 hP hD hK hS dX6_isUnder_34
          · replace hf := if_te c4 hf
            refine lv_iload_n hx hb dX6_isUnder_24 rfl (lv_at hl 0 rfl) ?_
            refine lv_iconst (v := 4) hx hb dX6_isUnder_25 rfl ?_
            refine lv_icmp_ne (tgt := 33) hx hb dX6_isUnder_26 (by decide) (fun c5 => ?_) (fun c5 => ?_)
            · replace hf := if_fe c5 hf
              refine lv_iconst (v := 0) hx hb dX6_isUnder_33 rfl ?_
              cases hf
              exact krz hQ hAe hx hb hr hlocks zb_0 hP hD hK hS dX6_isUnder_34
            · replace hf := if_te c5 hf
              refine lv_iconst (v := 1) hx hb dX6_isUnder_29 rfl ?_
              refine lv_goto (tgt := 34) hx hb dX6_isUnder_30 (by decide) ?_
              cases hf
              exact krz hQ hAe hx hb hr hlocks zb_1 hP hD hK hS dX6_isUnder_34
        refine lv_icmp_ne (tgt := 19) hx hb dX6_isUnder_11 (by decide) (fun c6 => ?_) (fun c6 => ?_)
        · replace hf := if_fe c6 hf
          exact Hj3 H locs ls hP hD hS (lv_sub hl [0, 1] rfl) hf
        · replace hf := if_te c6 hf
          refine lv_iload_n hx hb dX6_isUnder_14 rfl (lv_at hl 0 rfl) ?_
          refine lv_iconst (v := 3) hx hb dX6_isUnder_15 rfl ?_
          refine lv_icmp_eq (tgt := 29) hx hb dX6_isUnder_16 (by decide) (fun c7 => ?_) (fun c7 => ?_)
          · replace hf := if_te c7 hf
            refine lv_iconst (v := 1) hx hb dX6_isUnder_29 rfl ?_
            refine lv_goto (tgt := 34) hx hb dX6_isUnder_30 (by decide) ?_
            cases hf
            exact krz hQ hAe hx hb hr hlocks zb_1 hP hD hK hS dX6_isUnder_34
          · replace hf := if_fe c7 hf
            exact Hj3 H locs ls hP hD hS (lv_sub hl [0, 1] rfl) hf
  exact main _ _ hP hD hS

def rmX6_feed : Room := { frames := 1, cells := 0, slots := 0, locals := 25 }
theorem hdX6_feed : yX6_feed.cls = RX6 ∧ yX6_feed.cls ≠ "java/lang/invoke/MethodHandle" ∧ yX6_feed.cls ≠ "java/lang/invoke/VarHandle" ∧ (parseMethodDescriptor yX6_feed.desc).map (fun d => d.parameters.length) = some 2 := by decide +kernel
set_option maxHeartbeats 40000000 in
set_option maxRecDepth 100000 in
theorem c_X6_feed (l : Launch) (E : Nat → Nat) (D : va_G) (C : Nat → ClassId) (e0 e1 e2 e3 e4 e5 e6 e7 e8 e9 e10 e11 e12 e13 e14 e15 : Nat) (sz : Nat) (N : Nat) (m_s : Nat → Int32) (m_held : Nat → Int32) (m_aside : Nat → Int32) (m_before : Nat → Int32) (m_isHeld : Int32) (m_tape : Nat → Int32) (m_taped : Int32) (m_token : Int32) (m_from : Int32) (m_to : Int32) (m_value : Int32) (m_isWrong : Int32) (m_due : Nat → Int32) (m_firsts : Nat → Int32) (m_rows : Nat → Int32) (m_rowN : Int32) (m_sortOf : Nat → Int32) (m_sizeOf : Nat → Int32) (m_numbers : Nat → Int32) (m_holdsWhat : Nat → Int32) (m_holdsWhich : Nat → Int32) (m_holdsMany : Nat → Int32) (m_bodies : Nat → Int32) (m_ran : Int32) (m_actKind : Int32) (m_actN : Int32) (m_actA : Int32) (m_isParted : Int32) (x0 : Int64) (x1 : Int32) (r : Int32) (m_tape' : Nat → Int32) (m_taped' : Int32) (hf : f_X6_feed N m_tape m_taped x0 x1 = some (r, m_tape', m_taped')) : Met l yX6_feed wsX6_feed rmX6_feed (PC E D C [.ref e0, .long x0, .int x1] (oMM C e0 e1 e2 e3 e4 e5 e6 e7 e8 e9 e10 e11 e12 e13 e14 e15 m_s m_held m_aside m_before m_isHeld m_tape m_taped m_token m_from m_to m_value m_isWrong m_due m_firsts m_rows m_rowN m_sortOf m_sizeOf m_numbers m_holdsWhat m_holdsWhich m_holdsMany m_bodies m_ran m_actKind m_actN m_actA m_isParted []) sz) (QI D C (oMM C e0 e1 e2 e3 e4 e5 e6 e7 e8 e9 e10 e11 e12 e13 e14 e15 m_s m_held m_aside m_before m_isHeld m_tape m_taped m_token m_from m_to m_value m_isWrong m_due m_firsts m_rows m_rowN m_sortOf m_sizeOf m_numbers m_holdsWhat m_holdsWhich m_holdsMany m_bodies m_ran m_actKind m_actN m_actA m_isParted []) (oMM C e0 e1 e2 e3 e4 e5 e6 e7 e8 e9 e10 e11 e12 e13 e14 e15 m_s m_held m_aside m_before m_isHeld (m_tape') (m_taped') m_token m_from m_to m_value m_isWrong m_due m_firsts m_rows m_rowN m_sortOf m_sizeOf m_numbers m_holdsWhat m_holdsWhich m_holdsMany m_bodies m_ran m_actKind m_actN m_actA m_isParted []) sz r) 0 0 (va_A (oMM C e0 e1 e2 e3 e4 e5 e6 e7 e8 e9 e10 e11 e12 e13 e14 e15 m_s m_held m_aside m_before m_isHeld m_tape m_taped m_token m_from m_to m_value m_isWrong m_due m_firsts m_rows m_rowN m_sortOf m_sizeOf m_numbers m_holdsWhat m_holdsWhich m_holdsMany m_bodies m_ran m_actKind m_actN m_actA m_isParted []) sz) := by
  refine Met.ofW (cc := cX6_feed) (maxL := 5) (ret := (some .int)) (by decide) rfl ?_
  intro p e s m args below meth c s₁ B hml hv
  obtain ⟨rfl, hsz, hP, hK, hD0, hE⟩ := hv
  have hx := B.exec
  have hb := B.bytes
  have hr := B.returns
  have hts := atoms_spec (ws := wsX6_feed) B.pre
  have hown : s.vm.findClass RX6 = some m.cls := findClass_of_methodNamed B.named
  have hlocks := B.notSynchronized
  subst hsz
  have hi_RX6 : ∀ w ∈ wsX60, w ∈ wsX6_feed := fun _ h => List.mem_cons_of_mem _ (List.mem_append_right _ h)
  have hD := hD0.self (sz := s.heap.size)
  obtain ⟨A, hAe⟩ := nm_ex (va_A (oMM C e0 e1 e2 e3 e4 e5 e6 e7 e8 e9 e10 e11 e12 e13 e14 e15 m_s m_held m_aside m_before m_isHeld m_tape m_taped m_token m_from m_to m_value m_isWrong m_due m_firsts m_rows m_rowN m_sortOf m_sizeOf m_numbers m_holdsWhat m_holdsWhich m_holdsMany m_bodies m_ran m_actKind m_actN m_actA m_isParted []) s.heap.size)
  rw [← hAe] at hD hE ⊢
  have hA : ∀ q : Nat, s.heap.size ≤ q → A q := fun q h => by rw [hAe]; exact Or.inr h
  have hS : va_S A s.heap s.heap [] := va_S.rf
  have hl := lv_entry ([.ref e0, .long x0, .int x1]) (n := 5) (Nat.le_of_ble_eq_true rfl)
  rw [lg_entry_eq]
  generalize (lg_sl ([.ref e0, .long x0, .int x1]) ++ List.replicate (5 - (lg_sl ([.ref e0, .long x0, .int x1])).length) Slot.unset).toArray = ls at hl ⊢
  have hl : lv_has ls 5 [(0, .ref e0), (1, .long x0), (3, .int x1)] := hl
  obtain ⟨Q, hQ⟩ := nm_ex (MQ below (QI D C (oMM C e0 e1 e2 e3 e4 e5 e6 e7 e8 e9 e10 e11 e12 e13 e14 e15 m_s m_held m_aside m_before m_isHeld m_tape m_taped m_token m_from m_to m_value m_isWrong m_due m_firsts m_rows m_rowN m_sortOf m_sizeOf m_numbers m_holdsWhat m_holdsWhich m_holdsMany m_bodies m_ran m_actKind m_actN m_actA m_isParted []) (oMM C e0 e1 e2 e3 e4 e5 e6 e7 e8 e9 e10 e11 e12 e13 e14 e15 m_s m_held m_aside m_before m_isHeld (m_tape') (m_taped') m_token m_from m_to m_value m_isWrong m_due m_firsts m_rows m_rowN m_sortOf m_sizeOf m_numbers m_holdsWhat m_holdsWhich m_holdsMany m_bodies m_ran m_actKind m_actN m_actA m_isParted []) s.heap.size r) (List.toArray [Value.ref e0, Value.long x0, Value.int x1]) s 0 0 A)
  show W p l e (headSpec wsX6_feed (rmX6_feed)).room s m (List.toArray [Value.ref e0, Value.long x0, Value.int x1]) below meth c s.heap [] 0 0 (MQ below (QI D C (oMM C e0 e1 e2 e3 e4 e5 e6 e7 e8 e9 e10 e11 e12 e13 e14 e15 m_s m_held m_aside m_before m_isHeld m_tape m_taped m_token m_from m_to m_value m_isWrong m_due m_firsts m_rows m_rowN m_sortOf m_sizeOf m_numbers m_holdsWhat m_holdsWhich m_holdsMany m_bodies m_ran m_actKind m_actN m_actA m_isParted []) (oMM C e0 e1 e2 e3 e4 e5 e6 e7 e8 e9 e10 e11 e12 e13 e14 e15 m_s m_held m_aside m_before m_isHeld (m_tape') (m_taped') m_token m_from m_to m_value m_isWrong m_due m_firsts m_rows m_rowN m_sortOf m_sizeOf m_numbers m_holdsWhat m_holdsWhich m_holdsMany m_bodies m_ran m_actKind m_actN m_actA m_isParted []) s.heap.size r) (List.toArray [Value.ref e0, Value.long x0, Value.int x1]) s 0 0 A) _
  rw [← hQ]
  unfold f_X6_feed at hf
  have main : ∀ (H : Heap) (locs : List Loc), va_P D vwCl (oMM C e0 e1 e2 e3 e4 e5 e6 e7 e8 e9 e10 e11 e12 e13 e14 e15 m_s m_held m_aside m_before m_isHeld m_tape m_taped m_token m_from m_to m_value m_isWrong m_due m_firsts m_rows m_rowN m_sortOf m_sizeOf m_numbers m_holdsWhat m_holdsWhich m_holdsMany m_bodies m_ran m_actKind m_actN m_actA m_isParted []) H → va_D A (oMM C e0 e1 e2 e3 e4 e5 e6 e7 e8 e9 e10 e11 e12 e13 e14 e15 m_s m_held m_aside m_before m_isHeld m_tape m_taped m_token m_from m_to m_value m_isWrong m_due m_firsts m_rows m_rowN m_sortOf m_sizeOf m_numbers m_holdsWhat m_holdsWhich m_holdsMany m_bodies m_ran m_actKind m_actN m_actA m_isParted []) → va_S A s.heap H locs → W p l e (headSpec wsX6_feed (rmX6_feed)).room s m (List.toArray [Value.ref e0, Value.long x0, Value.int x1]) below meth c H locs 0 0 Q (F0 m 0 ls []) := by
    intro H locs hP hD hS
    refine lv_iload_n hx hb dX6_feed_0 rfl (lv_at hl 2 rfl) ?_
    refine lv_i2l hx hb dX6_feed_1 rfl ?_
    refine lv_lconst (v := 1) hx hb dX6_feed_2 rfl ?_
    refine lv_ldc2 (v := 8) hx hb hown (hts (.constantLong RX6 58 (8)) (List.mem_of_getElem? (i := 1) rfl)) dX6_feed_3 ?_
    refine kcz (Wx := (oMM C e0 e1 e2 e3 e4 e5 e6 e7 e8 e9 e10 e11 e12 e13 e14 e15 m_s m_held m_aside m_before m_isHeld m_tape m_taped m_token m_from m_to m_value m_isWrong m_due m_firsts m_rows m_rowN m_sortOf m_sizeOf m_numbers m_holdsWhat m_holdsWhich m_holdsMany m_bodies m_ran m_actKind m_actN m_actA m_isParted [])) (va_runS (As := [.long (Int32.toInt64 x1), .long 1, .long 8]) (rest := []) ⟨hx, hb, hml, hown, hts⟩ (c_X6_isIn l E D C H.size (Int32.toInt64 x1) 1 8 _ rfl) (va_cwS 3 hts gX6_feed_X6_isIn rfl rfl rfl hdX6_isIn ⟨Nat.le_of_ble_eq_true rfl, Nat.le_of_ble_eq_true rfl⟩) (kpre hP hD hK hS hE hA [] rfl rfl) rfl rfl hl.1 rfl (lv_room (Nat.le_of_ble_eq_true rfl)) dX6_feed_6 ⟨Nat.zero_le _, Nat.zero_le _⟩) hP hD hS hA [] rfl rfl rfl (fun H locs hz1 hP hD hS => ?_)
    refine lv_if_ne (tgt := 14) hx hb dX6_feed_9 (by decide) (fun c2 => ?_) (fun c2 => ?_)
    · replace hf := if_fe c2 hf
      refine lv_aload_n hx hb dX6_feed_14 rfl (lv_at hl 0 rfl) ?_
      refine va_get (D := D) (ci := 6) (v := .int m_taped) (C := RX6) (T := TX6) (N := 28) hx hb hts hi_RX6 hown hK hP 0 rfl rfl 6 (by decide) (hts (.fieldLink RX6 64 "TravelMarksModel" "taped" "I") (List.mem_of_getElem? (i := 2) rfl)) (fun _ h9 => h9) rfl dX6_feed_15 ?_
      refine lv_iload_n hx hb dX6_feed_18 rfl (lv_at hl 2 rfl) ?_
      refine lv_iadd hx hb dX6_feed_19 ?_
      refine lv_sipush (v := 200) hx hb dX6_feed_20 rfl ?_
      refine lv_icmp_le (tgt := 29) hx hb dX6_feed_23 (by decide) (fun c3 => ?_) (fun c3 => ?_)
      · replace hf := if_te c3 hf
        refine lv_iconst (v := 0) hx hb dX6_feed_29 rfl ?_
        refine lv_istore (lv' := [(4, .int 0), (0, .ref e0), (1, .long x0), (3, .int x1)]) hx hb dX6_feed_30 hl (by decide) rfl (fun ls hl => ?_)
        have hL32 : ∀ (n : Nat) (i4 : Int32) (v5 : Nat → Int32) (v6 : Int32) (H : Heap) (locs : List Loc) (ls : Array Slot), va_P D vwCl (oMM C e0 e1 e2 e3 e4 e5 e6 e7 e8 e9 e10 e11 e12 e13 e14 e15 m_s m_held m_aside m_before m_isHeld v5 v6 m_token m_from m_to m_value m_isWrong m_due m_firsts m_rows m_rowN m_sortOf m_sizeOf m_numbers m_holdsWhat m_holdsWhich m_holdsMany m_bodies m_ran m_actKind m_actN m_actA m_isParted []) H → va_D A (oMM C e0 e1 e2 e3 e4 e5 e6 e7 e8 e9 e10 e11 e12 e13 e14 e15 m_s m_held m_aside m_before m_isHeld v5 v6 m_token m_from m_to m_value m_isWrong m_due m_firsts m_rows m_rowN m_sortOf m_sizeOf m_numbers m_holdsWhat m_holdsWhich m_holdsMany m_bodies m_ran m_actKind m_actN m_actA m_isParted []) → va_S A s.heap H locs → lv_has ls 5 [(4, .int i4), (0, .ref e0), (1, .long x0), (3, .int x1)] → f_X6_feed_L32 x0 x1 n i4 v5 v6 = some (r, m_tape', m_taped') → W p l e (headSpec wsX6_feed (rmX6_feed)).room s m (List.toArray [Value.ref e0, Value.long x0, Value.int x1]) below meth c H locs 0 0 Q (F0 m 32 ls []) := by
          intro n
          induction n with
          | zero =>
            intro i4 v5 v6 H locs ls hP hD hS hl hf
            exact absurd hf (fun h => by cases h)
          | succ n ih =>
            intro i4 v5 v6 H locs ls hP hD hS hl hf
            rw [f_X6_feed_L32] at hf
            refine lv_iload hx hb dX6_feed_32 (lv_at hl 0 rfl) ?_
            refine lv_iload_n hx hb dX6_feed_34 rfl (lv_at hl 3 rfl) ?_
            refine lv_icmp_ge (tgt := 75) hx hb dX6_feed_35 (by decide) (fun c7 => ?_) (fun c7 => ?_)
            · replace hf := if_te c7 hf
              refine lv_aload_n hx hb dX6_feed_75 rfl (lv_at hl 1 rfl) ?_
              refine va_get (D := D) (ci := 6) (v := .int v6) (C := RX6) (T := TX6) (N := 28) hx hb hts hi_RX6 hown hK hP 0 rfl rfl 6 (by decide) (hts (.fieldLink RX6 64 "TravelMarksModel" "taped" "I") (List.mem_of_getElem? (i := 2) rfl)) (fun _ h9 => h9) rfl dX6_feed_76 ?_
              cases hf
              exact kri hQ hAe hx hb hr hlocks hP hD hK hS dX6_feed_79
            · replace hf := if_fe c7 hf
              refine lv_aload_n hx hb dX6_feed_38 rfl (lv_at hl 1 rfl) ?_
              refine va_get (D := D) (ci := 6) (v := .ref e5) (C := RX6) (T := TX6) (N := 28) hx hb hts hi_RX6 hown hK hP 0 rfl rfl 5 (by decide) (hts (.fieldLink RX6 22 "TravelMarksModel" "tape" "[I") (List.mem_of_getElem? (i := 3) rfl)) (fun _ h9 => h9) rfl dX6_feed_39 ?_
              refine lv_aload_n hx hb dX6_feed_42 rfl (lv_at hl 1 rfl) ?_
              refine va_get (D := D) (ci := 6) (v := .int v6) (C := RX6) (T := TX6) (N := 28) hx hb hts hi_RX6 hown hK hP 0 rfl rfl 6 (by decide) (hts (.fieldLink RX6 64 "TravelMarksModel" "taped" "I") (List.mem_of_getElem? (i := 2) rfl)) (fun _ h9 => h9) rfl dX6_feed_43 ?_
              refine lv_lload_n hx hb dX6_feed_46 rfl (lv_at hl 2 rfl) ?_
              refine lv_bipush (v := 8) hx hb dX6_feed_47 rfl ?_
              refine lv_iload hx hb dX6_feed_49 (lv_at hl 0 rfl) ?_
              refine lv_imul hx hb dX6_feed_51 ?_
              refine lv_lshr hx hb dX6_feed_52 rfl ?_
              refine lv_ldc2 (v := 255) hx hb hown (hts (.constantLong RX6 68 (255)) (List.mem_of_getElem? (i := 4) rfl)) dX6_feed_53 ?_
              refine lv_land hx hb dX6_feed_56 ?_
              refine lv_l2i hx hb dX6_feed_57 rfl ?_
              obtain ⟨t8, et8, hf⟩ := lj_e hf
              refine lv_ren et8 ?_
              obtain ⟨hi9, hf⟩ := ckA_e hf
              refine va_iast hx hb hK hP hD hS 5 0 rfl rfl hi9 dX6_feed_58 (fun H locs hP hD hS => ?_)
              obtain ⟨v10, ev10, hf⟩ := lj_e hf
              have hP : va_P D vwCl (oMM C e0 e1 e2 e3 e4 e5 e6 e7 e8 e9 e10 e11 e12 e13 e14 e15 m_s m_held m_aside m_before m_isHeld v10 v6 m_token m_from m_to m_value m_isWrong m_due m_firsts m_rows m_rowN m_sortOf m_sizeOf m_numbers m_holdsWhat m_holdsWhich m_holdsMany m_bodies m_ran m_actKind m_actN m_actA m_isParted []) H := by rw [ev10]; exact hP
              have hD : va_D A (oMM C e0 e1 e2 e3 e4 e5 e6 e7 e8 e9 e10 e11 e12 e13 e14 e15 m_s m_held m_aside m_before m_isHeld v10 v6 m_token m_from m_to m_value m_isWrong m_due m_firsts m_rows m_rowN m_sortOf m_sizeOf m_numbers m_holdsWhat m_holdsWhich m_holdsMany m_bodies m_ran m_actKind m_actN m_actA m_isParted []) := by rw [ev10]; exact hD
              refine lv_aload_n hx hb dX6_feed_59 rfl (lv_at hl 1 rfl) ?_
              refine lv_dup hx hb dX6_feed_60 rfl ?_
              refine va_get (D := D) (ci := 6) (v := .int v6) (C := RX6) (T := TX6) (N := 28) hx hb hts hi_RX6 hown hK hP 0 rfl rfl 6 (by decide) (hts (.fieldLink RX6 64 "TravelMarksModel" "taped" "I") (List.mem_of_getElem? (i := 2) rfl)) (fun _ h9 => h9) rfl dX6_feed_61 ?_
              refine lv_iconst (v := 1) hx hb dX6_feed_64 rfl ?_
              refine lv_iadd hx hb dX6_feed_65 ?_
              obtain ⟨t11, et11, hf⟩ := lj_e hf
              refine lv_ren et11 ?_
              refine va_put (D := D) (ci := 6) (v := .int t11) (ty := .int) (C := RX6) (T := TX6) (N := 28) hx hb hts hi_RX6 tyX6 tyX6_ok nmX6 hown hK hP hD hS 0 rfl rfl 6 (by decide) (hts (.fieldLink RX6 64 "TravelMarksModel" "taped" "I") (List.mem_of_getElem? (i := 2) rfl)) (fun _ h9 => h9) rfl (tyX6_ok 6 (by decide)) rfl rfl (Nat.le_of_ble_eq_true rfl) dX6_feed_66 (fun H locs hP hD hS => ?_)
              have hP : va_P D vwCl (oMM C e0 e1 e2 e3 e4 e5 e6 e7 e8 e9 e10 e11 e12 e13 e14 e15 m_s m_held m_aside m_before m_isHeld v10 t11 m_token m_from m_to m_value m_isWrong m_due m_firsts m_rows m_rowN m_sortOf m_sizeOf m_numbers m_holdsWhat m_holdsWhich m_holdsMany m_bodies m_ran m_actKind m_actN m_actA m_isParted []) H := hP
              have hD : va_D A (oMM C e0 e1 e2 e3 e4 e5 e6 e7 e8 e9 e10 e11 e12 e13 e14 e15 m_s m_held m_aside m_before m_isHeld v10 t11 m_token m_from m_to m_value m_isWrong m_due m_firsts m_rows m_rowN m_sortOf m_sizeOf m_numbers m_holdsWhat m_holdsWhich m_holdsMany m_bodies m_ran m_actKind m_actN m_actA m_isParted []) := hD
              obtain ⟨t12, et12, hf⟩ := lj_e hf
              refine lv_iinc (v := t12) (lv' := [(4, .int t12), (0, .ref e0), (1, .long x0), (3, .int x1)]) hx hb dX6_feed_69 hl (k := 0) rfl (by rw [et12]; rfl) (by decide) rfl (fun ls hl => ?_)
              refine lv_goto (tgt := 32) hx hb dX6_feed_72 (by decide) ?_
              exact ih t12 v10 t11 H locs ls hP hD hS (lv_sub hl [0, 1, 2, 3] rfl) hf
        exact hL32 N 0 m_tape m_taped H locs ls hP hD hS (lv_sub hl [0, 1, 2, 3] rfl) hf
      · replace hf := if_fe c3 hf
        refine lv_bipush (v := (-2)) hx hb dX6_feed_26 rfl ?_
        cases hf
        exact kri hQ hAe hx hb hr hlocks hP hD hK hS dX6_feed_28
    · replace hf := if_te c2 hf
      refine lv_iconst (v := (-1)) hx hb dX6_feed_12 rfl ?_
      cases hf
      exact kri hQ hAe hx hb hr hlocks hP hD hK hS dX6_feed_13
  exact main _ _ hP hD hS

def rmX6_isAlpha : Room := { frames := 0, cells := 0, slots := 0, locals := 0 }
theorem hdX6_isAlpha : yX6_isAlpha.cls ≠ "java/lang/invoke/MethodHandle" ∧ yX6_isAlpha.cls ≠ "java/lang/invoke/VarHandle" ∧ (parseMethodDescriptor yX6_isAlpha.desc).map (fun d => d.parameters.length) = some 1 := by decide +kernel
set_option maxHeartbeats 40000000 in
set_option maxRecDepth 100000 in
theorem c_X6_isAlpha (l : Launch) (E : Nat → Nat) (D : va_G) (C : Nat → ClassId) (sz : Nat)  (x0 : Int32) (r : Int32) (hf : f_X6_isAlpha x0 = r) : Met l yX6_isAlpha wsX6_isAlpha rmX6_isAlpha (PC E D C [.int x0] [] sz) (QZ D C [] [] sz r) 0 0 (va_A [] sz) := by
  refine Met.ofW (cc := cX6_isAlpha) (maxL := 1) (ret := (some .boolean)) (by decide) rfl ?_
  intro p e s m args below meth c s₁ B hml hv
  obtain ⟨rfl, hsz, hP, hK, hD0, hE⟩ := hv
  have hx := B.exec
  have hb := B.bytes
  have hr := B.returns
  have hts := atoms_spec (ws := wsX6_isAlpha) B.pre
  have hown : s.vm.findClass RX6 = some m.cls := findClass_of_methodNamed B.named
  have hlocks := B.notSynchronized
  subst hsz
  have hD := hD0.self (sz := s.heap.size)
  obtain ⟨A, hAe⟩ := nm_ex (va_A [] s.heap.size)
  rw [← hAe] at hD hE ⊢
  have hA : ∀ q : Nat, s.heap.size ≤ q → A q := fun q h => by rw [hAe]; exact Or.inr h
  have hS : va_S A s.heap s.heap [] := va_S.rf
  have hl := lv_entry ([.int x0]) (n := 1) (Nat.le_of_ble_eq_true rfl)
  rw [lg_entry_eq]
  generalize (lg_sl ([.int x0]) ++ List.replicate (1 - (lg_sl ([.int x0])).length) Slot.unset).toArray = ls at hl ⊢
  have hl : lv_has ls 1 [(0, .int x0)] := hl
  obtain ⟨Q, hQ⟩ := nm_ex (MQ below (QZ D C [] [] s.heap.size r) (List.toArray [Value.int x0]) s 0 0 A)
  show W p l e (headSpec wsX6_isAlpha (rmX6_isAlpha)).room s m (List.toArray [Value.int x0]) below meth c s.heap [] 0 0 (MQ below (QZ D C [] [] s.heap.size r) (List.toArray [Value.int x0]) s 0 0 A) _
  rw [← hQ]
  unfold f_X6_isAlpha at hf
  have main : ∀ (H : Heap) (locs : List Loc), va_P D vwCl [] H → va_D A [] → va_S A s.heap H locs → W p l e (headSpec wsX6_isAlpha (rmX6_isAlpha)).room s m (List.toArray [Value.int x0]) below meth c H locs 0 0 Q (F0 m 0 ls []) := by
    intro H locs hP hD hS
    refine lv_iload_n hx hb dX6_isAlpha_0 rfl (lv_at hl 0 rfl) ?_
    refine lv_bipush (v := 97) hx hb dX6_isAlpha_1 rfl ?_
    refine lv_icmp_lt (tgt := 16) hx hb dX6_isAlpha_3 (by decide) (fun c1 => ?_) (fun c1 => ?_)
    · replace hf := if_te c1 hf
      refine lv_iconst (v := 0) hx hb dX6_isAlpha_16 rfl ?_
      cases hf
      exact krz hQ hAe hx hb hr hlocks zb_0 hP hD hK hS dX6_isAlpha_17
    · replace hf := if_fe c1 hf
      refine lv_iload_n hx hb dX6_isAlpha_6 rfl (lv_at hl 0 rfl) ?_
      refine lv_bipush (v := 122) hx hb dX6_isAlpha_7 rfl ?_
      refine lv_icmp_gt (tgt := 16) hx hb dX6_isAlpha_9 (by decide) (fun c2 => ?_) (fun c2 => ?_)
      · replace hf := if_te c2 hf
        refine lv_iconst (v := 0) hx hb dX6_isAlpha_16 rfl ?_
        cases hf
        exact krz hQ hAe hx hb hr hlocks zb_0 hP hD hK hS dX6_isAlpha_17
      · replace hf := if_fe c2 hf
        refine lv_iconst (v := 1) hx hb dX6_isAlpha_12 rfl ?_
        refine lv_goto (tgt := 17) hx hb dX6_isAlpha_13 (by decide) ?_
        cases hf
        exact krz hQ hAe hx hb hr hlocks zb_1 hP hD hK hS dX6_isAlpha_17
  exact main _ _ hP hD hS

def rmX6_isDigit : Room := { frames := 0, cells := 0, slots := 0, locals := 0 }
theorem hdX6_isDigit : yX6_isDigit.cls ≠ "java/lang/invoke/MethodHandle" ∧ yX6_isDigit.cls ≠ "java/lang/invoke/VarHandle" ∧ (parseMethodDescriptor yX6_isDigit.desc).map (fun d => d.parameters.length) = some 1 := by decide +kernel
set_option maxHeartbeats 40000000 in
set_option maxRecDepth 100000 in
theorem c_X6_isDigit (l : Launch) (E : Nat → Nat) (D : va_G) (C : Nat → ClassId) (sz : Nat)  (x0 : Int32) (r : Int32) (hf : f_X6_isDigit x0 = r) : Met l yX6_isDigit wsX6_isDigit rmX6_isDigit (PC E D C [.int x0] [] sz) (QZ D C [] [] sz r) 0 0 (va_A [] sz) := by
  refine Met.ofW (cc := cX6_isDigit) (maxL := 1) (ret := (some .boolean)) (by decide) rfl ?_
  intro p e s m args below meth c s₁ B hml hv
  obtain ⟨rfl, hsz, hP, hK, hD0, hE⟩ := hv
  have hx := B.exec
  have hb := B.bytes
  have hr := B.returns
  have hts := atoms_spec (ws := wsX6_isDigit) B.pre
  have hown : s.vm.findClass RX6 = some m.cls := findClass_of_methodNamed B.named
  have hlocks := B.notSynchronized
  subst hsz
  have hD := hD0.self (sz := s.heap.size)
  obtain ⟨A, hAe⟩ := nm_ex (va_A [] s.heap.size)
  rw [← hAe] at hD hE ⊢
  have hA : ∀ q : Nat, s.heap.size ≤ q → A q := fun q h => by rw [hAe]; exact Or.inr h
  have hS : va_S A s.heap s.heap [] := va_S.rf
  have hl := lv_entry ([.int x0]) (n := 1) (Nat.le_of_ble_eq_true rfl)
  rw [lg_entry_eq]
  generalize (lg_sl ([.int x0]) ++ List.replicate (1 - (lg_sl ([.int x0])).length) Slot.unset).toArray = ls at hl ⊢
  have hl : lv_has ls 1 [(0, .int x0)] := hl
  obtain ⟨Q, hQ⟩ := nm_ex (MQ below (QZ D C [] [] s.heap.size r) (List.toArray [Value.int x0]) s 0 0 A)
  show W p l e (headSpec wsX6_isDigit (rmX6_isDigit)).room s m (List.toArray [Value.int x0]) below meth c s.heap [] 0 0 (MQ below (QZ D C [] [] s.heap.size r) (List.toArray [Value.int x0]) s 0 0 A) _
  rw [← hQ]
  unfold f_X6_isDigit at hf
  have main : ∀ (H : Heap) (locs : List Loc), va_P D vwCl [] H → va_D A [] → va_S A s.heap H locs → W p l e (headSpec wsX6_isDigit (rmX6_isDigit)).room s m (List.toArray [Value.int x0]) below meth c H locs 0 0 Q (F0 m 0 ls []) := by
    intro H locs hP hD hS
    refine lv_iload_n hx hb dX6_isDigit_0 rfl (lv_at hl 0 rfl) ?_
    refine lv_bipush (v := 48) hx hb dX6_isDigit_1 rfl ?_
    refine lv_icmp_lt (tgt := 16) hx hb dX6_isDigit_3 (by decide) (fun c1 => ?_) (fun c1 => ?_)
    · replace hf := if_te c1 hf
      refine lv_iconst (v := 0) hx hb dX6_isDigit_16 rfl ?_
      cases hf
      exact krz hQ hAe hx hb hr hlocks zb_0 hP hD hK hS dX6_isDigit_17
    · replace hf := if_fe c1 hf
      refine lv_iload_n hx hb dX6_isDigit_6 rfl (lv_at hl 0 rfl) ?_
      refine lv_bipush (v := 57) hx hb dX6_isDigit_7 rfl ?_
      refine lv_icmp_gt (tgt := 16) hx hb dX6_isDigit_9 (by decide) (fun c2 => ?_) (fun c2 => ?_)
      · replace hf := if_te c2 hf
        refine lv_iconst (v := 0) hx hb dX6_isDigit_16 rfl ?_
        cases hf
        exact krz hQ hAe hx hb hr hlocks zb_0 hP hD hK hS dX6_isDigit_17
      · replace hf := if_fe c2 hf
        refine lv_iconst (v := 1) hx hb dX6_isDigit_12 rfl ?_
        refine lv_goto (tgt := 17) hx hb dX6_isDigit_13 (by decide) ?_
        cases hf
        exact krz hQ hAe hx hb hr hlocks zb_1 hP hD hK hS dX6_isDigit_17
  exact main _ _ hP hD hS

def rmX6_byteAt : Room := { frames := 0, cells := 0, slots := 0, locals := 0 }
theorem hdX6_byteAt : yX6_byteAt.cls = RX6 ∧ yX6_byteAt.cls ≠ "java/lang/invoke/MethodHandle" ∧ yX6_byteAt.cls ≠ "java/lang/invoke/VarHandle" ∧ (parseMethodDescriptor yX6_byteAt.desc).map (fun d => d.parameters.length) = some 1 := by decide +kernel
set_option maxHeartbeats 40000000 in
set_option maxRecDepth 100000 in
theorem c_X6_byteAt (l : Launch) (E : Nat → Nat) (D : va_G) (C : Nat → ClassId) (e0 e1 e2 e3 e4 e5 e6 e7 e8 e9 e10 e11 e12 e13 e14 e15 : Nat) (sz : Nat) (m_s : Nat → Int32) (m_held : Nat → Int32) (m_aside : Nat → Int32) (m_before : Nat → Int32) (m_isHeld : Int32) (m_tape : Nat → Int32) (m_taped : Int32) (m_token : Int32) (m_from : Int32) (m_to : Int32) (m_value : Int32) (m_isWrong : Int32) (m_due : Nat → Int32) (m_firsts : Nat → Int32) (m_rows : Nat → Int32) (m_rowN : Int32) (m_sortOf : Nat → Int32) (m_sizeOf : Nat → Int32) (m_numbers : Nat → Int32) (m_holdsWhat : Nat → Int32) (m_holdsWhich : Nat → Int32) (m_holdsMany : Nat → Int32) (m_bodies : Nat → Int32) (m_ran : Int32) (m_actKind : Int32) (m_actN : Int32) (m_actA : Int32) (m_isParted : Int32) (x0 : Int32) (r : Int32) (hf : f_X6_byteAt m_tape m_taped x0 = some r) : Met l yX6_byteAt wsX6_byteAt rmX6_byteAt (PC E D C [.ref e0, .int x0] (oMM C e0 e1 e2 e3 e4 e5 e6 e7 e8 e9 e10 e11 e12 e13 e14 e15 m_s m_held m_aside m_before m_isHeld m_tape m_taped m_token m_from m_to m_value m_isWrong m_due m_firsts m_rows m_rowN m_sortOf m_sizeOf m_numbers m_holdsWhat m_holdsWhich m_holdsMany m_bodies m_ran m_actKind m_actN m_actA m_isParted []) sz) (QI D C (oMM C e0 e1 e2 e3 e4 e5 e6 e7 e8 e9 e10 e11 e12 e13 e14 e15 m_s m_held m_aside m_before m_isHeld m_tape m_taped m_token m_from m_to m_value m_isWrong m_due m_firsts m_rows m_rowN m_sortOf m_sizeOf m_numbers m_holdsWhat m_holdsWhich m_holdsMany m_bodies m_ran m_actKind m_actN m_actA m_isParted []) (oMM C e0 e1 e2 e3 e4 e5 e6 e7 e8 e9 e10 e11 e12 e13 e14 e15 m_s m_held m_aside m_before m_isHeld m_tape m_taped m_token m_from m_to m_value m_isWrong m_due m_firsts m_rows m_rowN m_sortOf m_sizeOf m_numbers m_holdsWhat m_holdsWhich m_holdsMany m_bodies m_ran m_actKind m_actN m_actA m_isParted []) sz r) 0 0 (va_A (oMM C e0 e1 e2 e3 e4 e5 e6 e7 e8 e9 e10 e11 e12 e13 e14 e15 m_s m_held m_aside m_before m_isHeld m_tape m_taped m_token m_from m_to m_value m_isWrong m_due m_firsts m_rows m_rowN m_sortOf m_sizeOf m_numbers m_holdsWhat m_holdsWhich m_holdsMany m_bodies m_ran m_actKind m_actN m_actA m_isParted []) sz) := by
  refine Met.ofW (cc := cX6_byteAt) (maxL := 2) (ret := (some .int)) (by decide) rfl ?_
  intro p e s m args below meth c s₁ B hml hv
  obtain ⟨rfl, hsz, hP, hK, hD0, hE⟩ := hv
  have hx := B.exec
  have hb := B.bytes
  have hr := B.returns
  have hts := atoms_spec (ws := wsX6_byteAt) B.pre
  have hown : s.vm.findClass RX6 = some m.cls := findClass_of_methodNamed B.named
  have hlocks := B.notSynchronized
  subst hsz
  have hi_RX6 : ∀ w ∈ wsX60, w ∈ wsX6_byteAt := fun _ h => List.mem_cons_of_mem _ (List.mem_append_right _ h)
  have hD := hD0.self (sz := s.heap.size)
  obtain ⟨A, hAe⟩ := nm_ex (va_A (oMM C e0 e1 e2 e3 e4 e5 e6 e7 e8 e9 e10 e11 e12 e13 e14 e15 m_s m_held m_aside m_before m_isHeld m_tape m_taped m_token m_from m_to m_value m_isWrong m_due m_firsts m_rows m_rowN m_sortOf m_sizeOf m_numbers m_holdsWhat m_holdsWhich m_holdsMany m_bodies m_ran m_actKind m_actN m_actA m_isParted []) s.heap.size)
  rw [← hAe] at hD hE ⊢
  have hA : ∀ q : Nat, s.heap.size ≤ q → A q := fun q h => by rw [hAe]; exact Or.inr h
  have hS : va_S A s.heap s.heap [] := va_S.rf
  have hl := lv_entry ([.ref e0, .int x0]) (n := 2) (Nat.le_of_ble_eq_true rfl)
  rw [lg_entry_eq]
  generalize (lg_sl ([.ref e0, .int x0]) ++ List.replicate (2 - (lg_sl ([.ref e0, .int x0])).length) Slot.unset).toArray = ls at hl ⊢
  have hl : lv_has ls 2 [(0, .ref e0), (1, .int x0)] := hl
  obtain ⟨Q, hQ⟩ := nm_ex (MQ below (QI D C (oMM C e0 e1 e2 e3 e4 e5 e6 e7 e8 e9 e10 e11 e12 e13 e14 e15 m_s m_held m_aside m_before m_isHeld m_tape m_taped m_token m_from m_to m_value m_isWrong m_due m_firsts m_rows m_rowN m_sortOf m_sizeOf m_numbers m_holdsWhat m_holdsWhich m_holdsMany m_bodies m_ran m_actKind m_actN m_actA m_isParted []) (oMM C e0 e1 e2 e3 e4 e5 e6 e7 e8 e9 e10 e11 e12 e13 e14 e15 m_s m_held m_aside m_before m_isHeld m_tape m_taped m_token m_from m_to m_value m_isWrong m_due m_firsts m_rows m_rowN m_sortOf m_sizeOf m_numbers m_holdsWhat m_holdsWhich m_holdsMany m_bodies m_ran m_actKind m_actN m_actA m_isParted []) s.heap.size r) (List.toArray [Value.ref e0, Value.int x0]) s 0 0 A)
  show W p l e (headSpec wsX6_byteAt (rmX6_byteAt)).room s m (List.toArray [Value.ref e0, Value.int x0]) below meth c s.heap [] 0 0 (MQ below (QI D C (oMM C e0 e1 e2 e3 e4 e5 e6 e7 e8 e9 e10 e11 e12 e13 e14 e15 m_s m_held m_aside m_before m_isHeld m_tape m_taped m_token m_from m_to m_value m_isWrong m_due m_firsts m_rows m_rowN m_sortOf m_sizeOf m_numbers m_holdsWhat m_holdsWhich m_holdsMany m_bodies m_ran m_actKind m_actN m_actA m_isParted []) (oMM C e0 e1 e2 e3 e4 e5 e6 e7 e8 e9 e10 e11 e12 e13 e14 e15 m_s m_held m_aside m_before m_isHeld m_tape m_taped m_token m_from m_to m_value m_isWrong m_due m_firsts m_rows m_rowN m_sortOf m_sizeOf m_numbers m_holdsWhat m_holdsWhich m_holdsMany m_bodies m_ran m_actKind m_actN m_actA m_isParted []) s.heap.size r) (List.toArray [Value.ref e0, Value.int x0]) s 0 0 A) _
  rw [← hQ]
  unfold f_X6_byteAt at hf
  have main : ∀ (H : Heap) (locs : List Loc), va_P D vwCl (oMM C e0 e1 e2 e3 e4 e5 e6 e7 e8 e9 e10 e11 e12 e13 e14 e15 m_s m_held m_aside m_before m_isHeld m_tape m_taped m_token m_from m_to m_value m_isWrong m_due m_firsts m_rows m_rowN m_sortOf m_sizeOf m_numbers m_holdsWhat m_holdsWhich m_holdsMany m_bodies m_ran m_actKind m_actN m_actA m_isParted []) H → va_D A (oMM C e0 e1 e2 e3 e4 e5 e6 e7 e8 e9 e10 e11 e12 e13 e14 e15 m_s m_held m_aside m_before m_isHeld m_tape m_taped m_token m_from m_to m_value m_isWrong m_due m_firsts m_rows m_rowN m_sortOf m_sizeOf m_numbers m_holdsWhat m_holdsWhich m_holdsMany m_bodies m_ran m_actKind m_actN m_actA m_isParted []) → va_S A s.heap H locs → W p l e (headSpec wsX6_byteAt (rmX6_byteAt)).room s m (List.toArray [Value.ref e0, Value.int x0]) below meth c H locs 0 0 Q (F0 m 0 ls []) := by
    intro H locs hP hD hS
    refine lv_iload_n hx hb dX6_byteAt_0 rfl (lv_at hl 1 rfl) ?_
    refine lv_aload_n hx hb dX6_byteAt_1 rfl (lv_at hl 0 rfl) ?_
    refine va_get (D := D) (ci := 6) (v := .int m_taped) (C := RX6) (T := TX6) (N := 28) hx hb hts hi_RX6 hown hK hP 0 rfl rfl 6 (by decide) (hts (.fieldLink RX6 64 "TravelMarksModel" "taped" "I") (List.mem_of_getElem? (i := 1) rfl)) (fun _ h9 => h9) rfl dX6_byteAt_2 ?_
    refine lv_icmp_ge (tgt := 17) hx hb dX6_byteAt_5 (by decide) (fun c1 => ?_) (fun c1 => ?_)
    · replace hf := if_te c1 hf
      refine lv_iconst (v := (-1)) hx hb dX6_byteAt_17 rfl ?_
      cases hf
      exact kri hQ hAe hx hb hr hlocks hP hD hK hS dX6_byteAt_18
    · replace hf := if_fe c1 hf
      refine lv_aload_n hx hb dX6_byteAt_8 rfl (lv_at hl 0 rfl) ?_
      refine va_get (D := D) (ci := 6) (v := .ref e5) (C := RX6) (T := TX6) (N := 28) hx hb hts hi_RX6 hown hK hP 0 rfl rfl 5 (by decide) (hts (.fieldLink RX6 22 "TravelMarksModel" "tape" "[I") (List.mem_of_getElem? (i := 2) rfl)) (fun _ h9 => h9) rfl dX6_byteAt_9 ?_
      refine lv_iload_n hx hb dX6_byteAt_12 rfl (lv_at hl 1 rfl) ?_
      obtain ⟨y3, ey3, hi2, hf⟩ := rdA_x hf
      refine va_iald hx hb hK hP 5 0 rfl rfl hi2 dX6_byteAt_13 ?_
      refine lv_ren ey3 ?_
      refine lv_goto (tgt := 18) hx hb dX6_byteAt_14 (by decide) ?_
      cases hf
      exact kri hQ hAe hx hb hr hlocks hP hD hK hS dX6_byteAt_18
  exact main _ _ hP hD hS

def rmX6_nextToken : Room := { frames := 1, cells := 0, slots := 0, locals := 21 }
theorem hdX6_nextToken : yX6_nextToken.cls = RX6 ∧ yX6_nextToken.cls ≠ "java/lang/invoke/MethodHandle" ∧ yX6_nextToken.cls ≠ "java/lang/invoke/VarHandle" ∧ (parseMethodDescriptor yX6_nextToken.desc).map (fun d => d.parameters.length) = some 0 := by decide +kernel
set_option maxHeartbeats 40000000 in
set_option maxRecDepth 100000 in
theorem c_X6_nextToken (l : Launch) (E : Nat → Nat) (D : va_G) (C : Nat → ClassId) (e0 e1 e2 e3 e4 e5 e6 e7 e8 e9 e10 e11 e12 e13 e14 e15 : Nat) (sz : Nat) (N : Nat) (m_s : Nat → Int32) (m_held : Nat → Int32) (m_aside : Nat → Int32) (m_before : Nat → Int32) (m_isHeld : Int32) (m_tape : Nat → Int32) (m_taped : Int32) (m_token : Int32) (m_from : Int32) (m_to : Int32) (m_value : Int32) (m_isWrong : Int32) (m_due : Nat → Int32) (m_firsts : Nat → Int32) (m_rows : Nat → Int32) (m_rowN : Int32) (m_sortOf : Nat → Int32) (m_sizeOf : Nat → Int32) (m_numbers : Nat → Int32) (m_holdsWhat : Nat → Int32) (m_holdsWhich : Nat → Int32) (m_holdsMany : Nat → Int32) (m_bodies : Nat → Int32) (m_ran : Int32) (m_actKind : Int32) (m_actN : Int32) (m_actA : Int32) (m_isParted : Int32)  (m_token' : Int32) (m_from' : Int32) (m_to' : Int32) (m_value' : Int32) (hf : f_X6_nextToken N m_tape m_taped m_token m_from m_to m_value = some (m_token', m_from', m_to', m_value')) : Met l yX6_nextToken wsX6_nextToken rmX6_nextToken (PC E D C [.ref e0] (oMM C e0 e1 e2 e3 e4 e5 e6 e7 e8 e9 e10 e11 e12 e13 e14 e15 m_s m_held m_aside m_before m_isHeld m_tape m_taped m_token m_from m_to m_value m_isWrong m_due m_firsts m_rows m_rowN m_sortOf m_sizeOf m_numbers m_holdsWhat m_holdsWhich m_holdsMany m_bodies m_ran m_actKind m_actN m_actA m_isParted []) sz) (QV D C (oMM C e0 e1 e2 e3 e4 e5 e6 e7 e8 e9 e10 e11 e12 e13 e14 e15 m_s m_held m_aside m_before m_isHeld m_tape m_taped m_token m_from m_to m_value m_isWrong m_due m_firsts m_rows m_rowN m_sortOf m_sizeOf m_numbers m_holdsWhat m_holdsWhich m_holdsMany m_bodies m_ran m_actKind m_actN m_actA m_isParted []) (oMM C e0 e1 e2 e3 e4 e5 e6 e7 e8 e9 e10 e11 e12 e13 e14 e15 m_s m_held m_aside m_before m_isHeld m_tape m_taped (m_token') (m_from') (m_to') (m_value') m_isWrong m_due m_firsts m_rows m_rowN m_sortOf m_sizeOf m_numbers m_holdsWhat m_holdsWhich m_holdsMany m_bodies m_ran m_actKind m_actN m_actA m_isParted []) sz) 0 0 (va_A (oMM C e0 e1 e2 e3 e4 e5 e6 e7 e8 e9 e10 e11 e12 e13 e14 e15 m_s m_held m_aside m_before m_isHeld m_tape m_taped m_token m_from m_to m_value m_isWrong m_due m_firsts m_rows m_rowN m_sortOf m_sizeOf m_numbers m_holdsWhat m_holdsWhich m_holdsMany m_bodies m_ran m_actKind m_actN m_actA m_isParted []) sz) := by
  refine Met.ofW (cc := cX6_nextToken) (maxL := 2) (ret := none) (by decide) rfl ?_
  intro p e s m args below meth c s₁ B hml hv
  obtain ⟨rfl, hsz, hP, hK, hD0, hE⟩ := hv
  have hx := B.exec
  have hb := B.bytes
  have hr := B.returns
  have hts := atoms_spec (ws := wsX6_nextToken) B.pre
  have hown : s.vm.findClass RX6 = some m.cls := findClass_of_methodNamed B.named
  have hlocks := B.notSynchronized
  subst hsz
  have hi_RX6 : ∀ w ∈ wsX60, w ∈ wsX6_nextToken := fun _ h => List.mem_cons_of_mem _ (List.mem_append_right _ h)
  have hD := hD0.self (sz := s.heap.size)
  obtain ⟨A, hAe⟩ := nm_ex (va_A (oMM C e0 e1 e2 e3 e4 e5 e6 e7 e8 e9 e10 e11 e12 e13 e14 e15 m_s m_held m_aside m_before m_isHeld m_tape m_taped m_token m_from m_to m_value m_isWrong m_due m_firsts m_rows m_rowN m_sortOf m_sizeOf m_numbers m_holdsWhat m_holdsWhich m_holdsMany m_bodies m_ran m_actKind m_actN m_actA m_isParted []) s.heap.size)
  rw [← hAe] at hD hE ⊢
  have hA : ∀ q : Nat, s.heap.size ≤ q → A q := fun q h => by rw [hAe]; exact Or.inr h
  have hS : va_S A s.heap s.heap [] := va_S.rf
  have hl := lv_entry ([.ref e0]) (n := 2) (Nat.le_of_ble_eq_true rfl)
  rw [lg_entry_eq]
  generalize (lg_sl ([.ref e0]) ++ List.replicate (2 - (lg_sl ([.ref e0])).length) Slot.unset).toArray = ls at hl ⊢
  have hl : lv_has ls 2 [(0, .ref e0)] := hl
  obtain ⟨Q, hQ⟩ := nm_ex (MQ below (QV D C (oMM C e0 e1 e2 e3 e4 e5 e6 e7 e8 e9 e10 e11 e12 e13 e14 e15 m_s m_held m_aside m_before m_isHeld m_tape m_taped m_token m_from m_to m_value m_isWrong m_due m_firsts m_rows m_rowN m_sortOf m_sizeOf m_numbers m_holdsWhat m_holdsWhich m_holdsMany m_bodies m_ran m_actKind m_actN m_actA m_isParted []) (oMM C e0 e1 e2 e3 e4 e5 e6 e7 e8 e9 e10 e11 e12 e13 e14 e15 m_s m_held m_aside m_before m_isHeld m_tape m_taped (m_token') (m_from') (m_to') (m_value') m_isWrong m_due m_firsts m_rows m_rowN m_sortOf m_sizeOf m_numbers m_holdsWhat m_holdsWhich m_holdsMany m_bodies m_ran m_actKind m_actN m_actA m_isParted []) s.heap.size) (List.toArray [Value.ref e0]) s 0 0 A)
  show W p l e (headSpec wsX6_nextToken (rmX6_nextToken)).room s m (List.toArray [Value.ref e0]) below meth c s.heap [] 0 0 (MQ below (QV D C (oMM C e0 e1 e2 e3 e4 e5 e6 e7 e8 e9 e10 e11 e12 e13 e14 e15 m_s m_held m_aside m_before m_isHeld m_tape m_taped m_token m_from m_to m_value m_isWrong m_due m_firsts m_rows m_rowN m_sortOf m_sizeOf m_numbers m_holdsWhat m_holdsWhich m_holdsMany m_bodies m_ran m_actKind m_actN m_actA m_isParted []) (oMM C e0 e1 e2 e3 e4 e5 e6 e7 e8 e9 e10 e11 e12 e13 e14 e15 m_s m_held m_aside m_before m_isHeld m_tape m_taped (m_token') (m_from') (m_to') (m_value') m_isWrong m_due m_firsts m_rows m_rowN m_sortOf m_sizeOf m_numbers m_holdsWhat m_holdsWhich m_holdsMany m_bodies m_ran m_actKind m_actN m_actA m_isParted []) s.heap.size) (List.toArray [Value.ref e0]) s 0 0 A) _
  rw [← hQ]
  unfold f_X6_nextToken at hf
  have main : ∀ (H : Heap) (locs : List Loc), va_P D vwCl (oMM C e0 e1 e2 e3 e4 e5 e6 e7 e8 e9 e10 e11 e12 e13 e14 e15 m_s m_held m_aside m_before m_isHeld m_tape m_taped m_token m_from m_to m_value m_isWrong m_due m_firsts m_rows m_rowN m_sortOf m_sizeOf m_numbers m_holdsWhat m_holdsWhich m_holdsMany m_bodies m_ran m_actKind m_actN m_actA m_isParted []) H → va_D A (oMM C e0 e1 e2 e3 e4 e5 e6 e7 e8 e9 e10 e11 e12 e13 e14 e15 m_s m_held m_aside m_before m_isHeld m_tape m_taped m_token m_from m_to m_value m_isWrong m_due m_firsts m_rows m_rowN m_sortOf m_sizeOf m_numbers m_holdsWhat m_holdsWhich m_holdsMany m_bodies m_ran m_actKind m_actN m_actA m_isParted []) → va_S A s.heap H locs → W p l e (headSpec wsX6_nextToken (rmX6_nextToken)).room s m (List.toArray [Value.ref e0]) below meth c H locs 0 0 Q (F0 m 0 ls []) := by
    intro H locs hP hD hS
    refine lv_aload_n hx hb dX6_nextToken_0 rfl (lv_at hl 0 rfl) ?_
    refine lv_aload_n hx hb dX6_nextToken_1 rfl (lv_at hl 0 rfl) ?_
    refine va_get (D := D) (ci := 6) (v := .int m_to) (C := RX6) (T := TX6) (N := 28) hx hb hts hi_RX6 hown hK hP 0 rfl rfl 9 (by decide) (hts (.fieldLink RX6 70 "TravelMarksModel" "to" "I") (List.mem_of_getElem? (i := 1) rfl)) (fun _ h9 => h9) rfl dX6_nextToken_2 ?_
    refine va_put (D := D) (ci := 6) (v := .int m_to) (ty := .int) (C := RX6) (T := TX6) (N := 28) hx hb hts hi_RX6 tyX6 tyX6_ok nmX6 hown hK hP hD hS 0 rfl rfl 8 (by decide) (hts (.fieldLink RX6 73 "TravelMarksModel" "from" "I") (List.mem_of_getElem? (i := 2) rfl)) (fun _ h9 => h9) rfl (tyX6_ok 8 (by decide)) rfl rfl (Nat.le_of_ble_eq_true rfl) dX6_nextToken_5 (fun H locs hP hD hS => ?_)
    have hP : va_P D vwCl (oMM C e0 e1 e2 e3 e4 e5 e6 e7 e8 e9 e10 e11 e12 e13 e14 e15 m_s m_held m_aside m_before m_isHeld m_tape m_taped m_token m_to m_to m_value m_isWrong m_due m_firsts m_rows m_rowN m_sortOf m_sizeOf m_numbers m_holdsWhat m_holdsWhich m_holdsMany m_bodies m_ran m_actKind m_actN m_actA m_isParted []) H := hP
    have hD : va_D A (oMM C e0 e1 e2 e3 e4 e5 e6 e7 e8 e9 e10 e11 e12 e13 e14 e15 m_s m_held m_aside m_before m_isHeld m_tape m_taped m_token m_to m_to m_value m_isWrong m_due m_firsts m_rows m_rowN m_sortOf m_sizeOf m_numbers m_holdsWhat m_holdsWhich m_holdsMany m_bodies m_ran m_actKind m_actN m_actA m_isParted []) := hD
    obtain ⟨j2, hj2, hf⟩ := lj_e hf
    have Hj2 : ∀ (v1 : Int32) (H : Heap) (locs : List Loc) (ls : Array Slot), va_P D vwCl (oMM C e0 e1 e2 e3 e4 e5 e6 e7 e8 e9 e10 e11 e12 e13 e14 e15 m_s m_held m_aside m_before m_isHeld m_tape m_taped m_token v1 m_to m_value m_isWrong m_due m_firsts m_rows m_rowN m_sortOf m_sizeOf m_numbers m_holdsWhat m_holdsWhich m_holdsMany m_bodies m_ran m_actKind m_actN m_actA m_isParted []) H → va_D A (oMM C e0 e1 e2 e3 e4 e5 e6 e7 e8 e9 e10 e11 e12 e13 e14 e15 m_s m_held m_aside m_before m_isHeld m_tape m_taped m_token v1 m_to m_value m_isWrong m_due m_firsts m_rows m_rowN m_sortOf m_sizeOf m_numbers m_holdsWhat m_holdsWhich m_holdsMany m_bodies m_ran m_actKind m_actN m_actA m_isParted []) → va_S A s.heap H locs → lv_has ls 2 [(0, .ref e0)] → j2 v1 = some (m_token', m_from', m_to', m_value') → W p l e (headSpec wsX6_nextToken (rmX6_nextToken)).room s m (List.toArray [Value.ref e0]) below meth c H locs 0 0 Q (F0 m 34 ls []) := by
      intro v1 H locs ls hP hD hS hl hf
      rw [hj2] at hf
      refine lv_aload_n hx hb dX6_nextToken_34 rfl (lv_at hl 0 rfl) ?_
      refine lv_aload_n hx hb dX6_nextToken_35 rfl (lv_at hl 0 rfl) ?_
      refine va_get (D := D) (ci := 6) (v := .int v1) (C := RX6) (T := TX6) (N := 28) hx hb hts hi_RX6 hown hK hP 0 rfl rfl 8 (by decide) (hts (.fieldLink RX6 73 "TravelMarksModel" "from" "I") (List.mem_of_getElem? (i := 2) rfl)) (fun _ h9 => h9) rfl dX6_nextToken_36 ?_
      refine va_put (D := D) (ci := 6) (v := .int v1) (ty := .int) (C := RX6) (T := TX6) (N := 28) hx hb hts hi_RX6 tyX6 tyX6_ok nmX6 hown hK hP hD hS 0 rfl rfl 9 (by decide) (hts (.fieldLink RX6 70 "TravelMarksModel" "to" "I") (List.mem_of_getElem? (i := 1) rfl)) (fun _ h9 => h9) rfl (tyX6_ok 9 (by decide)) rfl rfl (Nat.le_of_ble_eq_true rfl) dX6_nextToken_39 (fun H locs hP hD hS => ?_)
      have hP : va_P D vwCl (oMM C e0 e1 e2 e3 e4 e5 e6 e7 e8 e9 e10 e11 e12 e13 e14 e15 m_s m_held m_aside m_before m_isHeld m_tape m_taped m_token v1 v1 m_value m_isWrong m_due m_firsts m_rows m_rowN m_sortOf m_sizeOf m_numbers m_holdsWhat m_holdsWhich m_holdsMany m_bodies m_ran m_actKind m_actN m_actA m_isParted []) H := hP
      have hD : va_D A (oMM C e0 e1 e2 e3 e4 e5 e6 e7 e8 e9 e10 e11 e12 e13 e14 e15 m_s m_held m_aside m_before m_isHeld m_tape m_taped m_token v1 v1 m_value m_isWrong m_due m_firsts m_rows m_rowN m_sortOf m_sizeOf m_numbers m_holdsWhat m_holdsWhich m_holdsMany m_bodies m_ran m_actKind m_actN m_actA m_isParted []) := hD
      refine lv_aload_n hx hb dX6_nextToken_42 rfl (lv_at hl 0 rfl) ?_
      refine lv_aload_n hx hb dX6_nextToken_43 rfl (lv_at hl 0 rfl) ?_
      refine va_get (D := D) (ci := 6) (v := .int v1) (C := RX6) (T := TX6) (N := 28) hx hb hts hi_RX6 hown hK hP 0 rfl rfl 8 (by decide) (hts (.fieldLink RX6 73 "TravelMarksModel" "from" "I") (List.mem_of_getElem? (i := 2) rfl)) (fun _ h9 => h9) rfl dX6_nextToken_44 ?_
      obtain ⟨r3, h4, hf⟩ := ob1_e hf
      refine kmi (w1 := (oMM C e0 e1 e2 e3 e4 e5 e6 e7 e8 e9 e10 e11 e12 e13 e14 e15 m_s m_held m_aside m_before m_isHeld m_tape m_taped m_token v1 v1 m_value m_isWrong m_due m_firsts m_rows m_rowN m_sortOf m_sizeOf m_numbers m_holdsWhat m_holdsWhich m_holdsMany m_bodies m_ran m_actKind m_actN m_actA m_isParted [])) (va_runV (As := [.int v1]) (rest := []) ⟨hx, hb, hml, hown, hts⟩ (c_X6_byteAt l E D C e0 e1 e2 e3 e4 e5 e6 e7 e8 e9 e10 e11 e12 e13 e14 e15 H.size m_s m_held m_aside m_before m_isHeld m_tape m_taped m_token v1 v1 m_value m_isWrong m_due m_firsts m_rows m_rowN m_sortOf m_sizeOf m_numbers m_holdsWhat m_holdsWhich m_holdsMany m_bodies m_ran m_actKind m_actN m_actA m_isParted v1 r3 h4) (cwV 1 hts gX6_nextToken_X6_byteAt rfl rfl rfl hdX6_byteAt ⟨Nat.le_of_ble_eq_true rfl, Nat.le_of_ble_eq_true rfl⟩) (kpreM hP hD hK hS hE hA 0 rfl rfl rfl) rfl rfl hl.1 rfl (lv_room (Nat.le_of_ble_eq_true rfl)) dX6_nextToken_47 ⟨Nat.zero_le _, Nat.zero_le _⟩) hP hD hS hA rfl (fun H locs hP hD hS => ?_)
      refine lv_istore_n (lv' := [(1, .int r3), (0, .ref e0)]) hx hb dX6_nextToken_50 rfl hl (by decide) rfl (fun ls hl => ?_)
      refine lv_aload_n hx hb dX6_nextToken_51 rfl (lv_at hl 1 rfl) ?_
      refine lv_iload_n hx hb dX6_nextToken_52 rfl (lv_at hl 0 rfl) ?_
      obtain ⟨j6, hj6, hf⟩ := lj_e hf
      have Hj6 : ∀ (k5 : Int32) (H : Heap) (locs : List Loc) (ls : Array Slot), va_P D vwCl (oMM C e0 e1 e2 e3 e4 e5 e6 e7 e8 e9 e10 e11 e12 e13 e14 e15 m_s m_held m_aside m_before m_isHeld m_tape m_taped m_token v1 v1 m_value m_isWrong m_due m_firsts m_rows m_rowN m_sortOf m_sizeOf m_numbers m_holdsWhat m_holdsWhich m_holdsMany m_bodies m_ran m_actKind m_actN m_actA m_isParted []) H → va_D A (oMM C e0 e1 e2 e3 e4 e5 e6 e7 e8 e9 e10 e11 e12 e13 e14 e15 m_s m_held m_aside m_before m_isHeld m_tape m_taped m_token v1 v1 m_value m_isWrong m_due m_firsts m_rows m_rowN m_sortOf m_sizeOf m_numbers m_holdsWhat m_holdsWhich m_holdsMany m_bodies m_ran m_actKind m_actN m_actA m_isParted []) → va_S A s.heap H locs → lv_has ls 2 [(0, .ref e0)] → j6 k5 = some (m_token', m_from', m_to', m_value') → W p l e (headSpec wsX6_nextToken (rmX6_nextToken)).room s m (List.toArray [Value.ref e0]) below meth c H locs 0 0 Q (F0 m 83 ls [.int k5, .ref e0]) := by
        intro k5 H locs ls hP hD hS hl hf
        rw [hj6] at hf
        refine va_put (D := D) (ci := 6) (v := .int k5) (ty := .int) (C := RX6) (T := TX6) (N := 28) hx hb hts hi_RX6 tyX6 tyX6_ok nmX6 hown hK hP hD hS 0 rfl rfl 7 (by decide) (hts (.fieldLink RX6 87 "TravelMarksModel" "token" "I") (List.mem_of_getElem? (i := 3) rfl)) (fun _ h9 => h9) rfl (tyX6_ok 7 (by decide)) rfl rfl (Nat.le_of_ble_eq_true rfl) dX6_nextToken_83 (fun H locs hP hD hS => ?_)
        have hP : va_P D vwCl (oMM C e0 e1 e2 e3 e4 e5 e6 e7 e8 e9 e10 e11 e12 e13 e14 e15 m_s m_held m_aside m_before m_isHeld m_tape m_taped k5 v1 v1 m_value m_isWrong m_due m_firsts m_rows m_rowN m_sortOf m_sizeOf m_numbers m_holdsWhat m_holdsWhich m_holdsMany m_bodies m_ran m_actKind m_actN m_actA m_isParted []) H := hP
        have hD : va_D A (oMM C e0 e1 e2 e3 e4 e5 e6 e7 e8 e9 e10 e11 e12 e13 e14 e15 m_s m_held m_aside m_before m_isHeld m_tape m_taped k5 v1 v1 m_value m_isWrong m_due m_firsts m_rows m_rowN m_sortOf m_sizeOf m_numbers m_holdsWhat m_holdsWhich m_holdsMany m_bodies m_ran m_actKind m_actN m_actA m_isParted []) := hD
        refine lv_aload_n hx hb dX6_nextToken_86 rfl (lv_at hl 0 rfl) ?_
        refine lv_iconst (v := 0) hx hb dX6_nextToken_87 rfl ?_
        refine va_put (D := D) (ci := 6) (v := .int 0) (ty := .int) (C := RX6) (T := TX6) (N := 28) hx hb hts hi_RX6 tyX6 tyX6_ok nmX6 hown hK hP hD hS 0 rfl rfl 10 (by decide) (hts (.fieldLink RX6 90 "TravelMarksModel" "value" "I") (List.mem_of_getElem? (i := 4) rfl)) (fun _ h9 => h9) rfl (tyX6_ok 10 (by decide)) rfl rfl (Nat.le_of_ble_eq_true rfl) dX6_nextToken_88 (fun H locs hP hD hS => ?_)
        have hP : va_P D vwCl (oMM C e0 e1 e2 e3 e4 e5 e6 e7 e8 e9 e10 e11 e12 e13 e14 e15 m_s m_held m_aside m_before m_isHeld m_tape m_taped k5 v1 v1 0 m_isWrong m_due m_firsts m_rows m_rowN m_sortOf m_sizeOf m_numbers m_holdsWhat m_holdsWhich m_holdsMany m_bodies m_ran m_actKind m_actN m_actA m_isParted []) H := hP
        have hD : va_D A (oMM C e0 e1 e2 e3 e4 e5 e6 e7 e8 e9 e10 e11 e12 e13 e14 e15 m_s m_held m_aside m_before m_isHeld m_tape m_taped k5 v1 v1 0 m_isWrong m_due m_firsts m_rows m_rowN m_sortOf m_sizeOf m_numbers m_holdsWhat m_holdsWhich m_holdsMany m_bodies m_ran m_actKind m_actN m_actA m_isParted []) := hD
        obtain ⟨j8, hj8, hf⟩ := lj_e hf
        have Hj8 : ∀ (v7 : Int32) (H : Heap) (locs : List Loc) (ls : Array Slot), va_P D vwCl (oMM C e0 e1 e2 e3 e4 e5 e6 e7 e8 e9 e10 e11 e12 e13 e14 e15 m_s m_held m_aside m_before m_isHeld m_tape m_taped k5 v1 v7 0 m_isWrong m_due m_firsts m_rows m_rowN m_sortOf m_sizeOf m_numbers m_holdsWhat m_holdsWhich m_holdsMany m_bodies m_ran m_actKind m_actN m_actA m_isParted []) H → va_D A (oMM C e0 e1 e2 e3 e4 e5 e6 e7 e8 e9 e10 e11 e12 e13 e14 e15 m_s m_held m_aside m_before m_isHeld m_tape m_taped k5 v1 v7 0 m_isWrong m_due m_firsts m_rows m_rowN m_sortOf m_sizeOf m_numbers m_holdsWhat m_holdsWhich m_holdsMany m_bodies m_ran m_actKind m_actN m_actA m_isParted []) → va_S A s.heap H locs → lv_has ls 2 [(0, .ref e0)] → j8 v7 = some (m_token', m_from', m_to', m_value') → W p l e (headSpec wsX6_nextToken (rmX6_nextToken)).room s m (List.toArray [Value.ref e0]) below meth c H locs 0 0 Q (F0 m 126 ls []) := by
          intro v7 H locs ls hP hD hS hl hf
          rw [hj8] at hf
          obtain ⟨j11, hj11, hf⟩ := lj_e hf
          have Hj11 : ∀ (v9 : Int32) (v10 : Int32) (H : Heap) (locs : List Loc) (ls : Array Slot), va_P D vwCl (oMM C e0 e1 e2 e3 e4 e5 e6 e7 e8 e9 e10 e11 e12 e13 e14 e15 m_s m_held m_aside m_before m_isHeld m_tape m_taped k5 v1 v9 v10 m_isWrong m_due m_firsts m_rows m_rowN m_sortOf m_sizeOf m_numbers m_holdsWhat m_holdsWhich m_holdsMany m_bodies m_ran m_actKind m_actN m_actA m_isParted []) H → va_D A (oMM C e0 e1 e2 e3 e4 e5 e6 e7 e8 e9 e10 e11 e12 e13 e14 e15 m_s m_held m_aside m_before m_isHeld m_tape m_taped k5 v1 v9 v10 m_isWrong m_due m_firsts m_rows m_rowN m_sortOf m_sizeOf m_numbers m_holdsWhat m_holdsWhich m_holdsMany m_bodies m_ran m_actKind m_actN m_actA m_isParted []) → va_S A s.heap H locs → lv_has ls 2 [(0, .ref e0)] → j11 v9 v10 = some (m_token', m_from', m_to', m_value') → W p l e (headSpec wsX6_nextToken (rmX6_nextToken)).room s m (List.toArray [Value.ref e0]) below meth c H locs 0 0 Q (F0 m 201 ls []) := by
            intro v9 v10 H locs ls hP hD hS hl hf
            rw [hj11] at hf
            refine lv_aload_n hx hb dX6_nextToken_201 rfl (lv_at hl 0 rfl) ?_
            refine lv_dup hx hb dX6_nextToken_202 rfl ?_
            refine va_get (D := D) (ci := 6) (v := .int v9) (C := RX6) (T := TX6) (N := 28) hx hb hts hi_RX6 hown hK hP 0 rfl rfl 9 (by decide) (hts (.fieldLink RX6 70 "TravelMarksModel" "to" "I") (List.mem_of_getElem? (i := 1) rfl)) (fun _ h9 => h9) rfl dX6_nextToken_203 ?_
            refine lv_aload_n hx hb dX6_nextToken_206 rfl (lv_at hl 0 rfl) ?_
            refine va_get (D := D) (ci := 6) (v := .int k5) (C := RX6) (T := TX6) (N := 28) hx hb hts hi_RX6 hown hK hP 0 rfl rfl 7 (by decide) (hts (.fieldLink RX6 87 "TravelMarksModel" "token" "I") (List.mem_of_getElem? (i := 3) rfl)) (fun _ h9 => h9) rfl dX6_nextToken_207 ?_
            refine lv_iconst (v := 2) hx hb dX6_nextToken_210 rfl ?_
            obtain ⟨j13, hj13, hf⟩ := lj_e hf
            have Hj13 : ∀ (k12 : Int32) (H : Heap) (locs : List Loc) (ls : Array Slot), va_P D vwCl (oMM C e0 e1 e2 e3 e4 e5 e6 e7 e8 e9 e10 e11 e12 e13 e14 e15 m_s m_held m_aside m_before m_isHeld m_tape m_taped k5 v1 v9 v10 m_isWrong m_due m_firsts m_rows m_rowN m_sortOf m_sizeOf m_numbers m_holdsWhat m_holdsWhich m_holdsMany m_bodies m_ran m_actKind m_actN m_actA m_isParted []) H → va_D A (oMM C e0 e1 e2 e3 e4 e5 e6 e7 e8 e9 e10 e11 e12 e13 e14 e15 m_s m_held m_aside m_before m_isHeld m_tape m_taped k5 v1 v9 v10 m_isWrong m_due m_firsts m_rows m_rowN m_sortOf m_sizeOf m_numbers m_holdsWhat m_holdsWhich m_holdsMany m_bodies m_ran m_actKind m_actN m_actA m_isParted []) → va_S A s.heap H locs → lv_has ls 2 [] → j13 k12 = some (m_token', m_from', m_to', m_value') → W p l e (headSpec wsX6_nextToken (rmX6_nextToken)).room s m (List.toArray [Value.ref e0]) below meth c H locs 0 0 Q (F0 m 219 ls [.int k12, .int v9, .ref e0]) := by
              intro k12 H locs ls hP hD hS hl hf
              rw [hj13] at hf
              refine lv_iadd hx hb dX6_nextToken_219 ?_
              obtain ⟨t14, et14, hf⟩ := lj_e hf
              refine lv_ren et14 ?_
              refine va_put (D := D) (ci := 6) (v := .int t14) (ty := .int) (C := RX6) (T := TX6) (N := 28) hx hb hts hi_RX6 tyX6 tyX6_ok nmX6 hown hK hP hD hS 0 rfl rfl 9 (by decide) (hts (.fieldLink RX6 70 "TravelMarksModel" "to" "I") (List.mem_of_getElem? (i := 1) rfl)) (fun _ h9 => h9) rfl (tyX6_ok 9 (by decide)) rfl rfl (Nat.le_of_ble_eq_true rfl) dX6_nextToken_220 (fun H locs hP hD hS => ?_)
              have hP : va_P D vwCl (oMM C e0 e1 e2 e3 e4 e5 e6 e7 e8 e9 e10 e11 e12 e13 e14 e15 m_s m_held m_aside m_before m_isHeld m_tape m_taped k5 v1 t14 v10 m_isWrong m_due m_firsts m_rows m_rowN m_sortOf m_sizeOf m_numbers m_holdsWhat m_holdsWhich m_holdsMany m_bodies m_ran m_actKind m_actN m_actA m_isParted []) H := hP
              have hD : va_D A (oMM C e0 e1 e2 e3 e4 e5 e6 e7 e8 e9 e10 e11 e12 e13 e14 e15 m_s m_held m_aside m_before m_isHeld m_tape m_taped k5 v1 t14 v10 m_isWrong m_due m_firsts m_rows m_rowN m_sortOf m_sizeOf m_numbers m_holdsWhat m_holdsWhich m_holdsMany m_bodies m_ran m_actKind m_actN m_actA m_isParted []) := hD
              cases hf
              exact krv hQ hAe hx hb hr hlocks hP hD hK hS dX6_nextToken_223
            refine lv_icmp_le (tgt := 218) hx hb dX6_nextToken_211 (by decide) (fun c15 => ?_) (fun c15 => ?_)
            · replace hf := if_te c15 hf
              refine lv_iconst (v := 0) hx hb dX6_nextToken_218 rfl ?_
              exact Hj13 0 H locs ls hP hD hS (lv_sub hl [] rfl) hf
            · replace hf := if_fe c15 hf
              refine lv_iconst (v := 1) hx hb dX6_nextToken_214 rfl ?_
              refine lv_goto (tgt := 219) hx hb dX6_nextToken_215 (by decide) ?_
              exact Hj13 1 H locs ls hP hD hS (lv_sub hl [] rfl) hf
          have hL126 : ∀ (n : Nat) (v16 : Int32) (v17 : Int32) (H : Heap) (locs : List Loc) (ls : Array Slot), va_P D vwCl (oMM C e0 e1 e2 e3 e4 e5 e6 e7 e8 e9 e10 e11 e12 e13 e14 e15 m_s m_held m_aside m_before m_isHeld m_tape m_taped k5 v1 v16 v17 m_isWrong m_due m_firsts m_rows m_rowN m_sortOf m_sizeOf m_numbers m_holdsWhat m_holdsWhich m_holdsMany m_bodies m_ran m_actKind m_actN m_actA m_isParted []) H → va_D A (oMM C e0 e1 e2 e3 e4 e5 e6 e7 e8 e9 e10 e11 e12 e13 e14 e15 m_s m_held m_aside m_before m_isHeld m_tape m_taped k5 v1 v16 v17 m_isWrong m_due m_firsts m_rows m_rowN m_sortOf m_sizeOf m_numbers m_holdsWhat m_holdsWhich m_holdsMany m_bodies m_ran m_actKind m_actN m_actA m_isParted []) → va_S A s.heap H locs → lv_has ls 2 [(0, .ref e0)] → f_X6_nextToken_L126 m_tape m_taped k5 j11 n v16 v17 = some (m_token', m_from', m_to', m_value') → W p l e (headSpec wsX6_nextToken (rmX6_nextToken)).room s m (List.toArray [Value.ref e0]) below meth c H locs 0 0 Q (F0 m 126 ls []) := by
            intro n
            induction n with
            | zero =>
              intro v16 v17 H locs ls hP hD hS hl hf
              exact absurd hf (fun h => by cases h)
            | succ n ih =>
              intro v16 v17 H locs ls hP hD hS hl hf
              rw [f_X6_nextToken_L126] at hf
              refine lv_aload_n hx hb dX6_nextToken_126 rfl (lv_at hl 0 rfl) ?_
              refine va_get (D := D) (ci := 6) (v := .int k5) (C := RX6) (T := TX6) (N := 28) hx hb hts hi_RX6 hown hK hP 0 rfl rfl 7 (by decide) (hts (.fieldLink RX6 87 "TravelMarksModel" "token" "I") (List.mem_of_getElem? (i := 3) rfl)) (fun _ h9 => h9) rfl dX6_nextToken_127 ?_
              refine lv_iconst (v := 2) hx hb dX6_nextToken_130 rfl ?_
              refine lv_icmp_ne (tgt := 201) hx hb dX6_nextToken_131 (by decide) (fun c18 => ?_) (fun c18 => ?_)
              · replace hf := if_fe c18 hf
                exact Hj11 v16 v17 H locs ls hP hD hS (lv_sub hl [0] rfl) hf
              · replace hf := if_te c18 hf
                refine lv_aload_n hx hb dX6_nextToken_134 rfl (lv_at hl 0 rfl) ?_
                refine lv_aload_n hx hb dX6_nextToken_135 rfl (lv_at hl 0 rfl) ?_
                refine va_get (D := D) (ci := 6) (v := .int v16) (C := RX6) (T := TX6) (N := 28) hx hb hts hi_RX6 hown hK hP 0 rfl rfl 9 (by decide) (hts (.fieldLink RX6 70 "TravelMarksModel" "to" "I") (List.mem_of_getElem? (i := 1) rfl)) (fun _ h9 => h9) rfl dX6_nextToken_136 ?_
                obtain ⟨r19, h20, hf⟩ := ob1_e hf
                refine kmi (w1 := (oMM C e0 e1 e2 e3 e4 e5 e6 e7 e8 e9 e10 e11 e12 e13 e14 e15 m_s m_held m_aside m_before m_isHeld m_tape m_taped k5 v1 v16 v17 m_isWrong m_due m_firsts m_rows m_rowN m_sortOf m_sizeOf m_numbers m_holdsWhat m_holdsWhich m_holdsMany m_bodies m_ran m_actKind m_actN m_actA m_isParted [])) (va_runV (As := [.int v16]) (rest := []) ⟨hx, hb, hml, hown, hts⟩ (c_X6_byteAt l E D C e0 e1 e2 e3 e4 e5 e6 e7 e8 e9 e10 e11 e12 e13 e14 e15 H.size m_s m_held m_aside m_before m_isHeld m_tape m_taped k5 v1 v16 v17 m_isWrong m_due m_firsts m_rows m_rowN m_sortOf m_sizeOf m_numbers m_holdsWhat m_holdsWhich m_holdsMany m_bodies m_ran m_actKind m_actN m_actA m_isParted v16 r19 h20) (cwV 1 hts gX6_nextToken_X6_byteAt rfl rfl rfl hdX6_byteAt ⟨Nat.le_of_ble_eq_true rfl, Nat.le_of_ble_eq_true rfl⟩) (kpreM hP hD hK hS hE hA 0 rfl rfl rfl) rfl rfl hl.1 rfl (lv_room (Nat.le_of_ble_eq_true rfl)) dX6_nextToken_139 ⟨Nat.zero_le _, Nat.zero_le _⟩) hP hD hS hA rfl (fun H locs hP hD hS => ?_)
                refine kcz (Wx := (oMM C e0 e1 e2 e3 e4 e5 e6 e7 e8 e9 e10 e11 e12 e13 e14 e15 m_s m_held m_aside m_before m_isHeld m_tape m_taped k5 v1 v16 v17 m_isWrong m_due m_firsts m_rows m_rowN m_sortOf m_sizeOf m_numbers m_holdsWhat m_holdsWhich m_holdsMany m_bodies m_ran m_actKind m_actN m_actA m_isParted [])) (va_runS (As := [.int r19]) (rest := []) ⟨hx, hb, hml, hown, hts⟩ (c_X6_isDigit l E D C H.size r19 _ rfl) (va_cwS 1 hts gX6_nextToken_X6_isDigit rfl rfl rfl hdX6_isDigit ⟨Nat.le_of_ble_eq_true rfl, Nat.le_of_ble_eq_true rfl⟩) (kpre hP hD hK hS hE hA [] rfl rfl) rfl rfl hl.1 rfl (lv_room (Nat.le_of_ble_eq_true rfl)) dX6_nextToken_142 ⟨Nat.zero_le _, Nat.zero_le _⟩) hP hD hS hA [] rfl rfl rfl (fun H locs hz21 hP hD hS => ?_)
                refine lv_if_eq (tgt := 201) hx hb dX6_nextToken_145 (by decide) (fun c22 => ?_) (fun c22 => ?_)
                · replace hf := if_te c22 hf
                  exact Hj11 v16 v17 H locs ls hP hD hS (lv_sub hl [0] rfl) hf
                · replace hf := if_fe c22 hf
                  refine lv_aload_n hx hb dX6_nextToken_148 rfl (lv_at hl 0 rfl) ?_
                  refine lv_aload_n hx hb dX6_nextToken_149 rfl (lv_at hl 0 rfl) ?_
                  refine va_get (D := D) (ci := 6) (v := .int v17) (C := RX6) (T := TX6) (N := 28) hx hb hts hi_RX6 hown hK hP 0 rfl rfl 10 (by decide) (hts (.fieldLink RX6 90 "TravelMarksModel" "value" "I") (List.mem_of_getElem? (i := 4) rfl)) (fun _ h9 => h9) rfl dX6_nextToken_150 ?_
                  refine lv_sipush (v := 999) hx hb dX6_nextToken_153 rfl ?_
                  obtain ⟨j24, hj24, hf⟩ := lj_e hf
                  have Hj24 : ∀ (k23 : Int32) (H : Heap) (locs : List Loc) (ls : Array Slot), va_P D vwCl (oMM C e0 e1 e2 e3 e4 e5 e6 e7 e8 e9 e10 e11 e12 e13 e14 e15 m_s m_held m_aside m_before m_isHeld m_tape m_taped k5 v1 v16 v17 m_isWrong m_due m_firsts m_rows m_rowN m_sortOf m_sizeOf m_numbers m_holdsWhat m_holdsWhich m_holdsMany m_bodies m_ran m_actKind m_actN m_actA m_isParted []) H → va_D A (oMM C e0 e1 e2 e3 e4 e5 e6 e7 e8 e9 e10 e11 e12 e13 e14 e15 m_s m_held m_aside m_before m_isHeld m_tape m_taped k5 v1 v16 v17 m_isWrong m_due m_firsts m_rows m_rowN m_sortOf m_sizeOf m_numbers m_holdsWhat m_holdsWhich m_holdsMany m_bodies m_ran m_actKind m_actN m_actA m_isParted []) → va_S A s.heap H locs → lv_has ls 2 [(0, .ref e0)] → j24 k23 = some (m_token', m_from', m_to', m_value') → W p l e (headSpec wsX6_nextToken (rmX6_nextToken)).room s m (List.toArray [Value.ref e0]) below meth c H locs 0 0 Q (F0 m 185 ls [.int k23, .ref e0]) := by
                    intro k23 H locs ls hP hD hS hl hf
                    rw [hj24] at hf
                    refine va_put (D := D) (ci := 6) (v := .int k23) (ty := .int) (C := RX6) (T := TX6) (N := 28) hx hb hts hi_RX6 tyX6 tyX6_ok nmX6 hown hK hP hD hS 0 rfl rfl 10 (by decide) (hts (.fieldLink RX6 90 "TravelMarksModel" "value" "I") (List.mem_of_getElem? (i := 4) rfl)) (fun _ h9 => h9) rfl (tyX6_ok 10 (by decide)) rfl rfl (Nat.le_of_ble_eq_true rfl) dX6_nextToken_185 (fun H locs hP hD hS => ?_)
                    have hP : va_P D vwCl (oMM C e0 e1 e2 e3 e4 e5 e6 e7 e8 e9 e10 e11 e12 e13 e14 e15 m_s m_held m_aside m_before m_isHeld m_tape m_taped k5 v1 v16 k23 m_isWrong m_due m_firsts m_rows m_rowN m_sortOf m_sizeOf m_numbers m_holdsWhat m_holdsWhich m_holdsMany m_bodies m_ran m_actKind m_actN m_actA m_isParted []) H := hP
                    have hD : va_D A (oMM C e0 e1 e2 e3 e4 e5 e6 e7 e8 e9 e10 e11 e12 e13 e14 e15 m_s m_held m_aside m_before m_isHeld m_tape m_taped k5 v1 v16 k23 m_isWrong m_due m_firsts m_rows m_rowN m_sortOf m_sizeOf m_numbers m_holdsWhat m_holdsWhich m_holdsMany m_bodies m_ran m_actKind m_actN m_actA m_isParted []) := hD
                    refine lv_aload_n hx hb dX6_nextToken_188 rfl (lv_at hl 0 rfl) ?_
                    refine lv_dup hx hb dX6_nextToken_189 rfl ?_
                    refine va_get (D := D) (ci := 6) (v := .int v16) (C := RX6) (T := TX6) (N := 28) hx hb hts hi_RX6 hown hK hP 0 rfl rfl 9 (by decide) (hts (.fieldLink RX6 70 "TravelMarksModel" "to" "I") (List.mem_of_getElem? (i := 1) rfl)) (fun _ h9 => h9) rfl dX6_nextToken_190 ?_
                    refine lv_iconst (v := 1) hx hb dX6_nextToken_193 rfl ?_
                    refine lv_iadd hx hb dX6_nextToken_194 ?_
                    obtain ⟨t25, et25, hf⟩ := lj_e hf
                    refine lv_ren et25 ?_
                    refine va_put (D := D) (ci := 6) (v := .int t25) (ty := .int) (C := RX6) (T := TX6) (N := 28) hx hb hts hi_RX6 tyX6 tyX6_ok nmX6 hown hK hP hD hS 0 rfl rfl 9 (by decide) (hts (.fieldLink RX6 70 "TravelMarksModel" "to" "I") (List.mem_of_getElem? (i := 1) rfl)) (fun _ h9 => h9) rfl (tyX6_ok 9 (by decide)) rfl rfl (Nat.le_of_ble_eq_true rfl) dX6_nextToken_195 (fun H locs hP hD hS => ?_)
                    have hP : va_P D vwCl (oMM C e0 e1 e2 e3 e4 e5 e6 e7 e8 e9 e10 e11 e12 e13 e14 e15 m_s m_held m_aside m_before m_isHeld m_tape m_taped k5 v1 t25 k23 m_isWrong m_due m_firsts m_rows m_rowN m_sortOf m_sizeOf m_numbers m_holdsWhat m_holdsWhich m_holdsMany m_bodies m_ran m_actKind m_actN m_actA m_isParted []) H := hP
                    have hD : va_D A (oMM C e0 e1 e2 e3 e4 e5 e6 e7 e8 e9 e10 e11 e12 e13 e14 e15 m_s m_held m_aside m_before m_isHeld m_tape m_taped k5 v1 t25 k23 m_isWrong m_due m_firsts m_rows m_rowN m_sortOf m_sizeOf m_numbers m_holdsWhat m_holdsWhich m_holdsMany m_bodies m_ran m_actKind m_actN m_actA m_isParted []) := hD
                    refine lv_goto (tgt := 126) hx hb dX6_nextToken_198 (by decide) ?_
                    exact ih t25 k23 H locs ls hP hD hS (lv_sub hl [0] rfl) hf
                  refine lv_icmp_le (tgt := 166) hx hb dX6_nextToken_156 (by decide) (fun c26 => ?_) (fun c26 => ?_)
                  · replace hf := if_te c26 hf
                    refine lv_bipush (v := 10) hx hb dX6_nextToken_166 rfl ?_
                    refine lv_aload_n hx hb dX6_nextToken_168 rfl (lv_at hl 0 rfl) ?_
                    refine va_get (D := D) (ci := 6) (v := .int v17) (C := RX6) (T := TX6) (N := 28) hx hb hts hi_RX6 hown hK hP 0 rfl rfl 10 (by decide) (hts (.fieldLink RX6 90 "TravelMarksModel" "value" "I") (List.mem_of_getElem? (i := 4) rfl)) (fun _ h9 => h9) rfl dX6_nextToken_169 ?_
                    refine lv_imul hx hb dX6_nextToken_172 ?_
                    refine lv_aload_n hx hb dX6_nextToken_173 rfl (lv_at hl 0 rfl) ?_
                    refine lv_aload_n hx hb dX6_nextToken_174 rfl (lv_at hl 0 rfl) ?_
                    refine va_get (D := D) (ci := 6) (v := .int v16) (C := RX6) (T := TX6) (N := 28) hx hb hts hi_RX6 hown hK hP 0 rfl rfl 9 (by decide) (hts (.fieldLink RX6 70 "TravelMarksModel" "to" "I") (List.mem_of_getElem? (i := 1) rfl)) (fun _ h9 => h9) rfl dX6_nextToken_175 ?_
                    obtain ⟨r27, h28, hf⟩ := ob1_e hf
                    refine kmi (w1 := (oMM C e0 e1 e2 e3 e4 e5 e6 e7 e8 e9 e10 e11 e12 e13 e14 e15 m_s m_held m_aside m_before m_isHeld m_tape m_taped k5 v1 v16 v17 m_isWrong m_due m_firsts m_rows m_rowN m_sortOf m_sizeOf m_numbers m_holdsWhat m_holdsWhich m_holdsMany m_bodies m_ran m_actKind m_actN m_actA m_isParted [])) (va_runV (As := [.int v16]) (rest := [.int (10 * v17), .ref e0]) ⟨hx, hb, hml, hown, hts⟩ (c_X6_byteAt l E D C e0 e1 e2 e3 e4 e5 e6 e7 e8 e9 e10 e11 e12 e13 e14 e15 H.size m_s m_held m_aside m_before m_isHeld m_tape m_taped k5 v1 v16 v17 m_isWrong m_due m_firsts m_rows m_rowN m_sortOf m_sizeOf m_numbers m_holdsWhat m_holdsWhich m_holdsMany m_bodies m_ran m_actKind m_actN m_actA m_isParted v16 r27 h28) (cwV 1 hts gX6_nextToken_X6_byteAt rfl rfl rfl hdX6_byteAt ⟨Nat.le_of_ble_eq_true rfl, Nat.le_of_ble_eq_true rfl⟩) (kpreM hP hD hK hS hE hA 0 rfl rfl rfl) rfl rfl hl.1 rfl (lv_room (Nat.le_of_ble_eq_true rfl)) dX6_nextToken_178 ⟨Nat.zero_le _, Nat.zero_le _⟩) hP hD hS hA rfl (fun H locs hP hD hS => ?_)
                    refine lv_iadd hx hb dX6_nextToken_181 ?_
                    refine lv_bipush (v := 48) hx hb dX6_nextToken_182 rfl ?_
                    refine lv_isub hx hb dX6_nextToken_184 ?_
                    exact Hj24 (((10 * v17) + r27) - 48) H locs ls hP hD hS (lv_sub hl [0] rfl) hf
                  · replace hf := if_fe c26 hf
                    refine lv_aload_n hx hb dX6_nextToken_159 rfl (lv_at hl 0 rfl) ?_
                    refine va_get (D := D) (ci := 6) (v := .int v17) (C := RX6) (T := TX6) (N := 28) hx hb hts hi_RX6 hown hK hP 0 rfl rfl 10 (by decide) (hts (.fieldLink RX6 90 "TravelMarksModel" "value" "I") (List.mem_of_getElem? (i := 4) rfl)) (fun _ h9 => h9) rfl dX6_nextToken_160 ?_
                    refine lv_goto (tgt := 185) hx hb dX6_nextToken_163 (by decide) ?_
                    exact Hj24 v17 H locs ls hP hD hS (lv_sub hl [0] rfl) hf
          exact hL126 N v7 0 H locs ls hP hD hS (lv_sub hl [0] rfl) hf
        have hL91 : ∀ (n : Nat) (v29 : Int32) (H : Heap) (locs : List Loc) (ls : Array Slot), va_P D vwCl (oMM C e0 e1 e2 e3 e4 e5 e6 e7 e8 e9 e10 e11 e12 e13 e14 e15 m_s m_held m_aside m_before m_isHeld m_tape m_taped k5 v1 v29 0 m_isWrong m_due m_firsts m_rows m_rowN m_sortOf m_sizeOf m_numbers m_holdsWhat m_holdsWhich m_holdsMany m_bodies m_ran m_actKind m_actN m_actA m_isParted []) H → va_D A (oMM C e0 e1 e2 e3 e4 e5 e6 e7 e8 e9 e10 e11 e12 e13 e14 e15 m_s m_held m_aside m_before m_isHeld m_tape m_taped k5 v1 v29 0 m_isWrong m_due m_firsts m_rows m_rowN m_sortOf m_sizeOf m_numbers m_holdsWhat m_holdsWhich m_holdsMany m_bodies m_ran m_actKind m_actN m_actA m_isParted []) → va_S A s.heap H locs → lv_has ls 2 [(0, .ref e0)] → f_X6_nextToken_L91 m_tape m_taped k5 j8 n v29 = some (m_token', m_from', m_to', m_value') → W p l e (headSpec wsX6_nextToken (rmX6_nextToken)).room s m (List.toArray [Value.ref e0]) below meth c H locs 0 0 Q (F0 m 91 ls []) := by
          intro n
          induction n with
          | zero =>
            intro v29 H locs ls hP hD hS hl hf
            exact absurd hf (fun h => by cases h)
          | succ n ih =>
            intro v29 H locs ls hP hD hS hl hf
            rw [f_X6_nextToken_L91] at hf
            refine lv_aload_n hx hb dX6_nextToken_91 rfl (lv_at hl 0 rfl) ?_
            refine va_get (D := D) (ci := 6) (v := .int k5) (C := RX6) (T := TX6) (N := 28) hx hb hts hi_RX6 hown hK hP 0 rfl rfl 7 (by decide) (hts (.fieldLink RX6 87 "TravelMarksModel" "token" "I") (List.mem_of_getElem? (i := 3) rfl)) (fun _ h9 => h9) rfl dX6_nextToken_92 ?_
            refine lv_iconst (v := 1) hx hb dX6_nextToken_95 rfl ?_
            refine lv_icmp_ne (tgt := 126) hx hb dX6_nextToken_96 (by decide) (fun c30 => ?_) (fun c30 => ?_)
            · replace hf := if_fe c30 hf
              exact Hj8 v29 H locs ls hP hD hS (lv_sub hl [0] rfl) hf
            · replace hf := if_te c30 hf
              refine lv_aload_n hx hb dX6_nextToken_99 rfl (lv_at hl 0 rfl) ?_
              refine lv_aload_n hx hb dX6_nextToken_100 rfl (lv_at hl 0 rfl) ?_
              refine va_get (D := D) (ci := 6) (v := .int v29) (C := RX6) (T := TX6) (N := 28) hx hb hts hi_RX6 hown hK hP 0 rfl rfl 9 (by decide) (hts (.fieldLink RX6 70 "TravelMarksModel" "to" "I") (List.mem_of_getElem? (i := 1) rfl)) (fun _ h9 => h9) rfl dX6_nextToken_101 ?_
              obtain ⟨r31, h32, hf⟩ := ob1_e hf
              refine kmi (w1 := (oMM C e0 e1 e2 e3 e4 e5 e6 e7 e8 e9 e10 e11 e12 e13 e14 e15 m_s m_held m_aside m_before m_isHeld m_tape m_taped k5 v1 v29 0 m_isWrong m_due m_firsts m_rows m_rowN m_sortOf m_sizeOf m_numbers m_holdsWhat m_holdsWhich m_holdsMany m_bodies m_ran m_actKind m_actN m_actA m_isParted [])) (va_runV (As := [.int v29]) (rest := []) ⟨hx, hb, hml, hown, hts⟩ (c_X6_byteAt l E D C e0 e1 e2 e3 e4 e5 e6 e7 e8 e9 e10 e11 e12 e13 e14 e15 H.size m_s m_held m_aside m_before m_isHeld m_tape m_taped k5 v1 v29 0 m_isWrong m_due m_firsts m_rows m_rowN m_sortOf m_sizeOf m_numbers m_holdsWhat m_holdsWhich m_holdsMany m_bodies m_ran m_actKind m_actN m_actA m_isParted v29 r31 h32) (cwV 1 hts gX6_nextToken_X6_byteAt rfl rfl rfl hdX6_byteAt ⟨Nat.le_of_ble_eq_true rfl, Nat.le_of_ble_eq_true rfl⟩) (kpreM hP hD hK hS hE hA 0 rfl rfl rfl) rfl rfl hl.1 rfl (lv_room (Nat.le_of_ble_eq_true rfl)) dX6_nextToken_104 ⟨Nat.zero_le _, Nat.zero_le _⟩) hP hD hS hA rfl (fun H locs hP hD hS => ?_)
              refine kcz (Wx := (oMM C e0 e1 e2 e3 e4 e5 e6 e7 e8 e9 e10 e11 e12 e13 e14 e15 m_s m_held m_aside m_before m_isHeld m_tape m_taped k5 v1 v29 0 m_isWrong m_due m_firsts m_rows m_rowN m_sortOf m_sizeOf m_numbers m_holdsWhat m_holdsWhich m_holdsMany m_bodies m_ran m_actKind m_actN m_actA m_isParted [])) (va_runS (As := [.int r31]) (rest := []) ⟨hx, hb, hml, hown, hts⟩ (c_X6_isAlpha l E D C H.size r31 _ rfl) (va_cwS 1 hts gX6_nextToken_X6_isAlpha rfl rfl rfl hdX6_isAlpha ⟨Nat.le_of_ble_eq_true rfl, Nat.le_of_ble_eq_true rfl⟩) (kpre hP hD hK hS hE hA [] rfl rfl) rfl rfl hl.1 rfl (lv_room (Nat.le_of_ble_eq_true rfl)) dX6_nextToken_107 ⟨Nat.zero_le _, Nat.zero_le _⟩) hP hD hS hA [] rfl rfl rfl (fun H locs hz33 hP hD hS => ?_)
              refine lv_if_eq (tgt := 126) hx hb dX6_nextToken_110 (by decide) (fun c34 => ?_) (fun c34 => ?_)
              · replace hf := if_te c34 hf
                exact Hj8 v29 H locs ls hP hD hS (lv_sub hl [0] rfl) hf
              · replace hf := if_fe c34 hf
                refine lv_aload_n hx hb dX6_nextToken_113 rfl (lv_at hl 0 rfl) ?_
                refine lv_dup hx hb dX6_nextToken_114 rfl ?_
                refine va_get (D := D) (ci := 6) (v := .int v29) (C := RX6) (T := TX6) (N := 28) hx hb hts hi_RX6 hown hK hP 0 rfl rfl 9 (by decide) (hts (.fieldLink RX6 70 "TravelMarksModel" "to" "I") (List.mem_of_getElem? (i := 1) rfl)) (fun _ h9 => h9) rfl dX6_nextToken_115 ?_
                refine lv_iconst (v := 1) hx hb dX6_nextToken_118 rfl ?_
                refine lv_iadd hx hb dX6_nextToken_119 ?_
                obtain ⟨t35, et35, hf⟩ := lj_e hf
                refine lv_ren et35 ?_
                refine va_put (D := D) (ci := 6) (v := .int t35) (ty := .int) (C := RX6) (T := TX6) (N := 28) hx hb hts hi_RX6 tyX6 tyX6_ok nmX6 hown hK hP hD hS 0 rfl rfl 9 (by decide) (hts (.fieldLink RX6 70 "TravelMarksModel" "to" "I") (List.mem_of_getElem? (i := 1) rfl)) (fun _ h9 => h9) rfl (tyX6_ok 9 (by decide)) rfl rfl (Nat.le_of_ble_eq_true rfl) dX6_nextToken_120 (fun H locs hP hD hS => ?_)
                have hP : va_P D vwCl (oMM C e0 e1 e2 e3 e4 e5 e6 e7 e8 e9 e10 e11 e12 e13 e14 e15 m_s m_held m_aside m_before m_isHeld m_tape m_taped k5 v1 t35 0 m_isWrong m_due m_firsts m_rows m_rowN m_sortOf m_sizeOf m_numbers m_holdsWhat m_holdsWhich m_holdsMany m_bodies m_ran m_actKind m_actN m_actA m_isParted []) H := hP
                have hD : va_D A (oMM C e0 e1 e2 e3 e4 e5 e6 e7 e8 e9 e10 e11 e12 e13 e14 e15 m_s m_held m_aside m_before m_isHeld m_tape m_taped k5 v1 t35 0 m_isWrong m_due m_firsts m_rows m_rowN m_sortOf m_sizeOf m_numbers m_holdsWhat m_holdsWhich m_holdsMany m_bodies m_ran m_actKind m_actN m_actA m_isParted []) := hD
                refine lv_goto (tgt := 91) hx hb dX6_nextToken_123 (by decide) ?_
                exact ih t35 H locs ls hP hD hS (lv_sub hl [0] rfl) hf
        exact hL91 N v1 H locs ls hP hD hS (lv_sub hl [0] rfl) hf
      refine lv_if_ge (tgt := 60) hx hb dX6_nextToken_53 (by decide) (fun c36 => ?_) (fun c36 => ?_)
      · replace hf := if_te c36 hf
        refine lv_iload_n hx hb dX6_nextToken_60 rfl (lv_at hl 0 rfl) ?_
        refine kcz (Wx := (oMM C e0 e1 e2 e3 e4 e5 e6 e7 e8 e9 e10 e11 e12 e13 e14 e15 m_s m_held m_aside m_before m_isHeld m_tape m_taped m_token v1 v1 m_value m_isWrong m_due m_firsts m_rows m_rowN m_sortOf m_sizeOf m_numbers m_holdsWhat m_holdsWhich m_holdsMany m_bodies m_ran m_actKind m_actN m_actA m_isParted [])) (va_runS (As := [.int r3]) (rest := [.ref e0]) ⟨hx, hb, hml, hown, hts⟩ (c_X6_isAlpha l E D C H.size r3 _ rfl) (va_cwS 1 hts gX6_nextToken_X6_isAlpha rfl rfl rfl hdX6_isAlpha ⟨Nat.le_of_ble_eq_true rfl, Nat.le_of_ble_eq_true rfl⟩) (kpre hP hD hK hS hE hA [] rfl rfl) rfl rfl hl.1 rfl (lv_room (Nat.le_of_ble_eq_true rfl)) dX6_nextToken_61 ⟨Nat.zero_le _, Nat.zero_le _⟩) hP hD hS hA [] rfl rfl rfl (fun H locs hz37 hP hD hS => ?_)
        refine lv_if_eq (tgt := 71) hx hb dX6_nextToken_64 (by decide) (fun c38 => ?_) (fun c38 => ?_)
        · replace hf := if_te c38 hf
          refine lv_iload_n hx hb dX6_nextToken_71 rfl (lv_at hl 0 rfl) ?_
          refine kcz (Wx := (oMM C e0 e1 e2 e3 e4 e5 e6 e7 e8 e9 e10 e11 e12 e13 e14 e15 m_s m_held m_aside m_before m_isHeld m_tape m_taped m_token v1 v1 m_value m_isWrong m_due m_firsts m_rows m_rowN m_sortOf m_sizeOf m_numbers m_holdsWhat m_holdsWhich m_holdsMany m_bodies m_ran m_actKind m_actN m_actA m_isParted [])) (va_runS (As := [.int r3]) (rest := [.ref e0]) ⟨hx, hb, hml, hown, hts⟩ (c_X6_isDigit l E D C H.size r3 _ rfl) (va_cwS 1 hts gX6_nextToken_X6_isDigit rfl rfl rfl hdX6_isDigit ⟨Nat.le_of_ble_eq_true rfl, Nat.le_of_ble_eq_true rfl⟩) (kpre hP hD hK hS hE hA [] rfl rfl) rfl rfl hl.1 rfl (lv_room (Nat.le_of_ble_eq_true rfl)) dX6_nextToken_72 ⟨Nat.zero_le _, Nat.zero_le _⟩) hP hD hS hA [] rfl rfl rfl (fun H locs hz39 hP hD hS => ?_)
          refine lv_if_eq (tgt := 82) hx hb dX6_nextToken_75 (by decide) (fun c40 => ?_) (fun c40 => ?_)
          · replace hf := if_te c40 hf
            refine lv_iconst (v := 3) hx hb dX6_nextToken_82 rfl ?_
            exact Hj6 3 H locs ls hP hD hS (lv_sub hl [1] rfl) hf
          · replace hf := if_fe c40 hf
            refine lv_iconst (v := 2) hx hb dX6_nextToken_78 rfl ?_
            refine lv_goto (tgt := 83) hx hb dX6_nextToken_79 (by decide) ?_
            exact Hj6 2 H locs ls hP hD hS (lv_sub hl [1] rfl) hf
        · replace hf := if_fe c38 hf
          refine lv_iconst (v := 1) hx hb dX6_nextToken_67 rfl ?_
          refine lv_goto (tgt := 83) hx hb dX6_nextToken_68 (by decide) ?_
          exact Hj6 1 H locs ls hP hD hS (lv_sub hl [1] rfl) hf
      · replace hf := if_fe c36 hf
        refine lv_iconst (v := 0) hx hb dX6_nextToken_56 rfl ?_
        refine lv_goto (tgt := 83) hx hb dX6_nextToken_57 (by decide) ?_
        exact Hj6 0 H locs ls hP hD hS (lv_sub hl [1] rfl) hf
    have hL8 : ∀ (n : Nat) (v41 : Int32) (H : Heap) (locs : List Loc) (ls : Array Slot), va_P D vwCl (oMM C e0 e1 e2 e3 e4 e5 e6 e7 e8 e9 e10 e11 e12 e13 e14 e15 m_s m_held m_aside m_before m_isHeld m_tape m_taped m_token v41 m_to m_value m_isWrong m_due m_firsts m_rows m_rowN m_sortOf m_sizeOf m_numbers m_holdsWhat m_holdsWhich m_holdsMany m_bodies m_ran m_actKind m_actN m_actA m_isParted []) H → va_D A (oMM C e0 e1 e2 e3 e4 e5 e6 e7 e8 e9 e10 e11 e12 e13 e14 e15 m_s m_held m_aside m_before m_isHeld m_tape m_taped m_token v41 m_to m_value m_isWrong m_due m_firsts m_rows m_rowN m_sortOf m_sizeOf m_numbers m_holdsWhat m_holdsWhich m_holdsMany m_bodies m_ran m_actKind m_actN m_actA m_isParted []) → va_S A s.heap H locs → lv_has ls 2 [(0, .ref e0)] → f_X6_nextToken_L8 m_tape m_taped j2 n v41 = some (m_token', m_from', m_to', m_value') → W p l e (headSpec wsX6_nextToken (rmX6_nextToken)).room s m (List.toArray [Value.ref e0]) below meth c H locs 0 0 Q (F0 m 8 ls []) := by
      intro n
      induction n with
      | zero =>
        intro v41 H locs ls hP hD hS hl hf
        exact absurd hf (fun h => by cases h)
      | succ n ih =>
        intro v41 H locs ls hP hD hS hl hf
        rw [f_X6_nextToken_L8] at hf
        refine lv_aload_n hx hb dX6_nextToken_8 rfl (lv_at hl 0 rfl) ?_
        refine lv_aload_n hx hb dX6_nextToken_9 rfl (lv_at hl 0 rfl) ?_
        refine va_get (D := D) (ci := 6) (v := .int v41) (C := RX6) (T := TX6) (N := 28) hx hb hts hi_RX6 hown hK hP 0 rfl rfl 8 (by decide) (hts (.fieldLink RX6 73 "TravelMarksModel" "from" "I") (List.mem_of_getElem? (i := 2) rfl)) (fun _ h9 => h9) rfl dX6_nextToken_10 ?_
        obtain ⟨r42, h43, hf⟩ := ob1_e hf
        refine kmi (w1 := (oMM C e0 e1 e2 e3 e4 e5 e6 e7 e8 e9 e10 e11 e12 e13 e14 e15 m_s m_held m_aside m_before m_isHeld m_tape m_taped m_token v41 m_to m_value m_isWrong m_due m_firsts m_rows m_rowN m_sortOf m_sizeOf m_numbers m_holdsWhat m_holdsWhich m_holdsMany m_bodies m_ran m_actKind m_actN m_actA m_isParted [])) (va_runV (As := [.int v41]) (rest := []) ⟨hx, hb, hml, hown, hts⟩ (c_X6_byteAt l E D C e0 e1 e2 e3 e4 e5 e6 e7 e8 e9 e10 e11 e12 e13 e14 e15 H.size m_s m_held m_aside m_before m_isHeld m_tape m_taped m_token v41 m_to m_value m_isWrong m_due m_firsts m_rows m_rowN m_sortOf m_sizeOf m_numbers m_holdsWhat m_holdsWhich m_holdsMany m_bodies m_ran m_actKind m_actN m_actA m_isParted v41 r42 h43) (cwV 1 hts gX6_nextToken_X6_byteAt rfl rfl rfl hdX6_byteAt ⟨Nat.le_of_ble_eq_true rfl, Nat.le_of_ble_eq_true rfl⟩) (kpreM hP hD hK hS hE hA 0 rfl rfl rfl) rfl rfl hl.1 rfl (lv_room (Nat.le_of_ble_eq_true rfl)) dX6_nextToken_13 ⟨Nat.zero_le _, Nat.zero_le _⟩) hP hD hS hA rfl (fun H locs hP hD hS => ?_)
        refine lv_bipush (v := 32) hx hb dX6_nextToken_16 rfl ?_
        refine lv_icmp_ne (tgt := 34) hx hb dX6_nextToken_18 (by decide) (fun c44 => ?_) (fun c44 => ?_)
        · replace hf := if_fe c44 hf
          exact Hj2 v41 H locs ls hP hD hS (lv_sub hl [0] rfl) hf
        · replace hf := if_te c44 hf
          refine lv_aload_n hx hb dX6_nextToken_21 rfl (lv_at hl 0 rfl) ?_
          refine lv_dup hx hb dX6_nextToken_22 rfl ?_
          refine va_get (D := D) (ci := 6) (v := .int v41) (C := RX6) (T := TX6) (N := 28) hx hb hts hi_RX6 hown hK hP 0 rfl rfl 8 (by decide) (hts (.fieldLink RX6 73 "TravelMarksModel" "from" "I") (List.mem_of_getElem? (i := 2) rfl)) (fun _ h9 => h9) rfl dX6_nextToken_23 ?_
          refine lv_iconst (v := 1) hx hb dX6_nextToken_26 rfl ?_
          refine lv_iadd hx hb dX6_nextToken_27 ?_
          obtain ⟨t45, et45, hf⟩ := lj_e hf
          refine lv_ren et45 ?_
          refine va_put (D := D) (ci := 6) (v := .int t45) (ty := .int) (C := RX6) (T := TX6) (N := 28) hx hb hts hi_RX6 tyX6 tyX6_ok nmX6 hown hK hP hD hS 0 rfl rfl 8 (by decide) (hts (.fieldLink RX6 73 "TravelMarksModel" "from" "I") (List.mem_of_getElem? (i := 2) rfl)) (fun _ h9 => h9) rfl (tyX6_ok 8 (by decide)) rfl rfl (Nat.le_of_ble_eq_true rfl) dX6_nextToken_28 (fun H locs hP hD hS => ?_)
          have hP : va_P D vwCl (oMM C e0 e1 e2 e3 e4 e5 e6 e7 e8 e9 e10 e11 e12 e13 e14 e15 m_s m_held m_aside m_before m_isHeld m_tape m_taped m_token t45 m_to m_value m_isWrong m_due m_firsts m_rows m_rowN m_sortOf m_sizeOf m_numbers m_holdsWhat m_holdsWhich m_holdsMany m_bodies m_ran m_actKind m_actN m_actA m_isParted []) H := hP
          have hD : va_D A (oMM C e0 e1 e2 e3 e4 e5 e6 e7 e8 e9 e10 e11 e12 e13 e14 e15 m_s m_held m_aside m_before m_isHeld m_tape m_taped m_token t45 m_to m_value m_isWrong m_due m_firsts m_rows m_rowN m_sortOf m_sizeOf m_numbers m_holdsWhat m_holdsWhich m_holdsMany m_bodies m_ran m_actKind m_actN m_actA m_isParted []) := hD
          refine lv_goto (tgt := 8) hx hb dX6_nextToken_31 (by decide) ?_
          exact ih t45 H locs ls hP hD hS (lv_sub hl [0] rfl) hf
    exact hL8 N m_to H locs ls hP hD hS (lv_sub hl [0] rfl) hf
  exact main _ _ hP hD hS

def rmX6_needs : Room := { frames := 2, cells := 0, slots := 0, locals := 42 }
theorem hdX6_needs : yX6_needs.cls = RX6 ∧ yX6_needs.cls ≠ "java/lang/invoke/MethodHandle" ∧ yX6_needs.cls ≠ "java/lang/invoke/VarHandle" ∧ (parseMethodDescriptor yX6_needs.desc).map (fun d => d.parameters.length) = some 1 := by decide +kernel
set_option maxHeartbeats 40000000 in
set_option maxRecDepth 100000 in
theorem c_X6_needs (l : Launch) (E : Nat → Nat) (D : va_G) (C : Nat → ClassId) (e0 e1 e2 e3 e4 e5 e6 e7 e8 e9 e10 e11 e12 e13 e14 e15 : Nat) (sz : Nat) (N : Nat) (m_s : Nat → Int32) (m_held : Nat → Int32) (m_aside : Nat → Int32) (m_before : Nat → Int32) (m_isHeld : Int32) (m_tape : Nat → Int32) (m_taped : Int32) (m_token : Int32) (m_from : Int32) (m_to : Int32) (m_value : Int32) (m_isWrong : Int32) (m_due : Nat → Int32) (m_firsts : Nat → Int32) (m_rows : Nat → Int32) (m_rowN : Int32) (m_sortOf : Nat → Int32) (m_sizeOf : Nat → Int32) (m_numbers : Nat → Int32) (m_holdsWhat : Nat → Int32) (m_holdsWhich : Nat → Int32) (m_holdsMany : Nat → Int32) (m_bodies : Nat → Int32) (m_ran : Int32) (m_actKind : Int32) (m_actN : Int32) (m_actA : Int32) (m_isParted : Int32) (x0 : Int32) (m_token' : Int32) (m_from' : Int32) (m_to' : Int32) (m_value' : Int32) (m_isWrong' : Int32) (hf : f_X6_needs N m_tape m_taped m_token m_from m_to m_value m_isWrong x0 = some (m_token', m_from', m_to', m_value', m_isWrong')) : Met l yX6_needs wsX6_needs rmX6_needs (PC E D C [.ref e0, .int x0] (oMM C e0 e1 e2 e3 e4 e5 e6 e7 e8 e9 e10 e11 e12 e13 e14 e15 m_s m_held m_aside m_before m_isHeld m_tape m_taped m_token m_from m_to m_value m_isWrong m_due m_firsts m_rows m_rowN m_sortOf m_sizeOf m_numbers m_holdsWhat m_holdsWhich m_holdsMany m_bodies m_ran m_actKind m_actN m_actA m_isParted []) sz) (QV D C (oMM C e0 e1 e2 e3 e4 e5 e6 e7 e8 e9 e10 e11 e12 e13 e14 e15 m_s m_held m_aside m_before m_isHeld m_tape m_taped m_token m_from m_to m_value m_isWrong m_due m_firsts m_rows m_rowN m_sortOf m_sizeOf m_numbers m_holdsWhat m_holdsWhich m_holdsMany m_bodies m_ran m_actKind m_actN m_actA m_isParted []) (oMM C e0 e1 e2 e3 e4 e5 e6 e7 e8 e9 e10 e11 e12 e13 e14 e15 m_s m_held m_aside m_before m_isHeld m_tape m_taped (m_token') (m_from') (m_to') (m_value') (m_isWrong') m_due m_firsts m_rows m_rowN m_sortOf m_sizeOf m_numbers m_holdsWhat m_holdsWhich m_holdsMany m_bodies m_ran m_actKind m_actN m_actA m_isParted []) sz) 0 0 (va_A (oMM C e0 e1 e2 e3 e4 e5 e6 e7 e8 e9 e10 e11 e12 e13 e14 e15 m_s m_held m_aside m_before m_isHeld m_tape m_taped m_token m_from m_to m_value m_isWrong m_due m_firsts m_rows m_rowN m_sortOf m_sizeOf m_numbers m_holdsWhat m_holdsWhich m_holdsMany m_bodies m_ran m_actKind m_actN m_actA m_isParted []) sz) := by
  refine Met.ofW (cc := cX6_needs) (maxL := 2) (ret := none) (by decide) rfl ?_
  intro p e s m args below meth c s₁ B hml hv
  obtain ⟨rfl, hsz, hP, hK, hD0, hE⟩ := hv
  have hx := B.exec
  have hb := B.bytes
  have hr := B.returns
  have hts := atoms_spec (ws := wsX6_needs) B.pre
  have hown : s.vm.findClass RX6 = some m.cls := findClass_of_methodNamed B.named
  have hlocks := B.notSynchronized
  subst hsz
  have hi_RX6 : ∀ w ∈ wsX60, w ∈ wsX6_needs := fun _ h => List.mem_cons_of_mem _ (List.mem_append_right _ h)
  have hD := hD0.self (sz := s.heap.size)
  obtain ⟨A, hAe⟩ := nm_ex (va_A (oMM C e0 e1 e2 e3 e4 e5 e6 e7 e8 e9 e10 e11 e12 e13 e14 e15 m_s m_held m_aside m_before m_isHeld m_tape m_taped m_token m_from m_to m_value m_isWrong m_due m_firsts m_rows m_rowN m_sortOf m_sizeOf m_numbers m_holdsWhat m_holdsWhich m_holdsMany m_bodies m_ran m_actKind m_actN m_actA m_isParted []) s.heap.size)
  rw [← hAe] at hD hE ⊢
  have hA : ∀ q : Nat, s.heap.size ≤ q → A q := fun q h => by rw [hAe]; exact Or.inr h
  have hS : va_S A s.heap s.heap [] := va_S.rf
  have hl := lv_entry ([.ref e0, .int x0]) (n := 2) (Nat.le_of_ble_eq_true rfl)
  rw [lg_entry_eq]
  generalize (lg_sl ([.ref e0, .int x0]) ++ List.replicate (2 - (lg_sl ([.ref e0, .int x0])).length) Slot.unset).toArray = ls at hl ⊢
  have hl : lv_has ls 2 [(0, .ref e0), (1, .int x0)] := hl
  obtain ⟨Q, hQ⟩ := nm_ex (MQ below (QV D C (oMM C e0 e1 e2 e3 e4 e5 e6 e7 e8 e9 e10 e11 e12 e13 e14 e15 m_s m_held m_aside m_before m_isHeld m_tape m_taped m_token m_from m_to m_value m_isWrong m_due m_firsts m_rows m_rowN m_sortOf m_sizeOf m_numbers m_holdsWhat m_holdsWhich m_holdsMany m_bodies m_ran m_actKind m_actN m_actA m_isParted []) (oMM C e0 e1 e2 e3 e4 e5 e6 e7 e8 e9 e10 e11 e12 e13 e14 e15 m_s m_held m_aside m_before m_isHeld m_tape m_taped (m_token') (m_from') (m_to') (m_value') (m_isWrong') m_due m_firsts m_rows m_rowN m_sortOf m_sizeOf m_numbers m_holdsWhat m_holdsWhich m_holdsMany m_bodies m_ran m_actKind m_actN m_actA m_isParted []) s.heap.size) (List.toArray [Value.ref e0, Value.int x0]) s 0 0 A)
  show W p l e (headSpec wsX6_needs (rmX6_needs)).room s m (List.toArray [Value.ref e0, Value.int x0]) below meth c s.heap [] 0 0 (MQ below (QV D C (oMM C e0 e1 e2 e3 e4 e5 e6 e7 e8 e9 e10 e11 e12 e13 e14 e15 m_s m_held m_aside m_before m_isHeld m_tape m_taped m_token m_from m_to m_value m_isWrong m_due m_firsts m_rows m_rowN m_sortOf m_sizeOf m_numbers m_holdsWhat m_holdsWhich m_holdsMany m_bodies m_ran m_actKind m_actN m_actA m_isParted []) (oMM C e0 e1 e2 e3 e4 e5 e6 e7 e8 e9 e10 e11 e12 e13 e14 e15 m_s m_held m_aside m_before m_isHeld m_tape m_taped (m_token') (m_from') (m_to') (m_value') (m_isWrong') m_due m_firsts m_rows m_rowN m_sortOf m_sizeOf m_numbers m_holdsWhat m_holdsWhich m_holdsMany m_bodies m_ran m_actKind m_actN m_actA m_isParted []) s.heap.size) (List.toArray [Value.ref e0, Value.int x0]) s 0 0 A) _
  rw [← hQ]
  unfold f_X6_needs at hf
  have main : ∀ (H : Heap) (locs : List Loc), va_P D vwCl (oMM C e0 e1 e2 e3 e4 e5 e6 e7 e8 e9 e10 e11 e12 e13 e14 e15 m_s m_held m_aside m_before m_isHeld m_tape m_taped m_token m_from m_to m_value m_isWrong m_due m_firsts m_rows m_rowN m_sortOf m_sizeOf m_numbers m_holdsWhat m_holdsWhich m_holdsMany m_bodies m_ran m_actKind m_actN m_actA m_isParted []) H → va_D A (oMM C e0 e1 e2 e3 e4 e5 e6 e7 e8 e9 e10 e11 e12 e13 e14 e15 m_s m_held m_aside m_before m_isHeld m_tape m_taped m_token m_from m_to m_value m_isWrong m_due m_firsts m_rows m_rowN m_sortOf m_sizeOf m_numbers m_holdsWhat m_holdsWhich m_holdsMany m_bodies m_ran m_actKind m_actN m_actA m_isParted []) → va_S A s.heap H locs → W p l e (headSpec wsX6_needs (rmX6_needs)).room s m (List.toArray [Value.ref e0, Value.int x0]) below meth c H locs 0 0 Q (F0 m 0 ls []) := by
    intro H locs hP hD hS
    refine lv_aload_n hx hb dX6_needs_0 rfl (lv_at hl 0 rfl) ?_
    refine lv_aload_n hx hb dX6_needs_1 rfl (lv_at hl 0 rfl) ?_
    refine va_get (D := D) (ci := 6) (v := .int m_isWrong) (C := RX6) (T := TX6) (N := 28) hx hb hts hi_RX6 hown hK hP 0 rfl rfl 11 (by decide) (hts (.fieldLink RX6 93 "TravelMarksModel" "isWrong" "Z") (List.mem_of_getElem? (i := 1) rfl)) (fun _ h9 => h9) rfl dX6_needs_2 ?_
    obtain ⟨j2, hj2, hf⟩ := lj_e hf
    have Hj2 : ∀ (k1 : Int32) (H : Heap) (locs : List Loc) (ls : Array Slot), va_P D vwCl (oMM C e0 e1 e2 e3 e4 e5 e6 e7 e8 e9 e10 e11 e12 e13 e14 e15 m_s m_held m_aside m_before m_isHeld m_tape m_taped m_token m_from m_to m_value m_isWrong m_due m_firsts m_rows m_rowN m_sortOf m_sizeOf m_numbers m_holdsWhat m_holdsWhich m_holdsMany m_bodies m_ran m_actKind m_actN m_actA m_isParted []) H → va_D A (oMM C e0 e1 e2 e3 e4 e5 e6 e7 e8 e9 e10 e11 e12 e13 e14 e15 m_s m_held m_aside m_before m_isHeld m_tape m_taped m_token m_from m_to m_value m_isWrong m_due m_firsts m_rows m_rowN m_sortOf m_sizeOf m_numbers m_holdsWhat m_holdsWhich m_holdsMany m_bodies m_ran m_actKind m_actN m_actA m_isParted []) → va_S A s.heap H locs → lv_has ls 2 [(0, .ref e0)] → j2 k1 = some (m_token', m_from', m_to', m_value', m_isWrong') → W p l e (headSpec wsX6_needs (rmX6_needs)).room s m (List.toArray [Value.ref e0, Value.int x0]) below meth c H locs 0 0 Q (F0 m 17 ls [.int k1, .ref e0]) := by
      intro k1 H locs ls hP hD hS hl hf
      rw [hj2] at hf
      obtain ⟨hz3, hf⟩ := gdP_e hf
      refine va_put (D := D) (ci := 6) (v := .int k1) (ty := .boolean) (C := RX6) (T := TX6) (N := 28) hx hb hts hi_RX6 tyX6 tyX6_ok nmX6 hown hK hP hD hS 0 rfl rfl 11 (by decide) (hts (.fieldLink RX6 93 "TravelMarksModel" "isWrong" "Z") (List.mem_of_getElem? (i := 1) rfl)) (fun _ h9 => h9) rfl (tyX6_ok 11 (by decide)) (zb_of hz3).1 (zb_of hz3).2 (Nat.le_of_ble_eq_true rfl) dX6_needs_17 (fun H locs hP hD hS => ?_)
      have hP : va_P D vwCl (oMM C e0 e1 e2 e3 e4 e5 e6 e7 e8 e9 e10 e11 e12 e13 e14 e15 m_s m_held m_aside m_before m_isHeld m_tape m_taped m_token m_from m_to m_value k1 m_due m_firsts m_rows m_rowN m_sortOf m_sizeOf m_numbers m_holdsWhat m_holdsWhich m_holdsMany m_bodies m_ran m_actKind m_actN m_actA m_isParted []) H := hP
      have hD : va_D A (oMM C e0 e1 e2 e3 e4 e5 e6 e7 e8 e9 e10 e11 e12 e13 e14 e15 m_s m_held m_aside m_before m_isHeld m_tape m_taped m_token m_from m_to m_value k1 m_due m_firsts m_rows m_rowN m_sortOf m_sizeOf m_numbers m_holdsWhat m_holdsWhich m_holdsMany m_bodies m_ran m_actKind m_actN m_actA m_isParted []) := hD
      refine lv_aload_n hx hb dX6_needs_20 rfl (lv_at hl 0 rfl) ?_
      refine va_get (D := D) (ci := 6) (v := .int k1) (C := RX6) (T := TX6) (N := 28) hx hb hts hi_RX6 hown hK hP 0 rfl rfl 11 (by decide) (hts (.fieldLink RX6 93 "TravelMarksModel" "isWrong" "Z") (List.mem_of_getElem? (i := 1) rfl)) (fun _ h9 => h9) rfl dX6_needs_21 ?_
      refine lv_if_ne (tgt := 31) hx hb dX6_needs_24 (by decide) (fun c4 => ?_) (fun c4 => ?_)
      · replace hf := if_fe c4 hf
        cases hf
        exact krv hQ hAe hx hb hr hlocks hP hD hK hS dX6_needs_31
      · replace hf := if_te c4 hf
        refine lv_aload_n hx hb dX6_needs_27 rfl (lv_at hl 0 rfl) ?_
        obtain ⟨v5, v6, v7, v8, h9, hf⟩ := ob4_e hf
        refine kmv (w1 := (oMM C e0 e1 e2 e3 e4 e5 e6 e7 e8 e9 e10 e11 e12 e13 e14 e15 m_s m_held m_aside m_before m_isHeld m_tape m_taped v5 v6 v7 v8 k1 m_due m_firsts m_rows m_rowN m_sortOf m_sizeOf m_numbers m_holdsWhat m_holdsWhich m_holdsMany m_bodies m_ran m_actKind m_actN m_actA m_isParted [])) (va_runV (As := []) (rest := []) ⟨hx, hb, hml, hown, hts⟩ (c_X6_nextToken l E D C e0 e1 e2 e3 e4 e5 e6 e7 e8 e9 e10 e11 e12 e13 e14 e15 H.size N m_s m_held m_aside m_before m_isHeld m_tape m_taped m_token m_from m_to m_value k1 m_due m_firsts m_rows m_rowN m_sortOf m_sizeOf m_numbers m_holdsWhat m_holdsWhich m_holdsMany m_bodies m_ran m_actKind m_actN m_actA m_isParted v5 v6 v7 v8 h9) (cwV 0 hts gX6_needs_X6_nextToken rfl rfl rfl hdX6_nextToken ⟨Nat.le_of_ble_eq_true rfl, Nat.le_of_ble_eq_true rfl⟩) (kpreM hP hD hK hS hE hA 0 rfl rfl rfl) rfl rfl hl.1 rfl (lv_room (Nat.le_of_ble_eq_true rfl)) dX6_needs_28 ⟨Nat.zero_le _, Nat.zero_le _⟩) hP hD hS hA rfl (fun H locs hP hD hS => ?_)
        cases hf
        exact krv hQ hAe hx hb hr hlocks hP hD hK hS dX6_needs_31
    obtain ⟨j10, hj10, hf⟩ := lj_e hf
    have Hj10 : ∀ (H : Heap) (locs : List Loc) (ls : Array Slot), va_P D vwCl (oMM C e0 e1 e2 e3 e4 e5 e6 e7 e8 e9 e10 e11 e12 e13 e14 e15 m_s m_held m_aside m_before m_isHeld m_tape m_taped m_token m_from m_to m_value m_isWrong m_due m_firsts m_rows m_rowN m_sortOf m_sizeOf m_numbers m_holdsWhat m_holdsWhich m_holdsMany m_bodies m_ran m_actKind m_actN m_actA m_isParted []) H → va_D A (oMM C e0 e1 e2 e3 e4 e5 e6 e7 e8 e9 e10 e11 e12 e13 e14 e15 m_s m_held m_aside m_before m_isHeld m_tape m_taped m_token m_from m_to m_value m_isWrong m_due m_firsts m_rows m_rowN m_sortOf m_sizeOf m_numbers m_holdsWhat m_holdsWhich m_holdsMany m_bodies m_ran m_actKind m_actN m_actA m_isParted []) → va_S A s.heap H locs → lv_has ls 2 [(0, .ref e0)] → j10 = some (m_token', m_from', m_to', m_value', m_isWrong') → W p l e (headSpec wsX6_needs (rmX6_needs)).room s m (List.toArray [Value.ref e0, Value.int x0]) below meth c H locs 0 0 Q (F0 m 12 ls [.ref e0]) := by
      intro H locs ls hP hD hS hl hf
      rw [hj10] at hf
      refine lv_iconst (v := 1) hx hb dX6_needs_12 rfl ?_
      refine lv_goto (tgt := 17) hx hb dX6_needs_13 (by decide) ?_
      exact Hj2 1 H locs ls hP hD hS (lv_sub hl [0] rfl) hf
    refine lv_if_ne (tgt := 12) hx hb dX6_needs_5 (by decide) (fun c11 => ?_) (fun c11 => ?_)
    · replace hf := if_fe c11 hf
      exact Hj10 H locs ls hP hD hS (lv_sub hl [0] rfl) hf
    · replace hf := if_te c11 hf
      refine lv_iload_n hx hb dX6_needs_8 rfl (lv_at hl 1 rfl) ?_
      refine lv_if_ne (tgt := 16) hx hb dX6_needs_9 (by decide) (fun c12 => ?_) (fun c12 => ?_)
      · replace hf := if_fe c12 hf
        refine lv_iconst (v := 0) hx hb dX6_needs_16 rfl ?_
        exact Hj2 0 H locs ls hP hD hS (lv_sub hl [0] rfl) hf
      · replace hf := if_te c12 hf
        exact Hj10 H locs ls hP hD hS (lv_sub hl [0] rfl) hf
  exact main _ _ hP hD hS

