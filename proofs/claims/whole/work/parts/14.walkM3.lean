def rmX6_partOf : Room := { frames := 0, cells := 0, slots := 0, locals := 0 }
theorem hdX6_partOf : yX6_partOf.cls ≠ "java/lang/invoke/MethodHandle" ∧ yX6_partOf.cls ≠ "java/lang/invoke/VarHandle" ∧ (parseMethodDescriptor yX6_partOf.desc).map (fun d => d.parameters.length) = some 3 := by decide +kernel
set_option maxHeartbeats 40000000 in
set_option maxRecDepth 100000 in
theorem c_X6_partOf (l : Launch) (E : Nat → Nat) (D : va_G) (C : Nat → ClassId) (sz : Nat) (N : Nat)  (x0 : Int64) (x1 : Int64) (x2 : Int32) (r : Int64) (hf : f_X6_partOf N x0 x1 x2 = some r) : Met l yX6_partOf wsX6_partOf rmX6_partOf (PC E D C [.long x0, .long x1, .int x2] [] sz) (QL D C [] [] sz r) 0 0 (va_A [] sz) := by
  refine Met.ofW (cc := cX6_partOf) (maxL := 11) (ret := (some .long)) (by decide) rfl ?_
  intro p e s m args below meth c s₁ B hml hv
  obtain ⟨rfl, hsz, hP, hK, hD0, hE⟩ := hv
  have hx := B.exec
  have hb := B.bytes
  have hr := B.returns
  have hts := atoms_spec (ws := wsX6_partOf) B.pre
  have hown : s.vm.findClass RX6 = some m.cls := findClass_of_methodNamed B.named
  have hlocks := B.notSynchronized
  subst hsz
  have hD := hD0.self (sz := s.heap.size)
  obtain ⟨A, hAe⟩ := nm_ex (va_A [] s.heap.size)
  rw [← hAe] at hD hE ⊢
  have hA : ∀ q : Nat, s.heap.size ≤ q → A q := fun q h => by rw [hAe]; exact Or.inr h
  have hS : va_S A s.heap s.heap [] := va_S.rf
  have hl := lv_entry ([.long x0, .long x1, .int x2]) (n := 11) (Nat.le_of_ble_eq_true rfl)
  rw [lg_entry_eq]
  generalize (lg_sl ([.long x0, .long x1, .int x2]) ++ List.replicate (11 - (lg_sl ([.long x0, .long x1, .int x2])).length) Slot.unset).toArray = ls at hl ⊢
  have hl : lv_has ls 11 [(0, .long x0), (2, .long x1), (4, .int x2)] := hl
  obtain ⟨Q, hQ⟩ := nm_ex (MQ below (QL D C [] [] s.heap.size r) (List.toArray [Value.long x0, Value.long x1, Value.int x2]) s 0 0 A)
  show W p l e (headSpec wsX6_partOf (rmX6_partOf)).room s m (List.toArray [Value.long x0, Value.long x1, Value.int x2]) below meth c s.heap [] 0 0 (MQ below (QL D C [] [] s.heap.size r) (List.toArray [Value.long x0, Value.long x1, Value.int x2]) s 0 0 A) _
  rw [← hQ]
  unfold f_X6_partOf at hf
  have main : ∀ (H : Heap) (locs : List Loc), va_P D vwCl [] H → va_D A [] → va_S A s.heap H locs → W p l e (headSpec wsX6_partOf (rmX6_partOf)).room s m (List.toArray [Value.long x0, Value.long x1, Value.int x2]) below meth c H locs 0 0 Q (F0 m 0 ls []) := by
    intro H locs hP hD hS
    refine lv_lload_n hx hb dX6_partOf_0 rfl (lv_at hl 1 rfl) ?_
    refine lv_lstore (lv' := [(5, .long x1), (0, .long x0), (2, .long x1), (4, .int x2)]) hx hb dX6_partOf_1 hl (by decide) rfl (fun ls hl => ?_)
    refine lv_lload_n hx hb dX6_partOf_3 rfl (lv_at hl 1 rfl) ?_
    refine lv_lstore (lv' := [(7, .long x0), (5, .long x1), (0, .long x0), (2, .long x1), (4, .int x2)]) hx hb dX6_partOf_4 hl (by decide) rfl (fun ls hl => ?_)
    obtain ⟨j2, hj2, hf⟩ := lj_e hf
    have Hj2 : ∀ (i1 : Int64) (H : Heap) (locs : List Loc) (ls : Array Slot), va_P D vwCl [] H → va_D A [] → va_S A s.heap H locs → lv_has ls 11 [(5, .long i1), (0, .long x0), (2, .long x1), (4, .int x2)] → j2 i1 = some r → W p l e (headSpec wsX6_partOf (rmX6_partOf)).room s m (List.toArray [Value.long x0, Value.long x1, Value.int x2]) below meth c H locs 0 0 Q (F0 m 31 ls []) := by
      intro i1 H locs ls hP hD hS hl hf
      rw [hj2] at hf
      refine lv_iload hx hb dX6_partOf_31 (lv_at hl 3 rfl) ?_
      refine lv_if_ne (tgt := 43) hx hb dX6_partOf_33 (by decide) (fun c3 => ?_) (fun c3 => ?_)
      · replace hf := if_fe c3 hf
        refine lv_lload_n hx hb dX6_partOf_43 rfl (lv_at hl 2 rfl) ?_
        refine lv_lload hx hb dX6_partOf_44 (lv_at hl 0 rfl) ?_
        obtain ⟨hz4, hf⟩ := gdP_e hf
        refine lv_ldiv hx hb dX6_partOf_46 hz4 ?_
        obtain ⟨t5, et5, hf⟩ := lj_e hf
        refine lv_renL et5 ?_
        cases hf
        exact krl hQ hAe hx hb hr hlocks hP hD hK hS dX6_partOf_47
      · replace hf := if_te c3 hf
        refine lv_lload_n hx hb dX6_partOf_36 rfl (lv_at hl 1 rfl) ?_
        refine lv_lload hx hb dX6_partOf_37 (lv_at hl 0 rfl) ?_
        obtain ⟨hz6, hf⟩ := gdP_e hf
        refine lv_ldiv hx hb dX6_partOf_39 hz6 ?_
        refine lv_goto (tgt := 47) hx hb dX6_partOf_40 (by decide) ?_
        obtain ⟨t7, et7, hf⟩ := lj_e hf
        refine lv_renL et7 ?_
        cases hf
        exact krl hQ hAe hx hb hr hlocks hP hD hK hS dX6_partOf_47
    have hL6 : ∀ (n : Nat) (i8 : Int64) (i9 : Int64) (H : Heap) (locs : List Loc) (ls : Array Slot), va_P D vwCl [] H → va_D A [] → va_S A s.heap H locs → lv_has ls 11 [(7, .long i8), (5, .long i9), (0, .long x0), (2, .long x1), (4, .int x2)] → f_X6_partOf_L6 j2 n i8 i9 = some r → W p l e (headSpec wsX6_partOf (rmX6_partOf)).room s m (List.toArray [Value.long x0, Value.long x1, Value.int x2]) below meth c H locs 0 0 Q (F0 m 6 ls []) := by
      intro n
      induction n with
      | zero =>
        intro i8 i9 H locs ls hP hD hS hl hf
        exact absurd hf (fun h => by cases h)
      | succ n ih =>
        intro i8 i9 H locs ls hP hD hS hl hf
        rw [f_X6_partOf_L6] at hf
        refine lv_lload hx hb dX6_partOf_6 (lv_at hl 0 rfl) ?_
        refine lv_lconst (v := 0) hx hb dX6_partOf_8 rfl ?_
        refine W.lcmp hx hb dX6_partOf_9 ?_
        refine lv_if_eq (tgt := 31) hx hb dX6_partOf_10 (by decide) (fun c10 => ?_) (fun c10 => ?_)
        · replace hf := if_te c10 hf
          exact Hj2 i9 H locs ls hP hD hS (lv_sub hl [1, 2, 3, 4] rfl) hf
        · replace hf := if_fe c10 hf
          refine lv_lload hx hb dX6_partOf_13 (lv_at hl 1 rfl) ?_
          refine lv_lload hx hb dX6_partOf_15 (lv_at hl 0 rfl) ?_
          obtain ⟨hz11, hf⟩ := gdP_e hf
          refine lv_lrem hx hb dX6_partOf_17 hz11 ?_
          obtain ⟨t12, et12, hf⟩ := lj_e hf
          refine lv_renL et12 ?_
          refine lv_lstore (lv' := [(9, .long t12), (7, .long i8), (5, .long i9), (0, .long x0), (2, .long x1), (4, .int x2)]) hx hb dX6_partOf_18 hl (by decide) rfl (fun ls hl => ?_)
          refine lv_lload hx hb dX6_partOf_20 (lv_at hl 1 rfl) ?_
          refine lv_lstore (lv' := [(5, .long i8), (9, .long t12), (7, .long i8), (0, .long x0), (2, .long x1), (4, .int x2)]) hx hb dX6_partOf_22 hl (by decide) rfl (fun ls hl => ?_)
          refine lv_lload hx hb dX6_partOf_24 (lv_at hl 1 rfl) ?_
          refine lv_lstore (lv' := [(7, .long t12), (5, .long i8), (9, .long t12), (0, .long x0), (2, .long x1), (4, .int x2)]) hx hb dX6_partOf_26 hl (by decide) rfl (fun ls hl => ?_)
          refine lv_goto (tgt := 6) hx hb dX6_partOf_28 (by decide) ?_
          exact ih t12 i8 H locs ls hP hD hS (lv_sub hl [0, 1, 3, 4, 5] rfl) hf
    exact hL6 N x0 x1 H locs ls hP hD hS (lv_sub hl [0, 1, 2, 3, 4] rfl) hf
  exact main _ _ hP hD hS

def rmX6_isTold : Room := { frames := 7, cells := 0, slots := 0, locals := 165 }
theorem hdX6_isTold : yX6_isTold.cls = RX6 ∧ yX6_isTold.cls ≠ "java/lang/invoke/MethodHandle" ∧ yX6_isTold.cls ≠ "java/lang/invoke/VarHandle" ∧ (parseMethodDescriptor yX6_isTold.desc).map (fun d => d.parameters.length) = some 2 := by decide +kernel
set_option maxHeartbeats 40000000 in
set_option maxRecDepth 100000 in
theorem c_X6_isTold (l : Launch) (E : Nat → Nat) (D : va_G) (C : Nat → ClassId) (e0 e1 e2 e3 e4 e5 e6 e7 e8 e9 e10 e11 e12 e13 e14 e15 : Nat) (sz : Nat) (N : Nat) (m_s : Nat → Int32) (m_held : Nat → Int32) (m_aside : Nat → Int32) (m_before : Nat → Int32) (m_isHeld : Int32) (m_tape : Nat → Int32) (m_taped : Int32) (m_token : Int32) (m_from : Int32) (m_to : Int32) (m_value : Int32) (m_isWrong : Int32) (m_due : Nat → Int32) (m_firsts : Nat → Int32) (m_rows : Nat → Int32) (m_rowN : Int32) (m_sortOf : Nat → Int32) (m_sizeOf : Nat → Int32) (m_numbers : Nat → Int32) (m_holdsWhat : Nat → Int32) (m_holdsWhich : Nat → Int32) (m_holdsMany : Nat → Int32) (m_bodies : Nat → Int32) (m_ran : Int32) (m_actKind : Int32) (m_actN : Int32) (m_actA : Int32) (m_isParted : Int32) (x0 : Int32) (x1 : Int32) (r : Int32) (m_s' : Nat → Int32) (m_aside' : Nat → Int32) (hf : f_X6_isTold N m_s m_aside m_sizeOf m_numbers x0 x1 = some (r, m_s', m_aside')) : Met l yX6_isTold wsX6_isTold rmX6_isTold (PC E D C [.ref e0, .int x0, .int x1] (oMM C e0 e1 e2 e3 e4 e5 e6 e7 e8 e9 e10 e11 e12 e13 e14 e15 m_s m_held m_aside m_before m_isHeld m_tape m_taped m_token m_from m_to m_value m_isWrong m_due m_firsts m_rows m_rowN m_sortOf m_sizeOf m_numbers m_holdsWhat m_holdsWhich m_holdsMany m_bodies m_ran m_actKind m_actN m_actA m_isParted []) sz) (QZ D C (oMM C e0 e1 e2 e3 e4 e5 e6 e7 e8 e9 e10 e11 e12 e13 e14 e15 m_s m_held m_aside m_before m_isHeld m_tape m_taped m_token m_from m_to m_value m_isWrong m_due m_firsts m_rows m_rowN m_sortOf m_sizeOf m_numbers m_holdsWhat m_holdsWhich m_holdsMany m_bodies m_ran m_actKind m_actN m_actA m_isParted []) (oMM C e0 e1 e2 e3 e4 e5 e6 e7 e8 e9 e10 e11 e12 e13 e14 e15 (m_s') m_held (m_aside') m_before m_isHeld m_tape m_taped m_token m_from m_to m_value m_isWrong m_due m_firsts m_rows m_rowN m_sortOf m_sizeOf m_numbers m_holdsWhat m_holdsWhich m_holdsMany m_bodies m_ran m_actKind m_actN m_actA m_isParted []) sz r) 0 0 (va_A (oMM C e0 e1 e2 e3 e4 e5 e6 e7 e8 e9 e10 e11 e12 e13 e14 e15 m_s m_held m_aside m_before m_isHeld m_tape m_taped m_token m_from m_to m_value m_isWrong m_due m_firsts m_rows m_rowN m_sortOf m_sizeOf m_numbers m_holdsWhat m_holdsWhich m_holdsMany m_bodies m_ran m_actKind m_actN m_actA m_isParted []) sz) := by
  refine Met.ofW (cc := cX6_isTold) (maxL := 5) (ret := (some .boolean)) (by decide) rfl ?_
  intro p e s m args below meth c s₁ B hml hv
  obtain ⟨rfl, hsz, hP, hK, hD0, hE⟩ := hv
  have hx := B.exec
  have hb := B.bytes
  have hr := B.returns
  have hts := atoms_spec (ws := wsX6_isTold) B.pre
  have hown : s.vm.findClass RX6 = some m.cls := findClass_of_methodNamed B.named
  have hlocks := B.notSynchronized
  subst hsz
  have hi_RX6 : ∀ w ∈ wsX60, w ∈ wsX6_isTold := fun _ h => List.mem_cons_of_mem _ (List.mem_append_right _ h)
  have hD := hD0.self (sz := s.heap.size)
  obtain ⟨A, hAe⟩ := nm_ex (va_A (oMM C e0 e1 e2 e3 e4 e5 e6 e7 e8 e9 e10 e11 e12 e13 e14 e15 m_s m_held m_aside m_before m_isHeld m_tape m_taped m_token m_from m_to m_value m_isWrong m_due m_firsts m_rows m_rowN m_sortOf m_sizeOf m_numbers m_holdsWhat m_holdsWhich m_holdsMany m_bodies m_ran m_actKind m_actN m_actA m_isParted []) s.heap.size)
  rw [← hAe] at hD hE ⊢
  have hA : ∀ q : Nat, s.heap.size ≤ q → A q := fun q h => by rw [hAe]; exact Or.inr h
  have hS : va_S A s.heap s.heap [] := va_S.rf
  have hl := lv_entry ([.ref e0, .int x0, .int x1]) (n := 5) (Nat.le_of_ble_eq_true rfl)
  rw [lg_entry_eq]
  generalize (lg_sl ([.ref e0, .int x0, .int x1]) ++ List.replicate (5 - (lg_sl ([.ref e0, .int x0, .int x1])).length) Slot.unset).toArray = ls at hl ⊢
  have hl : lv_has ls 5 [(0, .ref e0), (1, .int x0), (2, .int x1)] := hl
  obtain ⟨Q, hQ⟩ := nm_ex (MQ below (QZ D C (oMM C e0 e1 e2 e3 e4 e5 e6 e7 e8 e9 e10 e11 e12 e13 e14 e15 m_s m_held m_aside m_before m_isHeld m_tape m_taped m_token m_from m_to m_value m_isWrong m_due m_firsts m_rows m_rowN m_sortOf m_sizeOf m_numbers m_holdsWhat m_holdsWhich m_holdsMany m_bodies m_ran m_actKind m_actN m_actA m_isParted []) (oMM C e0 e1 e2 e3 e4 e5 e6 e7 e8 e9 e10 e11 e12 e13 e14 e15 (m_s') m_held (m_aside') m_before m_isHeld m_tape m_taped m_token m_from m_to m_value m_isWrong m_due m_firsts m_rows m_rowN m_sortOf m_sizeOf m_numbers m_holdsWhat m_holdsWhich m_holdsMany m_bodies m_ran m_actKind m_actN m_actA m_isParted []) s.heap.size r) (List.toArray [Value.ref e0, Value.int x0, Value.int x1]) s 0 0 A)
  show W p l e (headSpec wsX6_isTold (rmX6_isTold)).room s m (List.toArray [Value.ref e0, Value.int x0, Value.int x1]) below meth c s.heap [] 0 0 (MQ below (QZ D C (oMM C e0 e1 e2 e3 e4 e5 e6 e7 e8 e9 e10 e11 e12 e13 e14 e15 m_s m_held m_aside m_before m_isHeld m_tape m_taped m_token m_from m_to m_value m_isWrong m_due m_firsts m_rows m_rowN m_sortOf m_sizeOf m_numbers m_holdsWhat m_holdsWhich m_holdsMany m_bodies m_ran m_actKind m_actN m_actA m_isParted []) (oMM C e0 e1 e2 e3 e4 e5 e6 e7 e8 e9 e10 e11 e12 e13 e14 e15 (m_s') m_held (m_aside') m_before m_isHeld m_tape m_taped m_token m_from m_to m_value m_isWrong m_due m_firsts m_rows m_rowN m_sortOf m_sizeOf m_numbers m_holdsWhat m_holdsWhich m_holdsMany m_bodies m_ran m_actKind m_actN m_actA m_isParted []) s.heap.size r) (List.toArray [Value.ref e0, Value.int x0, Value.int x1]) s 0 0 A) _
  rw [← hQ]
  unfold f_X6_isTold at hf
  have main : ∀ (H : Heap) (locs : List Loc), va_P D vwCl (oMM C e0 e1 e2 e3 e4 e5 e6 e7 e8 e9 e10 e11 e12 e13 e14 e15 m_s m_held m_aside m_before m_isHeld m_tape m_taped m_token m_from m_to m_value m_isWrong m_due m_firsts m_rows m_rowN m_sortOf m_sizeOf m_numbers m_holdsWhat m_holdsWhich m_holdsMany m_bodies m_ran m_actKind m_actN m_actA m_isParted []) H → va_D A (oMM C e0 e1 e2 e3 e4 e5 e6 e7 e8 e9 e10 e11 e12 e13 e14 e15 m_s m_held m_aside m_before m_isHeld m_tape m_taped m_token m_from m_to m_value m_isWrong m_due m_firsts m_rows m_rowN m_sortOf m_sizeOf m_numbers m_holdsWhat m_holdsWhich m_holdsMany m_bodies m_ran m_actKind m_actN m_actA m_isParted []) → va_S A s.heap H locs → W p l e (headSpec wsX6_isTold (rmX6_isTold)).room s m (List.toArray [Value.ref e0, Value.int x0, Value.int x1]) below meth c H locs 0 0 Q (F0 m 0 ls []) := by
    intro H locs hP hD hS
    refine lv_aload_n hx hb dX6_isTold_0 rfl (lv_at hl 0 rfl) ?_
    refine va_get (D := D) (ci := 6) (v := .ref e1) (C := RX6) (T := TX6) (N := 28) hx hb hts hi_RX6 hown hK hP 0 rfl rfl 0 (by decide) (hts (.fieldLink RX6 7 "TravelMarksModel" "s" "[I") (List.mem_of_getElem? (i := 1) rfl)) (fun _ h9 => h9) rfl dX6_isTold_1 ?_
    refine lv_aload_n hx hb dX6_isTold_4 rfl (lv_at hl 0 rfl) ?_
    refine va_get (D := D) (ci := 6) (v := .ref e3) (C := RX6) (T := TX6) (N := 28) hx hb hts hi_RX6 hown hK hP 0 rfl rfl 2 (by decide) (hts (.fieldLink RX6 16 "TravelMarksModel" "aside" "[I") (List.mem_of_getElem? (i := 2) rfl)) (fun _ h9 => h9) rfl dX6_isTold_5 ?_
    obtain ⟨v1, h2, hf⟩ := ob1_e hf
    refine kcv (Wx := (oMM C e0 e1 e2 e3 e4 e5 e6 e7 e8 e9 e10 e11 e12 e13 e14 e15 m_s m_held v1 m_before m_isHeld m_tape m_taped m_token m_from m_to m_value m_isWrong m_due m_firsts m_rows m_rowN m_sortOf m_sizeOf m_numbers m_holdsWhat m_holdsWhich m_holdsMany m_bodies m_ran m_actKind m_actN m_actA m_isParted [])) (va_runS (As := [.ref e1, .ref e3]) (rest := []) ⟨hx, hb, hml, hown, hts⟩ (c_X6_copyRow l E D C e1 e3 H.size N m_s m_aside v1 h2) (va_cwS 2 hts gX6_isTold_X6_copyRow rfl rfl rfl hdX6_copyRow ⟨Nat.le_of_ble_eq_true rfl, Nat.le_of_ble_eq_true rfl⟩) (kpre hP hD hK hS hE hA [1, 3] rfl rfl) rfl rfl hl.1 rfl (lv_room (Nat.le_of_ble_eq_true rfl)) dX6_isTold_8 ⟨Nat.zero_le _, Nat.zero_le _⟩) hP hD hS hA [1, 3] rfl rfl rfl (fun H locs hP hD hS => ?_)
    refine lv_iconst (v := 1) hx hb dX6_isTold_11 rfl ?_
    refine lv_istore_n (lv' := [(3, .int 1), (0, .ref e0), (1, .int x0), (2, .int x1)]) hx hb dX6_isTold_12 rfl hl (by decide) rfl (fun ls hl => ?_)
    refine lv_iconst (v := 0) hx hb dX6_isTold_13 rfl ?_
    refine lv_istore (lv' := [(4, .int 0), (3, .int 1), (0, .ref e0), (1, .int x0), (2, .int x1)]) hx hb dX6_isTold_14 hl (by decide) rfl (fun ls hl => ?_)
    obtain ⟨j5, hj5, hf⟩ := lj_e hf
    have Hj5 : ∀ (i3 : Int32) (v4 : Nat → Int32) (H : Heap) (locs : List Loc) (ls : Array Slot), va_P D vwCl (oMM C e0 e1 e2 e3 e4 e5 e6 e7 e8 e9 e10 e11 e12 e13 e14 e15 v4 m_held v1 m_before m_isHeld m_tape m_taped m_token m_from m_to m_value m_isWrong m_due m_firsts m_rows m_rowN m_sortOf m_sizeOf m_numbers m_holdsWhat m_holdsWhich m_holdsMany m_bodies m_ran m_actKind m_actN m_actA m_isParted []) H → va_D A (oMM C e0 e1 e2 e3 e4 e5 e6 e7 e8 e9 e10 e11 e12 e13 e14 e15 v4 m_held v1 m_before m_isHeld m_tape m_taped m_token m_from m_to m_value m_isWrong m_due m_firsts m_rows m_rowN m_sortOf m_sizeOf m_numbers m_holdsWhat m_holdsWhich m_holdsMany m_bodies m_ran m_actKind m_actN m_actA m_isParted []) → va_S A s.heap H locs → lv_has ls 5 [(3, .int i3), (0, .ref e0)] → j5 i3 v4 = some (r, m_s', m_aside') → W p l e (headSpec wsX6_isTold (rmX6_isTold)).room s m (List.toArray [Value.ref e0, Value.int x0, Value.int x1]) below meth c H locs 0 0 Q (F0 m 85 ls []) := by
      intro i3 v4 H locs ls hP hD hS hl hf
      rw [hj5] at hf
      refine lv_aload_n hx hb dX6_isTold_85 rfl (lv_at hl 1 rfl) ?_
      refine va_get (D := D) (ci := 6) (v := .ref e3) (C := RX6) (T := TX6) (N := 28) hx hb hts hi_RX6 hown hK hP 0 rfl rfl 2 (by decide) (hts (.fieldLink RX6 16 "TravelMarksModel" "aside" "[I") (List.mem_of_getElem? (i := 2) rfl)) (fun _ h9 => h9) rfl dX6_isTold_86 ?_
      refine lv_aload_n hx hb dX6_isTold_89 rfl (lv_at hl 1 rfl) ?_
      refine va_get (D := D) (ci := 6) (v := .ref e1) (C := RX6) (T := TX6) (N := 28) hx hb hts hi_RX6 hown hK hP 0 rfl rfl 0 (by decide) (hts (.fieldLink RX6 7 "TravelMarksModel" "s" "[I") (List.mem_of_getElem? (i := 1) rfl)) (fun _ h9 => h9) rfl dX6_isTold_90 ?_
      obtain ⟨v6, h7, hf⟩ := ob1_e hf
      refine kcv (Wx := (oMM C e0 e1 e2 e3 e4 e5 e6 e7 e8 e9 e10 e11 e12 e13 e14 e15 v6 m_held v1 m_before m_isHeld m_tape m_taped m_token m_from m_to m_value m_isWrong m_due m_firsts m_rows m_rowN m_sortOf m_sizeOf m_numbers m_holdsWhat m_holdsWhich m_holdsMany m_bodies m_ran m_actKind m_actN m_actA m_isParted [])) (va_runS (As := [.ref e3, .ref e1]) (rest := []) ⟨hx, hb, hml, hown, hts⟩ (c_X6_copyRow l E D C e3 e1 H.size N v1 v4 v6 h7) (va_cwS 2 hts gX6_isTold_X6_copyRow rfl rfl rfl hdX6_copyRow ⟨Nat.le_of_ble_eq_true rfl, Nat.le_of_ble_eq_true rfl⟩) (kpre hP hD hK hS hE hA [3, 1] rfl rfl) rfl rfl hl.1 rfl (lv_room (Nat.le_of_ble_eq_true rfl)) dX6_isTold_93 ⟨Nat.zero_le _, Nat.zero_le _⟩) hP hD hS hA [3, 1] rfl rfl rfl (fun H locs hP hD hS => ?_)
      refine lv_iload_n hx hb dX6_isTold_96 rfl (lv_at hl 0 rfl) ?_
      obtain ⟨hz8, hf⟩ := gdP_e hf
      cases hf
      exact krz hQ hAe hx hb hr hlocks (zb_of hz8) hP hD hK hS dX6_isTold_97
    have hL16 : ∀ (n : Nat) (i9 : Int32) (i10 : Int32) (v11 : Nat → Int32) (H : Heap) (locs : List Loc) (ls : Array Slot), va_P D vwCl (oMM C e0 e1 e2 e3 e4 e5 e6 e7 e8 e9 e10 e11 e12 e13 e14 e15 v11 m_held v1 m_before m_isHeld m_tape m_taped m_token m_from m_to m_value m_isWrong m_due m_firsts m_rows m_rowN m_sortOf m_sizeOf m_numbers m_holdsWhat m_holdsWhich m_holdsMany m_bodies m_ran m_actKind m_actN m_actA m_isParted []) H → va_D A (oMM C e0 e1 e2 e3 e4 e5 e6 e7 e8 e9 e10 e11 e12 e13 e14 e15 v11 m_held v1 m_before m_isHeld m_tape m_taped m_token m_from m_to m_value m_isWrong m_due m_firsts m_rows m_rowN m_sortOf m_sizeOf m_numbers m_holdsWhat m_holdsWhich m_holdsMany m_bodies m_ran m_actKind m_actN m_actA m_isParted []) → va_S A s.heap H locs → lv_has ls 5 [(4, .int i9), (3, .int i10), (0, .ref e0), (1, .int x0), (2, .int x1)] → f_X6_isTold_L16 N m_sizeOf m_numbers x0 x1 j5 n i9 i10 v11 = some (r, m_s', m_aside') → W p l e (headSpec wsX6_isTold (rmX6_isTold)).room s m (List.toArray [Value.ref e0, Value.int x0, Value.int x1]) below meth c H locs 0 0 Q (F0 m 16 ls []) := by
      intro n
      induction n with
      | zero =>
        intro i9 i10 v11 H locs ls hP hD hS hl hf
        exact absurd hf (fun h => by cases h)
      | succ n ih =>
        intro i9 i10 v11 H locs ls hP hD hS hl hf
        rw [f_X6_isTold_L16] at hf
        refine lv_iload hx hb dX6_isTold_16 (lv_at hl 0 rfl) ?_
        refine lv_aload_n hx hb dX6_isTold_18 rfl (lv_at hl 2 rfl) ?_
        refine va_get (D := D) (ci := 6) (v := .ref e10) (C := RX6) (T := TX6) (N := 28) hx hb hts hi_RX6 hown hK hP 0 rfl rfl 17 (by decide) (hts (.fieldLink RX6 37 "TravelMarksModel" "sizeOf" "[I") (List.mem_of_getElem? (i := 3) rfl)) (fun _ h9 => h9) rfl dX6_isTold_19 ?_
        refine lv_iload_n hx hb dX6_isTold_22 rfl (lv_at hl 3 rfl) ?_
        obtain ⟨y13, ey13, hi12, hf⟩ := rdA_x hf
        refine va_iald hx hb hK hP 10 0 rfl rfl hi12 dX6_isTold_23 ?_
        refine lv_ren ey13 ?_
        refine lv_icmp_ge (tgt := 85) hx hb dX6_isTold_24 (by decide) (fun c14 => ?_) (fun c14 => ?_)
        · replace hf := if_te c14 hf
          exact Hj5 i10 v11 H locs ls hP hD hS (lv_sub hl [1, 2] rfl) hf
        · replace hf := if_fe c14 hf
          refine lv_iload_n hx hb dX6_isTold_27 rfl (lv_at hl 1 rfl) ?_
          refine lv_if_eq (tgt := 85) hx hb dX6_isTold_28 (by decide) (fun c15 => ?_) (fun c15 => ?_)
          · replace hf := if_te c15 hf
            exact Hj5 i10 v11 H locs ls hP hD hS (lv_sub hl [1, 2] rfl) hf
          · replace hf := if_fe c15 hf
            refine lv_aload_n hx hb dX6_isTold_31 rfl (lv_at hl 2 rfl) ?_
            refine lv_iconst (v := 1) hx hb dX6_isTold_32 rfl ?_
            obtain ⟨v16, h17, hf⟩ := ob1_e hf
            refine kcv (Wx := (oMM C e0 e1 e2 e3 e4 e5 e6 e7 e8 e9 e10 e11 e12 e13 e14 e15 v16 m_held v1 m_before m_isHeld m_tape m_taped m_token m_from m_to m_value m_isWrong m_due m_firsts m_rows m_rowN m_sortOf m_sizeOf m_numbers m_holdsWhat m_holdsWhich m_holdsMany m_bodies m_ran m_actKind m_actN m_actA m_isParted [])) (va_runV (As := [.int 1]) (rest := []) ⟨hx, hb, hml, hown, hts⟩ (c_X6_goes l E D C e0 e1 e2 e3 e4 e5 e6 e7 e8 e9 e10 e11 e12 e13 e14 e15 H.size N v11 m_held v1 m_before m_isHeld m_tape m_taped m_token m_from m_to m_value m_isWrong m_due m_firsts m_rows m_rowN m_sortOf m_sizeOf m_numbers m_holdsWhat m_holdsWhich m_holdsMany m_bodies m_ran m_actKind m_actN m_actA m_isParted 1 v16 h17) (cwV 1 hts gX6_isTold_X6_goes rfl rfl rfl hdX6_goes ⟨Nat.le_of_ble_eq_true rfl, Nat.le_of_ble_eq_true rfl⟩) (kpreV hP hD hK hS hE hA [0, 1, 2, 3, 4, 5, 6, 7, 8, 9, 10, 11, 12, 13, 14, 15] rfl rfl 0 rfl rfl rfl) rfl rfl hl.1 rfl (lv_room (Nat.le_of_ble_eq_true rfl)) dX6_isTold_33 ⟨Nat.zero_le _, Nat.zero_le _⟩) hP hD hS hA [0, 1, 2, 3, 4, 5, 6, 7, 8, 9, 10, 11, 12, 13, 14, 15] rfl rfl rfl (fun H locs hP hD hS => ?_)
            refine lv_aload_n hx hb dX6_isTold_36 rfl (lv_at hl 2 rfl) ?_
            refine va_get (D := D) (ci := 6) (v := .ref e11) (C := RX6) (T := TX6) (N := 28) hx hb hts hi_RX6 hown hK hP 0 rfl rfl 18 (by decide) (hts (.fieldLink RX6 40 "TravelMarksModel" "numbers" "[I") (List.mem_of_getElem? (i := 4) rfl)) (fun _ h9 => h9) rfl dX6_isTold_37 ?_
            refine lv_bipush (v := 40) hx hb dX6_isTold_40 rfl ?_
            refine lv_iload_n hx hb dX6_isTold_42 rfl (lv_at hl 3 rfl) ?_
            refine lv_imul hx hb dX6_isTold_43 ?_
            refine lv_iload hx hb dX6_isTold_44 (lv_at hl 0 rfl) ?_
            refine lv_iadd hx hb dX6_isTold_46 ?_
            obtain ⟨y19, ey19, hi18, hf⟩ := rdA_x hf
            refine va_iald hx hb hK hP 11 0 rfl rfl hi18 dX6_isTold_47 ?_
            refine lv_ren ey19 ?_
            refine lv_iconst (v := (-1)) hx hb dX6_isTold_48 rfl ?_
            obtain ⟨j21, hj21, hf⟩ := lj_e hf
            have Hj21 : ∀ (k20 : Int32) (H : Heap) (locs : List Loc) (ls : Array Slot), va_P D vwCl (oMM C e0 e1 e2 e3 e4 e5 e6 e7 e8 e9 e10 e11 e12 e13 e14 e15 v16 m_held v1 m_before m_isHeld m_tape m_taped m_token m_from m_to m_value m_isWrong m_due m_firsts m_rows m_rowN m_sortOf m_sizeOf m_numbers m_holdsWhat m_holdsWhich m_holdsMany m_bodies m_ran m_actKind m_actN m_actA m_isParted []) H → va_D A (oMM C e0 e1 e2 e3 e4 e5 e6 e7 e8 e9 e10 e11 e12 e13 e14 e15 v16 m_held v1 m_before m_isHeld m_tape m_taped m_token m_from m_to m_value m_isWrong m_due m_firsts m_rows m_rowN m_sortOf m_sizeOf m_numbers m_holdsWhat m_holdsWhich m_holdsMany m_bodies m_ran m_actKind m_actN m_actA m_isParted []) → va_S A s.heap H locs → lv_has ls 5 [(4, .int i9), (0, .ref e0), (1, .int x0), (2, .int x1)] → j21 k20 = some (r, m_s', m_aside') → W p l e (headSpec wsX6_isTold (rmX6_isTold)).room s m (List.toArray [Value.ref e0, Value.int x0, Value.int x1]) below meth c H locs 0 0 Q (F0 m 78 ls [.int k20]) := by
              intro k20 H locs ls hP hD hS hl hf
              rw [hj21] at hf
              refine lv_istore_n (lv' := [(3, .int k20), (4, .int i9), (0, .ref e0), (1, .int x0), (2, .int x1)]) hx hb dX6_isTold_78 rfl hl (by decide) rfl (fun ls hl => ?_)
              obtain ⟨t22, et22, hf⟩ := lj_e hf
              refine lv_iinc (v := t22) (lv' := [(4, .int t22), (3, .int k20), (0, .ref e0), (1, .int x0), (2, .int x1)]) hx hb dX6_isTold_79 hl (k := 1) rfl (by rw [et22]; rfl) (by decide) rfl (fun ls hl => ?_)
              refine lv_goto (tgt := 16) hx hb dX6_isTold_82 (by decide) ?_
              exact ih t22 k20 v16 H locs ls hP hD hS (lv_sub hl [0, 1, 2, 3, 4] rfl) hf
            obtain ⟨j23, hj23, hf⟩ := lj_e hf
            have Hj23 : ∀ (H : Heap) (locs : List Loc) (ls : Array Slot), va_P D vwCl (oMM C e0 e1 e2 e3 e4 e5 e6 e7 e8 e9 e10 e11 e12 e13 e14 e15 v16 m_held v1 m_before m_isHeld m_tape m_taped m_token m_from m_to m_value m_isWrong m_due m_firsts m_rows m_rowN m_sortOf m_sizeOf m_numbers m_holdsWhat m_holdsWhich m_holdsMany m_bodies m_ran m_actKind m_actN m_actA m_isParted []) H → va_D A (oMM C e0 e1 e2 e3 e4 e5 e6 e7 e8 e9 e10 e11 e12 e13 e14 e15 v16 m_held v1 m_before m_isHeld m_tape m_taped m_token m_from m_to m_value m_isWrong m_due m_firsts m_rows m_rowN m_sortOf m_sizeOf m_numbers m_holdsWhat m_holdsWhich m_holdsMany m_bodies m_ran m_actKind m_actN m_actA m_isParted []) → va_S A s.heap H locs → lv_has ls 5 [(4, .int i9), (0, .ref e0), (1, .int x0), (2, .int x1)] → j23 = some (r, m_s', m_aside') → W p l e (headSpec wsX6_isTold (rmX6_isTold)).room s m (List.toArray [Value.ref e0, Value.int x0, Value.int x1]) below meth c H locs 0 0 Q (F0 m 73 ls []) := by
              intro H locs ls hP hD hS hl hf
              rw [hj23] at hf
              refine lv_iconst (v := 1) hx hb dX6_isTold_73 rfl ?_
              refine lv_goto (tgt := 78) hx hb dX6_isTold_74 (by decide) ?_
              exact Hj21 1 H locs ls hP hD hS (lv_sub hl [0, 1, 2, 3] rfl) hf
            refine lv_icmp_eq (tgt := 73) hx hb dX6_isTold_49 (by decide) (fun c24 => ?_) (fun c24 => ?_)
            · replace hf := if_te c24 hf
              exact Hj23 H locs ls hP hD hS (lv_sub hl [0, 2, 3, 4] rfl) hf
            · replace hf := if_fe c24 hf
              refine lv_aload_n hx hb dX6_isTold_52 rfl (lv_at hl 2 rfl) ?_
              refine va_get (D := D) (ci := 6) (v := .ref e11) (C := RX6) (T := TX6) (N := 28) hx hb hts hi_RX6 hown hK hP 0 rfl rfl 18 (by decide) (hts (.fieldLink RX6 40 "TravelMarksModel" "numbers" "[I") (List.mem_of_getElem? (i := 4) rfl)) (fun _ h9 => h9) rfl dX6_isTold_53 ?_
              refine lv_bipush (v := 40) hx hb dX6_isTold_56 rfl ?_
              refine lv_iload_n hx hb dX6_isTold_58 rfl (lv_at hl 3 rfl) ?_
              refine lv_imul hx hb dX6_isTold_59 ?_
              refine lv_iload hx hb dX6_isTold_60 (lv_at hl 0 rfl) ?_
              refine lv_iadd hx hb dX6_isTold_62 ?_
              obtain ⟨y26, ey26, hi25, hf⟩ := rdA_x hf
              refine va_iald hx hb hK hP 11 0 rfl rfl hi25 dX6_isTold_63 ?_
              refine lv_ren ey26 ?_
              refine lv_aload_n hx hb dX6_isTold_64 rfl (lv_at hl 2 rfl) ?_
              refine lv_iload_n hx hb dX6_isTold_65 rfl (lv_at hl 4 rfl) ?_
              refine lv_iconst (v := 2) hx hb dX6_isTold_66 rfl ?_
              obtain ⟨r27, h28, hf⟩ := ob1_e hf
              refine kci (Wx := (oMM C e0 e1 e2 e3 e4 e5 e6 e7 e8 e9 e10 e11 e12 e13 e14 e15 v16 m_held v1 m_before m_isHeld m_tape m_taped m_token m_from m_to m_value m_isWrong m_due m_firsts m_rows m_rowN m_sortOf m_sizeOf m_numbers m_holdsWhat m_holdsWhich m_holdsMany m_bodies m_ran m_actKind m_actN m_actA m_isParted [])) (va_runV (As := [.int x1, .int 2]) (rest := [.int y26]) ⟨hx, hb, hml, hown, hts⟩ (c_X6_its l E D C e0 e1 e2 e3 e4 e5 e6 e7 e8 e9 e10 e11 e12 e13 e14 e15 H.size v16 m_held v1 m_before m_isHeld m_tape m_taped m_token m_from m_to m_value m_isWrong m_due m_firsts m_rows m_rowN m_sortOf m_sizeOf m_numbers m_holdsWhat m_holdsWhich m_holdsMany m_bodies m_ran m_actKind m_actN m_actA m_isParted x1 2 r27 h28) (cwV 2 hts gX6_isTold_X6_its rfl rfl rfl hdX6_its ⟨Nat.le_of_ble_eq_true rfl, Nat.le_of_ble_eq_true rfl⟩) (kpreV hP hD hK hS hE hA [0, 1, 2, 3, 4, 5, 6, 7, 8, 9, 10, 11, 12, 13, 14, 15] rfl rfl 0 rfl rfl rfl) rfl rfl hl.1 rfl (lv_room (Nat.le_of_ble_eq_true rfl)) dX6_isTold_67 ⟨Nat.zero_le _, Nat.zero_le _⟩) hP hD hS hA [0, 1, 2, 3, 4, 5, 6, 7, 8, 9, 10, 11, 12, 13, 14, 15] rfl rfl rfl (fun H locs hP hD hS => ?_)
              refine lv_icmp_ne (tgt := 77) hx hb dX6_isTold_70 (by decide) (fun c29 => ?_) (fun c29 => ?_)
              · replace hf := if_fe c29 hf
                refine lv_iconst (v := 0) hx hb dX6_isTold_77 rfl ?_
                exact Hj21 0 H locs ls hP hD hS (lv_sub hl [0, 2, 3, 4] rfl) hf
              · replace hf := if_te c29 hf
                exact Hj23 H locs ls hP hD hS (lv_sub hl [0, 2, 3, 4] rfl) hf
    exact hL16 N 0 1 m_s H locs ls hP hD hS (lv_sub hl [0, 1, 2, 3, 4] rfl) hf
  exact main _ _ hP hD hS

def rmX6_isSheet : Room := { frames := 1, cells := 0, slots := 0, locals := 25 }
theorem hdX6_isSheet : yX6_isSheet.cls ≠ "java/lang/invoke/MethodHandle" ∧ yX6_isSheet.cls ≠ "java/lang/invoke/VarHandle" ∧ (parseMethodDescriptor yX6_isSheet.desc).map (fun d => d.parameters.length) = some 1 := by decide +kernel
set_option maxHeartbeats 40000000 in
set_option maxRecDepth 100000 in
theorem c_X6_isSheet (l : Launch) (E : Nat → Nat) (D : va_G) (C : Nat → ClassId) (sz : Nat)  (x0 : Int32) (r : Int32) (hf : f_X6_isSheet x0 = r) : Met l yX6_isSheet wsX6_isSheet rmX6_isSheet (PC E D C [.int x0] [] sz) (QZ D C [] [] sz r) 0 0 (va_A [] sz) := by
  refine Met.ofW (cc := cX6_isSheet) (maxL := 1) (ret := (some .boolean)) (by decide) rfl ?_
  intro p e s m args below meth c s₁ B hml hv
  obtain ⟨rfl, hsz, hP, hK, hD0, hE⟩ := hv
  have hx := B.exec
  have hb := B.bytes
  have hr := B.returns
  have hts := atoms_spec (ws := wsX6_isSheet) B.pre
  have hown : s.vm.findClass RX6 = some m.cls := findClass_of_methodNamed B.named
  have hlocks := B.notSynchronized
  subst hsz
  have hD := hD0.self (sz := s.heap.size)
  obtain ⟨A, hAe⟩ := nm_ex (va_A [] s.heap.size)
  rw [← hAe] at hD hE ⊢
  have hA : ∀ q : Nat, s.heap.size ≤ q → A q := fun q h => by rw [hAe]; exact Or.inr h
  have hS : va_S A s.heap s.heap [] := va_S.rf
  have hl := lv_entry ([.int x0]) (n := 1) (Nat.le_of_ble_eq_true rfl)
  rw [lg_entry_eq]
  generalize (lg_sl ([.int x0]) ++ List.replicate (1 - (lg_sl ([.int x0])).length) Slot.unset).toArray = ls at hl ⊢
  have hl : lv_has ls 1 [(0, .int x0)] := hl
  obtain ⟨Q, hQ⟩ := nm_ex (MQ below (QZ D C [] [] s.heap.size r) (List.toArray [Value.int x0]) s 0 0 A)
  show W p l e (headSpec wsX6_isSheet (rmX6_isSheet)).room s m (List.toArray [Value.int x0]) below meth c s.heap [] 0 0 (MQ below (QZ D C [] [] s.heap.size r) (List.toArray [Value.int x0]) s 0 0 A) _
  rw [← hQ]
  unfold f_X6_isSheet at hf
  have main : ∀ (H : Heap) (locs : List Loc), va_P D vwCl [] H → va_D A [] → va_S A s.heap H locs → W p l e (headSpec wsX6_isSheet (rmX6_isSheet)).room s m (List.toArray [Value.int x0]) below meth c H locs 0 0 Q (F0 m 0 ls []) := by
    intro H locs hP hD hS
    refine lv_iload_n hx hb dX6_isSheet_0 rfl (lv_at hl 0 rfl) ?_
    refine lv_i2l hx hb dX6_isSheet_1 rfl ?_
    refine lv_lconst (v := 0) hx hb dX6_isSheet_2 rfl ?_
    refine lv_ldc2 (v := 3) hx hb hown (hts (.constantLong RX6 156 (3)) (List.mem_of_getElem? (i := 1) rfl)) dX6_isSheet_3 ?_
    refine kcz (Wx := []) (va_runS (As := [.long (Int32.toInt64 x0), .long 0, .long 3]) (rest := []) ⟨hx, hb, hml, hown, hts⟩ (c_X6_isIn l E D C H.size (Int32.toInt64 x0) 0 3 _ rfl) (va_cwS 3 hts gX6_isSheet_X6_isIn rfl rfl rfl hdX6_isIn ⟨Nat.le_of_ble_eq_true rfl, Nat.le_of_ble_eq_true rfl⟩) (kpre hP hD hK hS hE hA [] rfl rfl) rfl rfl hl.1 rfl (lv_room (Nat.le_of_ble_eq_true rfl)) dX6_isSheet_6 ⟨Nat.zero_le _, Nat.zero_le _⟩) hP hD hS hA [] rfl rfl rfl (fun H locs hz1 hP hD hS => ?_)
    cases hf
    exact krz hQ hAe hx hb hr hlocks hz1 hP hD hK hS dX6_isSheet_9
  exact main _ _ hP hD hS

def rmX6_fits : Room := { frames := 8, cells := 0, slots := 0, locals := 189 }
theorem hdX6_fits : yX6_fits.cls = RX6 ∧ yX6_fits.cls ≠ "java/lang/invoke/MethodHandle" ∧ yX6_fits.cls ≠ "java/lang/invoke/VarHandle" ∧ (parseMethodDescriptor yX6_fits.desc).map (fun d => d.parameters.length) = some 3 := by decide +kernel
set_option maxHeartbeats 40000000 in
set_option maxRecDepth 100000 in
theorem c_X6_fits (l : Launch) (E : Nat → Nat) (D : va_G) (C : Nat → ClassId) (e0 e1 e2 e3 e4 e5 e6 e7 e8 e9 e10 e11 e12 e13 e14 e15 : Nat) (sz : Nat) (N : Nat) (m_s : Nat → Int32) (m_held : Nat → Int32) (m_aside : Nat → Int32) (m_before : Nat → Int32) (m_isHeld : Int32) (m_tape : Nat → Int32) (m_taped : Int32) (m_token : Int32) (m_from : Int32) (m_to : Int32) (m_value : Int32) (m_isWrong : Int32) (m_due : Nat → Int32) (m_firsts : Nat → Int32) (m_rows : Nat → Int32) (m_rowN : Int32) (m_sortOf : Nat → Int32) (m_sizeOf : Nat → Int32) (m_numbers : Nat → Int32) (m_holdsWhat : Nat → Int32) (m_holdsWhich : Nat → Int32) (m_holdsMany : Nat → Int32) (m_bodies : Nat → Int32) (m_ran : Int32) (m_actKind : Int32) (m_actN : Int32) (m_actA : Int32) (m_isParted : Int32) (x0 : Int32) (x1 : Int32) (x2 : Int32) (r : Int32) (m_s' : Nat → Int32) (m_aside' : Nat → Int32) (hf : f_X6_fits N m_s m_aside m_sortOf m_sizeOf m_numbers x0 x1 x2 = some (r, m_s', m_aside')) : Met l yX6_fits wsX6_fits rmX6_fits (PC E D C [.ref e0, .int x0, .int x1, .int x2] (oMM C e0 e1 e2 e3 e4 e5 e6 e7 e8 e9 e10 e11 e12 e13 e14 e15 m_s m_held m_aside m_before m_isHeld m_tape m_taped m_token m_from m_to m_value m_isWrong m_due m_firsts m_rows m_rowN m_sortOf m_sizeOf m_numbers m_holdsWhat m_holdsWhich m_holdsMany m_bodies m_ran m_actKind m_actN m_actA m_isParted []) sz) (QI D C (oMM C e0 e1 e2 e3 e4 e5 e6 e7 e8 e9 e10 e11 e12 e13 e14 e15 m_s m_held m_aside m_before m_isHeld m_tape m_taped m_token m_from m_to m_value m_isWrong m_due m_firsts m_rows m_rowN m_sortOf m_sizeOf m_numbers m_holdsWhat m_holdsWhich m_holdsMany m_bodies m_ran m_actKind m_actN m_actA m_isParted []) (oMM C e0 e1 e2 e3 e4 e5 e6 e7 e8 e9 e10 e11 e12 e13 e14 e15 (m_s') m_held (m_aside') m_before m_isHeld m_tape m_taped m_token m_from m_to m_value m_isWrong m_due m_firsts m_rows m_rowN m_sortOf m_sizeOf m_numbers m_holdsWhat m_holdsWhich m_holdsMany m_bodies m_ran m_actKind m_actN m_actA m_isParted []) sz r) 0 0 (va_A (oMM C e0 e1 e2 e3 e4 e5 e6 e7 e8 e9 e10 e11 e12 e13 e14 e15 m_s m_held m_aside m_before m_isHeld m_tape m_taped m_token m_from m_to m_value m_isWrong m_due m_firsts m_rows m_rowN m_sortOf m_sizeOf m_numbers m_holdsWhat m_holdsWhich m_holdsMany m_bodies m_ran m_actKind m_actN m_actA m_isParted []) sz) := by
  refine Met.ofW (cc := cX6_fits) (maxL := 10) (ret := (some .int)) (by decide) rfl ?_
  intro p e s m args below meth c s₁ B hml hv
  obtain ⟨rfl, hsz, hP, hK, hD0, hE⟩ := hv
  have hx := B.exec
  have hb := B.bytes
  have hr := B.returns
  have hts := atoms_spec (ws := wsX6_fits) B.pre
  have hown : s.vm.findClass RX6 = some m.cls := findClass_of_methodNamed B.named
  have hlocks := B.notSynchronized
  subst hsz
  have hi_RX6 : ∀ w ∈ wsX60, w ∈ wsX6_fits := fun _ h => List.mem_cons_of_mem _ (List.mem_append_right _ h)
  have hD := hD0.self (sz := s.heap.size)
  obtain ⟨A, hAe⟩ := nm_ex (va_A (oMM C e0 e1 e2 e3 e4 e5 e6 e7 e8 e9 e10 e11 e12 e13 e14 e15 m_s m_held m_aside m_before m_isHeld m_tape m_taped m_token m_from m_to m_value m_isWrong m_due m_firsts m_rows m_rowN m_sortOf m_sizeOf m_numbers m_holdsWhat m_holdsWhich m_holdsMany m_bodies m_ran m_actKind m_actN m_actA m_isParted []) s.heap.size)
  rw [← hAe] at hD hE ⊢
  have hA : ∀ q : Nat, s.heap.size ≤ q → A q := fun q h => by rw [hAe]; exact Or.inr h
  have hS : va_S A s.heap s.heap [] := va_S.rf
  have hl := lv_entry ([.ref e0, .int x0, .int x1, .int x2]) (n := 10) (Nat.le_of_ble_eq_true rfl)
  rw [lg_entry_eq]
  generalize (lg_sl ([.ref e0, .int x0, .int x1, .int x2]) ++ List.replicate (10 - (lg_sl ([.ref e0, .int x0, .int x1, .int x2])).length) Slot.unset).toArray = ls at hl ⊢
  have hl : lv_has ls 10 [(0, .ref e0), (1, .int x0), (2, .int x1), (3, .int x2)] := hl
  obtain ⟨Q, hQ⟩ := nm_ex (MQ below (QI D C (oMM C e0 e1 e2 e3 e4 e5 e6 e7 e8 e9 e10 e11 e12 e13 e14 e15 m_s m_held m_aside m_before m_isHeld m_tape m_taped m_token m_from m_to m_value m_isWrong m_due m_firsts m_rows m_rowN m_sortOf m_sizeOf m_numbers m_holdsWhat m_holdsWhich m_holdsMany m_bodies m_ran m_actKind m_actN m_actA m_isParted []) (oMM C e0 e1 e2 e3 e4 e5 e6 e7 e8 e9 e10 e11 e12 e13 e14 e15 (m_s') m_held (m_aside') m_before m_isHeld m_tape m_taped m_token m_from m_to m_value m_isWrong m_due m_firsts m_rows m_rowN m_sortOf m_sizeOf m_numbers m_holdsWhat m_holdsWhich m_holdsMany m_bodies m_ran m_actKind m_actN m_actA m_isParted []) s.heap.size r) (List.toArray [Value.ref e0, Value.int x0, Value.int x1, Value.int x2]) s 0 0 A)
  show W p l e (headSpec wsX6_fits (rmX6_fits)).room s m (List.toArray [Value.ref e0, Value.int x0, Value.int x1, Value.int x2]) below meth c s.heap [] 0 0 (MQ below (QI D C (oMM C e0 e1 e2 e3 e4 e5 e6 e7 e8 e9 e10 e11 e12 e13 e14 e15 m_s m_held m_aside m_before m_isHeld m_tape m_taped m_token m_from m_to m_value m_isWrong m_due m_firsts m_rows m_rowN m_sortOf m_sizeOf m_numbers m_holdsWhat m_holdsWhich m_holdsMany m_bodies m_ran m_actKind m_actN m_actA m_isParted []) (oMM C e0 e1 e2 e3 e4 e5 e6 e7 e8 e9 e10 e11 e12 e13 e14 e15 (m_s') m_held (m_aside') m_before m_isHeld m_tape m_taped m_token m_from m_to m_value m_isWrong m_due m_firsts m_rows m_rowN m_sortOf m_sizeOf m_numbers m_holdsWhat m_holdsWhich m_holdsMany m_bodies m_ran m_actKind m_actN m_actA m_isParted []) s.heap.size r) (List.toArray [Value.ref e0, Value.int x0, Value.int x1, Value.int x2]) s 0 0 A) _
  rw [← hQ]
  unfold f_X6_fits at hf
  have main : ∀ (H : Heap) (locs : List Loc), va_P D vwCl (oMM C e0 e1 e2 e3 e4 e5 e6 e7 e8 e9 e10 e11 e12 e13 e14 e15 m_s m_held m_aside m_before m_isHeld m_tape m_taped m_token m_from m_to m_value m_isWrong m_due m_firsts m_rows m_rowN m_sortOf m_sizeOf m_numbers m_holdsWhat m_holdsWhich m_holdsMany m_bodies m_ran m_actKind m_actN m_actA m_isParted []) H → va_D A (oMM C e0 e1 e2 e3 e4 e5 e6 e7 e8 e9 e10 e11 e12 e13 e14 e15 m_s m_held m_aside m_before m_isHeld m_tape m_taped m_token m_from m_to m_value m_isWrong m_due m_firsts m_rows m_rowN m_sortOf m_sizeOf m_numbers m_holdsWhat m_holdsWhich m_holdsMany m_bodies m_ran m_actKind m_actN m_actA m_isParted []) → va_S A s.heap H locs → W p l e (headSpec wsX6_fits (rmX6_fits)).room s m (List.toArray [Value.ref e0, Value.int x0, Value.int x1, Value.int x2]) below meth c H locs 0 0 Q (F0 m 0 ls []) := by
    intro H locs hP hD hS
    refine lv_iload_n hx hb dX6_fits_0 rfl (lv_at hl 1 rfl) ?_
    refine kcz (Wx := (oMM C e0 e1 e2 e3 e4 e5 e6 e7 e8 e9 e10 e11 e12 e13 e14 e15 m_s m_held m_aside m_before m_isHeld m_tape m_taped m_token m_from m_to m_value m_isWrong m_due m_firsts m_rows m_rowN m_sortOf m_sizeOf m_numbers m_holdsWhat m_holdsWhich m_holdsMany m_bodies m_ran m_actKind m_actN m_actA m_isParted [])) (va_runS (As := [.int x0]) (rest := []) ⟨hx, hb, hml, hown, hts⟩ (c_X6_isSheet l E D C H.size x0 _ rfl) (va_cwS 1 hts gX6_fits_X6_isSheet rfl rfl rfl hdX6_isSheet ⟨Nat.le_of_ble_eq_true rfl, Nat.le_of_ble_eq_true rfl⟩) (kpre hP hD hK hS hE hA [] rfl rfl) rfl rfl hl.1 rfl (lv_room (Nat.le_of_ble_eq_true rfl)) dX6_fits_1 ⟨Nat.zero_le _, Nat.zero_le _⟩) hP hD hS hA [] rfl rfl rfl (fun H locs hz1 hP hD hS => ?_)
    refine lv_if_eq (tgt := 25) hx hb dX6_fits_4 (by decide) (fun c2 => ?_) (fun c2 => ?_)
    · replace hf := if_te c2 hf
      refine lv_iconst (v := (-1)) hx hb dX6_fits_25 rfl ?_
      cases hf
      exact kri hQ hAe hx hb hr hlocks hP hD hK hS dX6_fits_26
    · replace hf := if_fe c2 hf
      refine lv_aload_n hx hb dX6_fits_7 rfl (lv_at hl 0 rfl) ?_
      refine lv_iload_n hx hb dX6_fits_8 rfl (lv_at hl 2 rfl) ?_
      refine kcz (Wx := (oMM C e0 e1 e2 e3 e4 e5 e6 e7 e8 e9 e10 e11 e12 e13 e14 e15 m_s m_held m_aside m_before m_isHeld m_tape m_taped m_token m_from m_to m_value m_isWrong m_due m_firsts m_rows m_rowN m_sortOf m_sizeOf m_numbers m_holdsWhat m_holdsWhich m_holdsMany m_bodies m_ran m_actKind m_actN m_actA m_isParted [])) (va_runV (As := [.int x1]) (rest := []) ⟨hx, hb, hml, hown, hts⟩ (c_X6_isOne l E D C e0 e1 e2 e3 e4 e5 e6 e7 e8 e9 e10 e11 e12 e13 e14 e15 H.size m_s m_held m_aside m_before m_isHeld m_tape m_taped m_token m_from m_to m_value m_isWrong m_due m_firsts m_rows m_rowN m_sortOf m_sizeOf m_numbers m_holdsWhat m_holdsWhich m_holdsMany m_bodies m_ran m_actKind m_actN m_actA m_isParted x1 _ rfl) (cwV 1 hts gX6_fits_X6_isOne rfl rfl rfl hdX6_isOne ⟨Nat.le_of_ble_eq_true rfl, Nat.le_of_ble_eq_true rfl⟩) (kpreV hP hD hK hS hE hA [0, 1, 2, 3, 4, 5, 6, 7, 8, 9, 10, 11, 12, 13, 14, 15] rfl rfl 0 rfl rfl rfl) rfl rfl hl.1 rfl (lv_room (Nat.le_of_ble_eq_true rfl)) dX6_fits_9 ⟨Nat.zero_le _, Nat.zero_le _⟩) hP hD hS hA [0, 1, 2, 3, 4, 5, 6, 7, 8, 9, 10, 11, 12, 13, 14, 15] rfl rfl rfl (fun H locs hz3 hP hD hS => ?_)
      refine lv_if_eq (tgt := 25) hx hb dX6_fits_12 (by decide) (fun c4 => ?_) (fun c4 => ?_)
      · replace hf := if_te c4 hf
        refine lv_iconst (v := (-1)) hx hb dX6_fits_25 rfl ?_
        cases hf
        exact kri hQ hAe hx hb hr hlocks hP hD hK hS dX6_fits_26
      · replace hf := if_fe c4 hf
        refine lv_iload_n hx hb dX6_fits_15 rfl (lv_at hl 3 rfl) ?_
        refine lv_i2l hx hb dX6_fits_16 rfl ?_
        refine lv_lconst (v := 0) hx hb dX6_fits_17 rfl ?_
        refine lv_lconst (v := 1) hx hb dX6_fits_18 rfl ?_
        refine kcz (Wx := (oMM C e0 e1 e2 e3 e4 e5 e6 e7 e8 e9 e10 e11 e12 e13 e14 e15 m_s m_held m_aside m_before m_isHeld m_tape m_taped m_token m_from m_to m_value m_isWrong m_due m_firsts m_rows m_rowN m_sortOf m_sizeOf m_numbers m_holdsWhat m_holdsWhich m_holdsMany m_bodies m_ran m_actKind m_actN m_actA m_isParted [])) (va_runS (As := [.long (Int32.toInt64 x2), .long 0, .long 1]) (rest := []) ⟨hx, hb, hml, hown, hts⟩ (c_X6_isIn l E D C H.size (Int32.toInt64 x2) 0 1 _ rfl) (va_cwS 3 hts gX6_fits_X6_isIn rfl rfl rfl hdX6_isIn ⟨Nat.le_of_ble_eq_true rfl, Nat.le_of_ble_eq_true rfl⟩) (kpre hP hD hK hS hE hA [] rfl rfl) rfl rfl hl.1 rfl (lv_room (Nat.le_of_ble_eq_true rfl)) dX6_fits_19 ⟨Nat.zero_le _, Nat.zero_le _⟩) hP hD hS hA [] rfl rfl rfl (fun H locs hz5 hP hD hS => ?_)
        refine lv_if_ne (tgt := 27) hx hb dX6_fits_22 (by decide) (fun c6 => ?_) (fun c6 => ?_)
        · replace hf := if_fe c6 hf
          refine lv_aload_n hx hb dX6_fits_27 rfl (lv_at hl 0 rfl) ?_
          refine va_get (D := D) (ci := 6) (v := .ref e9) (C := RX6) (T := TX6) (N := 28) hx hb hts hi_RX6 hown hK hP 0 rfl rfl 16 (by decide) (hts (.fieldLink RX6 34 "TravelMarksModel" "sortOf" "[I") (List.mem_of_getElem? (i := 1) rfl)) (fun _ h9 => h9) rfl dX6_fits_28 ?_
          refine lv_iload_n hx hb dX6_fits_31 rfl (lv_at hl 1 rfl) ?_
          obtain ⟨y8, ey8, hi7, hf⟩ := rdA_x hf
          refine va_iald hx hb hK hP 9 0 rfl rfl hi7 dX6_fits_32 ?_
          refine lv_ren ey8 ?_
          refine lv_if_ge (tgt := 39) hx hb dX6_fits_33 (by decide) (fun c9 => ?_) (fun c9 => ?_)
          · replace hf := if_te c9 hf
            refine lv_bipush (v := 19) hx hb dX6_fits_39 rfl ?_
            refine lv_iconst (v := 3) hx hb dX6_fits_41 rfl ?_
            refine lv_iload_n hx hb dX6_fits_42 rfl (lv_at hl 2 rfl) ?_
            refine lv_imul hx hb dX6_fits_43 ?_
            refine lv_iadd hx hb dX6_fits_44 ?_
            refine lv_iconst (v := 2) hx hb dX6_fits_45 rfl ?_
            refine lv_iadd hx hb dX6_fits_46 ?_
            obtain ⟨t10, et10, hf⟩ := lj_e hf
            refine lv_ren et10 ?_
            refine lv_istore (lv' := [(4, .int t10), (0, .ref e0), (1, .int x0), (2, .int x1), (3, .int x2)]) hx hb dX6_fits_47 hl (by decide) rfl (fun ls hl => ?_)
            refine lv_aload_n hx hb dX6_fits_49 rfl (lv_at hl 1 rfl) ?_
            refine va_get (D := D) (ci := 6) (v := .ref e1) (C := RX6) (T := TX6) (N := 28) hx hb hts hi_RX6 hown hK hP 0 rfl rfl 0 (by decide) (hts (.fieldLink RX6 7 "TravelMarksModel" "s" "[I") (List.mem_of_getElem? (i := 2) rfl)) (fun _ h9 => h9) rfl dX6_fits_50 ?_
            refine lv_iload hx hb dX6_fits_53 (lv_at hl 0 rfl) ?_
            obtain ⟨y12, ey12, hi11, hf⟩ := rdA_x hf
            refine va_iald hx hb hK hP 1 0 rfl rfl hi11 dX6_fits_55 ?_
            refine lv_ren ey12 ?_
            refine lv_istore (lv' := [(5, .int y12), (4, .int t10), (0, .ref e0), (1, .int x0), (2, .int x1), (3, .int x2)]) hx hb dX6_fits_56 hl (by decide) rfl (fun ls hl => ?_)
            refine lv_iconst (v := 0) hx hb dX6_fits_58 rfl ?_
            refine lv_istore (lv' := [(6, .int 0), (5, .int y12), (4, .int t10), (0, .ref e0), (1, .int x0), (2, .int x1), (3, .int x2)]) hx hb dX6_fits_59 hl (by decide) rfl (fun ls hl => ?_)
            refine lv_bipush (v := (-3)) hx hb dX6_fits_61 rfl ?_
            refine lv_istore (lv' := [(7, .int (-3)), (6, .int 0), (5, .int y12), (4, .int t10), (0, .ref e0), (1, .int x0), (2, .int x1), (3, .int x2)]) hx hb dX6_fits_63 hl (by decide) rfl (fun ls hl => ?_)
            refine lv_bipush (v := 7) hx hb dX6_fits_65 rfl ?_
            refine lv_istore (lv' := [(8, .int 7), (7, .int (-3)), (6, .int 0), (5, .int y12), (4, .int t10), (0, .ref e0), (1, .int x0), (2, .int x1), (3, .int x2)]) hx hb dX6_fits_67 hl (by decide) rfl (fun ls hl => ?_)
            obtain ⟨j17, hj17, hf⟩ := lj_e hf
            have Hj17 : ∀ (i13 : Int32) (i14 : Int32) (v15 : Nat → Int32) (v16 : Nat → Int32) (H : Heap) (locs : List Loc) (ls : Array Slot), va_P D vwCl (oMM C e0 e1 e2 e3 e4 e5 e6 e7 e8 e9 e10 e11 e12 e13 e14 e15 v15 m_held v16 m_before m_isHeld m_tape m_taped m_token m_from m_to m_value m_isWrong m_due m_firsts m_rows m_rowN m_sortOf m_sizeOf m_numbers m_holdsWhat m_holdsWhich m_holdsMany m_bodies m_ran m_actKind m_actN m_actA m_isParted []) H → va_D A (oMM C e0 e1 e2 e3 e4 e5 e6 e7 e8 e9 e10 e11 e12 e13 e14 e15 v15 m_held v16 m_before m_isHeld m_tape m_taped m_token m_from m_to m_value m_isWrong m_due m_firsts m_rows m_rowN m_sortOf m_sizeOf m_numbers m_holdsWhat m_holdsWhich m_holdsMany m_bodies m_ran m_actKind m_actN m_actA m_isParted []) → va_S A s.heap H locs → lv_has ls 10 [(7, .int i13), (6, .int i14), (5, .int y12), (4, .int t10), (0, .ref e0), (3, .int x2)] → j17 i13 i14 v15 v16 = some (r, m_s', m_aside') → W p l e (headSpec wsX6_fits (rmX6_fits)).room s m (List.toArray [Value.ref e0, Value.int x0, Value.int x1, Value.int x2]) below meth c H locs 0 0 Q (F0 m 126 ls []) := by
              intro i13 i14 v15 v16 H locs ls hP hD hS hl hf
              rw [hj17] at hf
              refine lv_aload_n hx hb dX6_fits_126 rfl (lv_at hl 4 rfl) ?_
              refine va_get (D := D) (ci := 6) (v := .ref e1) (C := RX6) (T := TX6) (N := 28) hx hb hts hi_RX6 hown hK hP 0 rfl rfl 0 (by decide) (hts (.fieldLink RX6 7 "TravelMarksModel" "s" "[I") (List.mem_of_getElem? (i := 2) rfl)) (fun _ h9 => h9) rfl dX6_fits_127 ?_
              refine lv_iload hx hb dX6_fits_130 (lv_at hl 3 rfl) ?_
              refine lv_iload hx hb dX6_fits_132 (lv_at hl 2 rfl) ?_
              obtain ⟨hi18, hf⟩ := ckA_e hf
              refine va_iast hx hb hK hP hD hS 1 0 rfl rfl hi18 dX6_fits_134 (fun H locs hP hD hS => ?_)
              obtain ⟨v19, ev19, hf⟩ := lj_e hf
              have hP : va_P D vwCl (oMM C e0 e1 e2 e3 e4 e5 e6 e7 e8 e9 e10 e11 e12 e13 e14 e15 v19 m_held v16 m_before m_isHeld m_tape m_taped m_token m_from m_to m_value m_isWrong m_due m_firsts m_rows m_rowN m_sortOf m_sizeOf m_numbers m_holdsWhat m_holdsWhich m_holdsMany m_bodies m_ran m_actKind m_actN m_actA m_isParted []) H := by rw [ev19]; exact hP
              have hD : va_D A (oMM C e0 e1 e2 e3 e4 e5 e6 e7 e8 e9 e10 e11 e12 e13 e14 e15 v19 m_held v16 m_before m_isHeld m_tape m_taped m_token m_from m_to m_value m_isWrong m_due m_firsts m_rows m_rowN m_sortOf m_sizeOf m_numbers m_holdsWhat m_holdsWhich m_holdsMany m_bodies m_ran m_actKind m_actN m_actA m_isParted []) := by rw [ev19]; exact hD
              refine lv_iload_n hx hb dX6_fits_135 rfl (lv_at hl 5 rfl) ?_
              refine lv_if_ne (tgt := 144) hx hb dX6_fits_136 (by decide) (fun c20 => ?_) (fun c20 => ?_)
              · replace hf := if_fe c20 hf
                refine lv_iload hx hb dX6_fits_144 (lv_at hl 0 rfl) ?_
                cases hf
                exact kri hQ hAe hx hb hr hlocks hP hD hK hS dX6_fits_146
              · replace hf := if_te c20 hf
                refine lv_iload hx hb dX6_fits_139 (lv_at hl 1 rfl) ?_
                refine lv_goto (tgt := 146) hx hb dX6_fits_141 (by decide) ?_
                cases hf
                exact kri hQ hAe hx hb hr hlocks hP hD hK hS dX6_fits_146
            have hL69 : ∀ (n : Nat) (i21 : Int32) (i22 : Int32) (i23 : Int32) (v24 : Nat → Int32) (v25 : Nat → Int32) (H : Heap) (locs : List Loc) (ls : Array Slot), va_P D vwCl (oMM C e0 e1 e2 e3 e4 e5 e6 e7 e8 e9 e10 e11 e12 e13 e14 e15 v24 m_held v25 m_before m_isHeld m_tape m_taped m_token m_from m_to m_value m_isWrong m_due m_firsts m_rows m_rowN m_sortOf m_sizeOf m_numbers m_holdsWhat m_holdsWhich m_holdsMany m_bodies m_ran m_actKind m_actN m_actA m_isParted []) H → va_D A (oMM C e0 e1 e2 e3 e4 e5 e6 e7 e8 e9 e10 e11 e12 e13 e14 e15 v24 m_held v25 m_before m_isHeld m_tape m_taped m_token m_from m_to m_value m_isWrong m_due m_firsts m_rows m_rowN m_sortOf m_sizeOf m_numbers m_holdsWhat m_holdsWhich m_holdsMany m_bodies m_ran m_actKind m_actN m_actA m_isParted []) → va_S A s.heap H locs → lv_has ls 10 [(8, .int i21), (7, .int i22), (6, .int i23), (5, .int y12), (4, .int t10), (0, .ref e0), (1, .int x0), (2, .int x1), (3, .int x2)] → f_X6_fits_L69 N m_sizeOf m_numbers x0 x1 t10 j17 n i21 i22 i23 v24 v25 = some (r, m_s', m_aside') → W p l e (headSpec wsX6_fits (rmX6_fits)).room s m (List.toArray [Value.ref e0, Value.int x0, Value.int x1, Value.int x2]) below meth c H locs 0 0 Q (F0 m 69 ls []) := by
              intro n
              induction n with
              | zero =>
                intro i21 i22 i23 v24 v25 H locs ls hP hD hS hl hf
                exact absurd hf (fun h => by cases h)
              | succ n ih =>
                intro i21 i22 i23 v24 v25 H locs ls hP hD hS hl hf
                rw [f_X6_fits_L69] at hf
                refine lv_iload hx hb dX6_fits_69 (lv_at hl 0 rfl) ?_
                refine lv_if_lt (tgt := 126) hx hb dX6_fits_71 (by decide) (fun c26 => ?_) (fun c26 => ?_)
                · replace hf := if_te c26 hf
                  exact Hj17 i22 i23 v24 v25 H locs ls hP hD hS (lv_sub hl [1, 2, 3, 4, 5, 8] rfl) hf
                · replace hf := if_fe c26 hf
                  refine lv_aload_n hx hb dX6_fits_74 rfl (lv_at hl 5 rfl) ?_
                  refine va_get (D := D) (ci := 6) (v := .ref e1) (C := RX6) (T := TX6) (N := 28) hx hb hts hi_RX6 hown hK hP 0 rfl rfl 0 (by decide) (hts (.fieldLink RX6 7 "TravelMarksModel" "s" "[I") (List.mem_of_getElem? (i := 2) rfl)) (fun _ h9 => h9) rfl dX6_fits_75 ?_
                  refine lv_iload hx hb dX6_fits_78 (lv_at hl 4 rfl) ?_
                  refine lv_iload hx hb dX6_fits_80 (lv_at hl 0 rfl) ?_
                  obtain ⟨hi27, hf⟩ := ckA_e hf
                  refine va_iast hx hb hK hP hD hS 1 0 rfl rfl hi27 dX6_fits_82 (fun H locs hP hD hS => ?_)
                  obtain ⟨v28, ev28, hf⟩ := lj_e hf
                  have hP : va_P D vwCl (oMM C e0 e1 e2 e3 e4 e5 e6 e7 e8 e9 e10 e11 e12 e13 e14 e15 v28 m_held v25 m_before m_isHeld m_tape m_taped m_token m_from m_to m_value m_isWrong m_due m_firsts m_rows m_rowN m_sortOf m_sizeOf m_numbers m_holdsWhat m_holdsWhich m_holdsMany m_bodies m_ran m_actKind m_actN m_actA m_isParted []) H := by rw [ev28]; exact hP
                  have hD : va_D A (oMM C e0 e1 e2 e3 e4 e5 e6 e7 e8 e9 e10 e11 e12 e13 e14 e15 v28 m_held v25 m_before m_isHeld m_tape m_taped m_token m_from m_to m_value m_isWrong m_due m_firsts m_rows m_rowN m_sortOf m_sizeOf m_numbers m_holdsWhat m_holdsWhich m_holdsMany m_bodies m_ran m_actKind m_actN m_actA m_isParted []) := by rw [ev28]; exact hD
                  refine lv_aload_n hx hb dX6_fits_83 rfl (lv_at hl 5 rfl) ?_
                  refine lv_iload_n hx hb dX6_fits_84 rfl (lv_at hl 6 rfl) ?_
                  refine lv_iload_n hx hb dX6_fits_85 rfl (lv_at hl 7 rfl) ?_
                  obtain ⟨r29, v30, v31, h32, hf⟩ := ob3_e hf
                  refine kcz (Wx := (oMM C e0 e1 e2 e3 e4 e5 e6 e7 e8 e9 e10 e11 e12 e13 e14 e15 v30 m_held v31 m_before m_isHeld m_tape m_taped m_token m_from m_to m_value m_isWrong m_due m_firsts m_rows m_rowN m_sortOf m_sizeOf m_numbers m_holdsWhat m_holdsWhich m_holdsMany m_bodies m_ran m_actKind m_actN m_actA m_isParted [])) (va_runV (As := [.int x0, .int x1]) (rest := []) ⟨hx, hb, hml, hown, hts⟩ (c_X6_isTold l E D C e0 e1 e2 e3 e4 e5 e6 e7 e8 e9 e10 e11 e12 e13 e14 e15 H.size N v28 m_held v25 m_before m_isHeld m_tape m_taped m_token m_from m_to m_value m_isWrong m_due m_firsts m_rows m_rowN m_sortOf m_sizeOf m_numbers m_holdsWhat m_holdsWhich m_holdsMany m_bodies m_ran m_actKind m_actN m_actA m_isParted x0 x1 r29 v30 v31 h32) (cwV 2 hts gX6_fits_X6_isTold rfl rfl rfl hdX6_isTold ⟨Nat.le_of_ble_eq_true rfl, Nat.le_of_ble_eq_true rfl⟩) (kpreV hP hD hK hS hE hA [0, 1, 2, 3, 4, 5, 6, 7, 8, 9, 10, 11, 12, 13, 14, 15] rfl rfl 0 rfl rfl rfl) rfl rfl hl.1 rfl (lv_room (Nat.le_of_ble_eq_true rfl)) dX6_fits_86 ⟨Nat.zero_le _, Nat.zero_le _⟩) hP hD hS hA [0, 1, 2, 3, 4, 5, 6, 7, 8, 9, 10, 11, 12, 13, 14, 15] rfl rfl rfl (fun H locs hz33 hP hD hS => ?_)
                  refine lv_istore (lv' := [(9, .int r29), (8, .int i21), (7, .int i22), (6, .int i23), (5, .int y12), (4, .int t10), (0, .ref e0), (1, .int x0), (2, .int x1), (3, .int x2)]) hx hb dX6_fits_89 hl (by decide) rfl (fun ls hl => ?_)
                  refine lv_iload hx hb dX6_fits_91 (lv_at hl 3 rfl) ?_
                  refine lv_iload hx hb dX6_fits_93 (lv_at hl 0 rfl) ?_
                  obtain ⟨j35, hj35, hf⟩ := lj_e hf
                  have Hj35 : ∀ (k34 : Int32) (H : Heap) (locs : List Loc) (ls : Array Slot), va_P D vwCl (oMM C e0 e1 e2 e3 e4 e5 e6 e7 e8 e9 e10 e11 e12 e13 e14 e15 v30 m_held v31 m_before m_isHeld m_tape m_taped m_token m_from m_to m_value m_isWrong m_due m_firsts m_rows m_rowN m_sortOf m_sizeOf m_numbers m_holdsWhat m_holdsWhich m_holdsMany m_bodies m_ran m_actKind m_actN m_actA m_isParted []) H → va_D A (oMM C e0 e1 e2 e3 e4 e5 e6 e7 e8 e9 e10 e11 e12 e13 e14 e15 v30 m_held v31 m_before m_isHeld m_tape m_taped m_token m_from m_to m_value m_isWrong m_due m_firsts m_rows m_rowN m_sortOf m_sizeOf m_numbers m_holdsWhat m_holdsWhich m_holdsMany m_bodies m_ran m_actKind m_actN m_actA m_isParted []) → va_S A s.heap H locs → lv_has ls 10 [(9, .int r29), (8, .int i21), (7, .int i22), (5, .int y12), (4, .int t10), (0, .ref e0), (1, .int x0), (2, .int x1), (3, .int x2)] → j35 k34 = some (r, m_s', m_aside') → W p l e (headSpec wsX6_fits (rmX6_fits)).room s m (List.toArray [Value.ref e0, Value.int x0, Value.int x1, Value.int x2]) below meth c H locs 0 0 Q (F0 m 103 ls [.int k34, .int i23]) := by
                    intro k34 H locs ls hP hD hS hl hf
                    rw [hj35] at hf
                    refine lv_iadd hx hb dX6_fits_103 ?_
                    obtain ⟨t36, et36, hf⟩ := lj_e hf
                    refine lv_ren et36 ?_
                    refine lv_istore (lv' := [(6, .int t36), (9, .int r29), (8, .int i21), (7, .int i22), (5, .int y12), (4, .int t10), (0, .ref e0), (1, .int x0), (2, .int x1), (3, .int x2)]) hx hb dX6_fits_104 hl (by decide) rfl (fun ls hl => ?_)
                    refine lv_iload hx hb dX6_fits_106 (lv_at hl 1 rfl) ?_
                    obtain ⟨j38, hj38, hf⟩ := lj_e hf
                    have Hj38 : ∀ (k37 : Int32) (H : Heap) (locs : List Loc) (ls : Array Slot), va_P D vwCl (oMM C e0 e1 e2 e3 e4 e5 e6 e7 e8 e9 e10 e11 e12 e13 e14 e15 v30 m_held v31 m_before m_isHeld m_tape m_taped m_token m_from m_to m_value m_isWrong m_due m_firsts m_rows m_rowN m_sortOf m_sizeOf m_numbers m_holdsWhat m_holdsWhich m_holdsMany m_bodies m_ran m_actKind m_actN m_actA m_isParted []) H → va_D A (oMM C e0 e1 e2 e3 e4 e5 e6 e7 e8 e9 e10 e11 e12 e13 e14 e15 v30 m_held v31 m_before m_isHeld m_tape m_taped m_token m_from m_to m_value m_isWrong m_due m_firsts m_rows m_rowN m_sortOf m_sizeOf m_numbers m_holdsWhat m_holdsWhich m_holdsMany m_bodies m_ran m_actKind m_actN m_actA m_isParted []) → va_S A s.heap H locs → lv_has ls 10 [(6, .int t36), (8, .int i21), (5, .int y12), (4, .int t10), (0, .ref e0), (1, .int x0), (2, .int x1), (3, .int x2)] → j38 k37 = some (r, m_s', m_aside') → W p l e (headSpec wsX6_fits (rmX6_fits)).room s m (List.toArray [Value.ref e0, Value.int x0, Value.int x1, Value.int x2]) below meth c H locs 0 0 Q (F0 m 118 ls [.int k37]) := by
                      intro k37 H locs ls hP hD hS hl hf
                      rw [hj38] at hf
                      refine lv_istore (lv' := [(7, .int k37), (6, .int t36), (8, .int i21), (5, .int y12), (4, .int t10), (0, .ref e0), (1, .int x0), (2, .int x1), (3, .int x2)]) hx hb dX6_fits_118 hl (by decide) rfl (fun ls hl => ?_)
                      obtain ⟨t39, et39, hf⟩ := lj_e hf
                      refine lv_iinc (v := t39) (lv' := [(8, .int t39), (7, .int k37), (6, .int t36), (5, .int y12), (4, .int t10), (0, .ref e0), (1, .int x0), (2, .int x1), (3, .int x2)]) hx hb dX6_fits_120 hl (k := 2) rfl (by rw [et39]; rfl) (by decide) rfl (fun ls hl => ?_)
                      refine lv_goto (tgt := 69) hx hb dX6_fits_123 (by decide) ?_
                      exact ih t39 k37 t36 v30 v31 H locs ls hP hD hS (lv_sub hl [0, 1, 2, 3, 4, 5, 6, 7, 8] rfl) hf
                    refine lv_if_eq (tgt := 116) hx hb dX6_fits_108 (by decide) (fun c40 => ?_) (fun c40 => ?_)
                    · replace hf := if_te c40 hf
                      refine lv_iload hx hb dX6_fits_116 (lv_at hl 3 rfl) ?_
                      exact Hj38 i22 H locs ls hP hD hS (lv_sub hl [0, 2, 4, 5, 6, 7, 8, 9] rfl) hf
                    · replace hf := if_fe c40 hf
                      refine lv_iload hx hb dX6_fits_111 (lv_at hl 2 rfl) ?_
                      refine lv_goto (tgt := 118) hx hb dX6_fits_113 (by decide) ?_
                      exact Hj38 i21 H locs ls hP hD hS (lv_sub hl [0, 2, 4, 5, 6, 7, 8, 9] rfl) hf
                  refine lv_if_eq (tgt := 102) hx hb dX6_fits_95 (by decide) (fun c41 => ?_) (fun c41 => ?_)
                  · replace hf := if_te c41 hf
                    refine lv_iconst (v := 0) hx hb dX6_fits_102 rfl ?_
                    exact Hj35 0 H locs ls hP hD hS (lv_sub hl [0, 1, 2, 4, 5, 6, 7, 8, 9] rfl) hf
                  · replace hf := if_fe c41 hf
                    refine lv_iconst (v := 1) hx hb dX6_fits_98 rfl ?_
                    refine lv_goto (tgt := 103) hx hb dX6_fits_99 (by decide) ?_
                    exact Hj35 1 H locs ls hP hD hS (lv_sub hl [0, 1, 2, 4, 5, 6, 7, 8, 9] rfl) hf
            exact hL69 N 7 (-3) 0 m_s m_aside H locs ls hP hD hS (lv_sub hl [0, 1, 2, 3, 4, 5, 6, 7, 8] rfl) hf
          · replace hf := if_fe c9 hf
            refine lv_bipush (v := (-11)) hx hb dX6_fits_36 rfl ?_
            cases hf
            exact kri hQ hAe hx hb hr hlocks hP hD hK hS dX6_fits_38
        · replace hf := if_te c6 hf
          refine lv_iconst (v := (-1)) hx hb dX6_fits_25 rfl ?_
          cases hf
          exact kri hQ hAe hx hb hr hlocks hP hD hK hS dX6_fits_26
  exact main _ _ hP hD hS

def rmX6_odds : Room := { frames := 1, cells := 0, slots := 0, locals := 30 }
theorem hdX6_odds : yX6_odds.cls = RX6 ∧ yX6_odds.cls ≠ "java/lang/invoke/MethodHandle" ∧ yX6_odds.cls ≠ "java/lang/invoke/VarHandle" ∧ (parseMethodDescriptor yX6_odds.desc).map (fun d => d.parameters.length) = some 3 := by decide +kernel
set_option maxHeartbeats 40000000 in
set_option maxRecDepth 100000 in
theorem c_X6_odds (l : Launch) (E : Nat → Nat) (D : va_G) (C : Nat → ClassId) (e0 e1 e2 e3 e4 e5 e6 e7 e8 e9 e10 e11 e12 e13 e14 e15 : Nat) (sz : Nat) (N : Nat) (m_s : Nat → Int32) (m_held : Nat → Int32) (m_aside : Nat → Int32) (m_before : Nat → Int32) (m_isHeld : Int32) (m_tape : Nat → Int32) (m_taped : Int32) (m_token : Int32) (m_from : Int32) (m_to : Int32) (m_value : Int32) (m_isWrong : Int32) (m_due : Nat → Int32) (m_firsts : Nat → Int32) (m_rows : Nat → Int32) (m_rowN : Int32) (m_sortOf : Nat → Int32) (m_sizeOf : Nat → Int32) (m_numbers : Nat → Int32) (m_holdsWhat : Nat → Int32) (m_holdsWhich : Nat → Int32) (m_holdsMany : Nat → Int32) (m_bodies : Nat → Int32) (m_ran : Int32) (m_actKind : Int32) (m_actN : Int32) (m_actA : Int32) (m_isParted : Int32) (x0 : Int32) (x1 : Int32) (x2 : Int32) (r : Int64) (hf : f_X6_odds N m_s x0 x1 x2 = some r) : Met l yX6_odds wsX6_odds rmX6_odds (PC E D C [.ref e0, .int x0, .int x1, .int x2] (oMM C e0 e1 e2 e3 e4 e5 e6 e7 e8 e9 e10 e11 e12 e13 e14 e15 m_s m_held m_aside m_before m_isHeld m_tape m_taped m_token m_from m_to m_value m_isWrong m_due m_firsts m_rows m_rowN m_sortOf m_sizeOf m_numbers m_holdsWhat m_holdsWhich m_holdsMany m_bodies m_ran m_actKind m_actN m_actA m_isParted []) sz) (QL D C (oMM C e0 e1 e2 e3 e4 e5 e6 e7 e8 e9 e10 e11 e12 e13 e14 e15 m_s m_held m_aside m_before m_isHeld m_tape m_taped m_token m_from m_to m_value m_isWrong m_due m_firsts m_rows m_rowN m_sortOf m_sizeOf m_numbers m_holdsWhat m_holdsWhich m_holdsMany m_bodies m_ran m_actKind m_actN m_actA m_isParted []) (oMM C e0 e1 e2 e3 e4 e5 e6 e7 e8 e9 e10 e11 e12 e13 e14 e15 m_s m_held m_aside m_before m_isHeld m_tape m_taped m_token m_from m_to m_value m_isWrong m_due m_firsts m_rows m_rowN m_sortOf m_sizeOf m_numbers m_holdsWhat m_holdsWhich m_holdsMany m_bodies m_ran m_actKind m_actN m_actA m_isParted []) sz r) 0 0 (va_A (oMM C e0 e1 e2 e3 e4 e5 e6 e7 e8 e9 e10 e11 e12 e13 e14 e15 m_s m_held m_aside m_before m_isHeld m_tape m_taped m_token m_from m_to m_value m_isWrong m_due m_firsts m_rows m_rowN m_sortOf m_sizeOf m_numbers m_holdsWhat m_holdsWhich m_holdsMany m_bodies m_ran m_actKind m_actN m_actA m_isParted []) sz) := by
  refine Met.ofW (cc := cX6_odds) (maxL := 9) (ret := (some .long)) (by decide) rfl ?_
  intro p e s m args below meth c s₁ B hml hv
  obtain ⟨rfl, hsz, hP, hK, hD0, hE⟩ := hv
  have hx := B.exec
  have hb := B.bytes
  have hr := B.returns
  have hts := atoms_spec (ws := wsX6_odds) B.pre
  have hown : s.vm.findClass RX6 = some m.cls := findClass_of_methodNamed B.named
  have hlocks := B.notSynchronized
  subst hsz
  have hi_RX6 : ∀ w ∈ wsX60, w ∈ wsX6_odds := fun _ h => List.mem_cons_of_mem _ (List.mem_append_right _ h)
  have hD := hD0.self (sz := s.heap.size)
  obtain ⟨A, hAe⟩ := nm_ex (va_A (oMM C e0 e1 e2 e3 e4 e5 e6 e7 e8 e9 e10 e11 e12 e13 e14 e15 m_s m_held m_aside m_before m_isHeld m_tape m_taped m_token m_from m_to m_value m_isWrong m_due m_firsts m_rows m_rowN m_sortOf m_sizeOf m_numbers m_holdsWhat m_holdsWhich m_holdsMany m_bodies m_ran m_actKind m_actN m_actA m_isParted []) s.heap.size)
  rw [← hAe] at hD hE ⊢
  have hA : ∀ q : Nat, s.heap.size ≤ q → A q := fun q h => by rw [hAe]; exact Or.inr h
  have hS : va_S A s.heap s.heap [] := va_S.rf
  have hl := lv_entry ([.ref e0, .int x0, .int x1, .int x2]) (n := 9) (Nat.le_of_ble_eq_true rfl)
  rw [lg_entry_eq]
  generalize (lg_sl ([.ref e0, .int x0, .int x1, .int x2]) ++ List.replicate (9 - (lg_sl ([.ref e0, .int x0, .int x1, .int x2])).length) Slot.unset).toArray = ls at hl ⊢
  have hl : lv_has ls 9 [(0, .ref e0), (1, .int x0), (2, .int x1), (3, .int x2)] := hl
  obtain ⟨Q, hQ⟩ := nm_ex (MQ below (QL D C (oMM C e0 e1 e2 e3 e4 e5 e6 e7 e8 e9 e10 e11 e12 e13 e14 e15 m_s m_held m_aside m_before m_isHeld m_tape m_taped m_token m_from m_to m_value m_isWrong m_due m_firsts m_rows m_rowN m_sortOf m_sizeOf m_numbers m_holdsWhat m_holdsWhich m_holdsMany m_bodies m_ran m_actKind m_actN m_actA m_isParted []) (oMM C e0 e1 e2 e3 e4 e5 e6 e7 e8 e9 e10 e11 e12 e13 e14 e15 m_s m_held m_aside m_before m_isHeld m_tape m_taped m_token m_from m_to m_value m_isWrong m_due m_firsts m_rows m_rowN m_sortOf m_sizeOf m_numbers m_holdsWhat m_holdsWhich m_holdsMany m_bodies m_ran m_actKind m_actN m_actA m_isParted []) s.heap.size r) (List.toArray [Value.ref e0, Value.int x0, Value.int x1, Value.int x2]) s 0 0 A)
  show W p l e (headSpec wsX6_odds (rmX6_odds)).room s m (List.toArray [Value.ref e0, Value.int x0, Value.int x1, Value.int x2]) below meth c s.heap [] 0 0 (MQ below (QL D C (oMM C e0 e1 e2 e3 e4 e5 e6 e7 e8 e9 e10 e11 e12 e13 e14 e15 m_s m_held m_aside m_before m_isHeld m_tape m_taped m_token m_from m_to m_value m_isWrong m_due m_firsts m_rows m_rowN m_sortOf m_sizeOf m_numbers m_holdsWhat m_holdsWhich m_holdsMany m_bodies m_ran m_actKind m_actN m_actA m_isParted []) (oMM C e0 e1 e2 e3 e4 e5 e6 e7 e8 e9 e10 e11 e12 e13 e14 e15 m_s m_held m_aside m_before m_isHeld m_tape m_taped m_token m_from m_to m_value m_isWrong m_due m_firsts m_rows m_rowN m_sortOf m_sizeOf m_numbers m_holdsWhat m_holdsWhich m_holdsMany m_bodies m_ran m_actKind m_actN m_actA m_isParted []) s.heap.size r) (List.toArray [Value.ref e0, Value.int x0, Value.int x1, Value.int x2]) s 0 0 A) _
  rw [← hQ]
  unfold f_X6_odds at hf
  have main : ∀ (H : Heap) (locs : List Loc), va_P D vwCl (oMM C e0 e1 e2 e3 e4 e5 e6 e7 e8 e9 e10 e11 e12 e13 e14 e15 m_s m_held m_aside m_before m_isHeld m_tape m_taped m_token m_from m_to m_value m_isWrong m_due m_firsts m_rows m_rowN m_sortOf m_sizeOf m_numbers m_holdsWhat m_holdsWhich m_holdsMany m_bodies m_ran m_actKind m_actN m_actA m_isParted []) H → va_D A (oMM C e0 e1 e2 e3 e4 e5 e6 e7 e8 e9 e10 e11 e12 e13 e14 e15 m_s m_held m_aside m_before m_isHeld m_tape m_taped m_token m_from m_to m_value m_isWrong m_due m_firsts m_rows m_rowN m_sortOf m_sizeOf m_numbers m_holdsWhat m_holdsWhich m_holdsMany m_bodies m_ran m_actKind m_actN m_actA m_isParted []) → va_S A s.heap H locs → W p l e (headSpec wsX6_odds (rmX6_odds)).room s m (List.toArray [Value.ref e0, Value.int x0, Value.int x1, Value.int x2]) below meth c H locs 0 0 Q (F0 m 0 ls []) := by
    intro H locs hP hD hS
    refine lv_iload_n hx hb dX6_odds_0 rfl (lv_at hl 1 rfl) ?_
    refine lv_i2l hx hb dX6_odds_1 rfl ?_
    refine lv_lconst (v := 0) hx hb dX6_odds_2 rfl ?_
    refine lv_ldc2 (v := 8) hx hb hown (hts (.constantLong RX6 58 (8)) (List.mem_of_getElem? (i := 1) rfl)) dX6_odds_3 ?_
    refine kcz (Wx := (oMM C e0 e1 e2 e3 e4 e5 e6 e7 e8 e9 e10 e11 e12 e13 e14 e15 m_s m_held m_aside m_before m_isHeld m_tape m_taped m_token m_from m_to m_value m_isWrong m_due m_firsts m_rows m_rowN m_sortOf m_sizeOf m_numbers m_holdsWhat m_holdsWhich m_holdsMany m_bodies m_ran m_actKind m_actN m_actA m_isParted [])) (va_runS (As := [.long (Int32.toInt64 x0), .long 0, .long 8]) (rest := []) ⟨hx, hb, hml, hown, hts⟩ (c_X6_isIn l E D C H.size (Int32.toInt64 x0) 0 8 _ rfl) (va_cwS 3 hts gX6_odds_X6_isIn rfl rfl rfl hdX6_isIn ⟨Nat.le_of_ble_eq_true rfl, Nat.le_of_ble_eq_true rfl⟩) (kpre hP hD hK hS hE hA [] rfl rfl) rfl rfl hl.1 rfl (lv_room (Nat.le_of_ble_eq_true rfl)) dX6_odds_6 ⟨Nat.zero_le _, Nat.zero_le _⟩) hP hD hS hA [] rfl rfl rfl (fun H locs hz1 hP hD hS => ?_)
    refine lv_if_eq (tgt := 33) hx hb dX6_odds_9 (by decide) (fun c2 => ?_) (fun c2 => ?_)
    · replace hf := if_te c2 hf
      refine lv_ldc2 (v := (-1)) hx hb hown (hts (.constantLong RX6 262 (-1)) (List.mem_of_getElem? (i := 2) rfl)) dX6_odds_33 ?_
      cases hf
      exact krl hQ hAe hx hb hr hlocks hP hD hK hS dX6_odds_36
    · replace hf := if_fe c2 hf
      refine lv_iload_n hx hb dX6_odds_12 rfl (lv_at hl 2 rfl) ?_
      refine lv_i2l hx hb dX6_odds_13 rfl ?_
      refine lv_lconst (v := 0) hx hb dX6_odds_14 rfl ?_
      refine lv_iload_n hx hb dX6_odds_15 rfl (lv_at hl 1 rfl) ?_
      refine lv_i2l hx hb dX6_odds_16 rfl ?_
      refine kcz (Wx := (oMM C e0 e1 e2 e3 e4 e5 e6 e7 e8 e9 e10 e11 e12 e13 e14 e15 m_s m_held m_aside m_before m_isHeld m_tape m_taped m_token m_from m_to m_value m_isWrong m_due m_firsts m_rows m_rowN m_sortOf m_sizeOf m_numbers m_holdsWhat m_holdsWhich m_holdsMany m_bodies m_ran m_actKind m_actN m_actA m_isParted [])) (va_runS (As := [.long (Int32.toInt64 x1), .long 0, .long (Int32.toInt64 x0)]) (rest := []) ⟨hx, hb, hml, hown, hts⟩ (c_X6_isIn l E D C H.size (Int32.toInt64 x1) 0 (Int32.toInt64 x0) _ rfl) (va_cwS 3 hts gX6_odds_X6_isIn rfl rfl rfl hdX6_isIn ⟨Nat.le_of_ble_eq_true rfl, Nat.le_of_ble_eq_true rfl⟩) (kpre hP hD hK hS hE hA [] rfl rfl) rfl rfl hl.1 rfl (lv_room (Nat.le_of_ble_eq_true rfl)) dX6_odds_17 ⟨Nat.zero_le _, Nat.zero_le _⟩) hP hD hS hA [] rfl rfl rfl (fun H locs hz3 hP hD hS => ?_)
      refine lv_if_eq (tgt := 33) hx hb dX6_odds_20 (by decide) (fun c4 => ?_) (fun c4 => ?_)
      · replace hf := if_te c4 hf
        refine lv_ldc2 (v := (-1)) hx hb hown (hts (.constantLong RX6 262 (-1)) (List.mem_of_getElem? (i := 2) rfl)) dX6_odds_33 ?_
        cases hf
        exact krl hQ hAe hx hb hr hlocks hP hD hK hS dX6_odds_36
      · replace hf := if_fe c4 hf
        refine lv_iload_n hx hb dX6_odds_23 rfl (lv_at hl 3 rfl) ?_
        refine lv_i2l hx hb dX6_odds_24 rfl ?_
        refine lv_lconst (v := 0) hx hb dX6_odds_25 rfl ?_
        refine lv_lconst (v := 1) hx hb dX6_odds_26 rfl ?_
        refine kcz (Wx := (oMM C e0 e1 e2 e3 e4 e5 e6 e7 e8 e9 e10 e11 e12 e13 e14 e15 m_s m_held m_aside m_before m_isHeld m_tape m_taped m_token m_from m_to m_value m_isWrong m_due m_firsts m_rows m_rowN m_sortOf m_sizeOf m_numbers m_holdsWhat m_holdsWhich m_holdsMany m_bodies m_ran m_actKind m_actN m_actA m_isParted [])) (va_runS (As := [.long (Int32.toInt64 x2), .long 0, .long 1]) (rest := []) ⟨hx, hb, hml, hown, hts⟩ (c_X6_isIn l E D C H.size (Int32.toInt64 x2) 0 1 _ rfl) (va_cwS 3 hts gX6_odds_X6_isIn rfl rfl rfl hdX6_isIn ⟨Nat.le_of_ble_eq_true rfl, Nat.le_of_ble_eq_true rfl⟩) (kpre hP hD hK hS hE hA [] rfl rfl) rfl rfl hl.1 rfl (lv_room (Nat.le_of_ble_eq_true rfl)) dX6_odds_27 ⟨Nat.zero_le _, Nat.zero_le _⟩) hP hD hS hA [] rfl rfl rfl (fun H locs hz5 hP hD hS => ?_)
        refine lv_if_ne (tgt := 37) hx hb dX6_odds_30 (by decide) (fun c6 => ?_) (fun c6 => ?_)
        · replace hf := if_fe c6 hf
          refine lv_iload_n hx hb dX6_odds_37 rfl (lv_at hl 1 rfl) ?_
          obtain ⟨r7, h8, hf⟩ := ob1_e hf
          refine kcl (Wx := (oMM C e0 e1 e2 e3 e4 e5 e6 e7 e8 e9 e10 e11 e12 e13 e14 e15 m_s m_held m_aside m_before m_isHeld m_tape m_taped m_token m_from m_to m_value m_isWrong m_due m_firsts m_rows m_rowN m_sortOf m_sizeOf m_numbers m_holdsWhat m_holdsWhich m_holdsMany m_bodies m_ran m_actKind m_actN m_actA m_isParted [])) (va_runS (As := [.int x0]) (rest := []) ⟨hx, hb, hml, hown, hts⟩ (c_X6_product l E D C H.size N x0 r7 h8) (va_cwS 1 hts gX6_odds_X6_product rfl rfl rfl hdX6_product ⟨Nat.le_of_ble_eq_true rfl, Nat.le_of_ble_eq_true rfl⟩) (kpre hP hD hK hS hE hA [] rfl rfl) rfl rfl hl.1 rfl (lv_room (Nat.le_of_ble_eq_true rfl)) dX6_odds_38 ⟨Nat.zero_le _, Nat.zero_le _⟩) hP hD hS hA [] rfl rfl rfl (fun H locs hP hD hS => ?_)
          refine lv_iload_n hx hb dX6_odds_41 rfl (lv_at hl 2 rfl) ?_
          obtain ⟨r9, h10, hf⟩ := ob1_e hf
          refine kcl (Wx := (oMM C e0 e1 e2 e3 e4 e5 e6 e7 e8 e9 e10 e11 e12 e13 e14 e15 m_s m_held m_aside m_before m_isHeld m_tape m_taped m_token m_from m_to m_value m_isWrong m_due m_firsts m_rows m_rowN m_sortOf m_sizeOf m_numbers m_holdsWhat m_holdsWhich m_holdsMany m_bodies m_ran m_actKind m_actN m_actA m_isParted [])) (va_runS (As := [.int x1]) (rest := [.long r7]) ⟨hx, hb, hml, hown, hts⟩ (c_X6_product l E D C H.size N x1 r9 h10) (va_cwS 1 hts gX6_odds_X6_product rfl rfl rfl hdX6_product ⟨Nat.le_of_ble_eq_true rfl, Nat.le_of_ble_eq_true rfl⟩) (kpre hP hD hK hS hE hA [] rfl rfl) rfl rfl hl.1 rfl (lv_room (Nat.le_of_ble_eq_true rfl)) dX6_odds_42 ⟨Nat.zero_le _, Nat.zero_le _⟩) hP hD hS hA [] rfl rfl rfl (fun H locs hP hD hS => ?_)
          obtain ⟨hz11, hf⟩ := gdP_e hf
          refine lv_ldiv hx hb dX6_odds_45 hz11 ?_
          refine lv_iload_n hx hb dX6_odds_46 rfl (lv_at hl 1 rfl) ?_
          refine lv_iload_n hx hb dX6_odds_47 rfl (lv_at hl 2 rfl) ?_
          refine lv_isub hx hb dX6_odds_48 ?_
          obtain ⟨r12, h13, hf⟩ := ob1_e hf
          refine kcl (Wx := (oMM C e0 e1 e2 e3 e4 e5 e6 e7 e8 e9 e10 e11 e12 e13 e14 e15 m_s m_held m_aside m_before m_isHeld m_tape m_taped m_token m_from m_to m_value m_isWrong m_due m_firsts m_rows m_rowN m_sortOf m_sizeOf m_numbers m_holdsWhat m_holdsWhich m_holdsMany m_bodies m_ran m_actKind m_actN m_actA m_isParted [])) (va_runS (As := [.int (x0 - x1)]) (rest := [.long (r7 / r9)]) ⟨hx, hb, hml, hown, hts⟩ (c_X6_product l E D C H.size N (x0 - x1) r12 h13) (va_cwS 1 hts gX6_odds_X6_product rfl rfl rfl hdX6_product ⟨Nat.le_of_ble_eq_true rfl, Nat.le_of_ble_eq_true rfl⟩) (kpre hP hD hK hS hE hA [] rfl rfl) rfl rfl hl.1 rfl (lv_room (Nat.le_of_ble_eq_true rfl)) dX6_odds_49 ⟨Nat.zero_le _, Nat.zero_le _⟩) hP hD hS hA [] rfl rfl rfl (fun H locs hP hD hS => ?_)
          obtain ⟨hz14, hf⟩ := gdP_e hf
          refine lv_ldiv hx hb dX6_odds_52 hz14 ?_
          obtain ⟨t15, et15, hf⟩ := lj_e hf
          refine lv_renL et15 ?_
          refine lv_lstore (lv' := [(4, .long t15), (0, .ref e0), (1, .int x0), (2, .int x1), (3, .int x2)]) hx hb dX6_odds_53 hl (by decide) rfl (fun ls hl => ?_)
          refine lv_lconst (v := 1) hx hb dX6_odds_55 rfl ?_
          refine lv_lstore (lv' := [(6, .long 1), (4, .long t15), (0, .ref e0), (1, .int x0), (2, .int x1), (3, .int x2)]) hx hb dX6_odds_56 hl (by decide) rfl (fun ls hl => ?_)
          refine lv_iconst (v := 0) hx hb dX6_odds_58 rfl ?_
          refine lv_istore (lv' := [(8, .int 0), (6, .long 1), (4, .long t15), (0, .ref e0), (1, .int x0), (2, .int x1), (3, .int x2)]) hx hb dX6_odds_59 hl (by decide) rfl (fun ls hl => ?_)
          obtain ⟨j18, hj18, hf⟩ := lj_e hf
          have Hj18 : ∀ (i16 : Int64) (i17 : Int64) (H : Heap) (locs : List Loc) (ls : Array Slot), va_P D vwCl (oMM C e0 e1 e2 e3 e4 e5 e6 e7 e8 e9 e10 e11 e12 e13 e14 e15 m_s m_held m_aside m_before m_isHeld m_tape m_taped m_token m_from m_to m_value m_isWrong m_due m_firsts m_rows m_rowN m_sortOf m_sizeOf m_numbers m_holdsWhat m_holdsWhich m_holdsMany m_bodies m_ran m_actKind m_actN m_actA m_isParted []) H → va_D A (oMM C e0 e1 e2 e3 e4 e5 e6 e7 e8 e9 e10 e11 e12 e13 e14 e15 m_s m_held m_aside m_before m_isHeld m_tape m_taped m_token m_from m_to m_value m_isWrong m_due m_firsts m_rows m_rowN m_sortOf m_sizeOf m_numbers m_holdsWhat m_holdsWhich m_holdsMany m_bodies m_ran m_actKind m_actN m_actA m_isParted []) → va_S A s.heap H locs → lv_has ls 9 [(6, .long i16), (4, .long i17), (3, .int x2)] → j18 i16 i17 = some r → W p l e (headSpec wsX6_odds (rmX6_odds)).room s m (List.toArray [Value.ref e0, Value.int x0, Value.int x1, Value.int x2]) below meth c H locs 0 0 Q (F0 m 114 ls []) := by
            intro i16 i17 H locs ls hP hD hS hl hf
            rw [hj18] at hf
            refine lv_lload hx hb dX6_odds_114 (lv_at hl 1 rfl) ?_
            refine lv_lload hx hb dX6_odds_116 (lv_at hl 0 rfl) ?_
            refine lv_iload_n hx hb dX6_odds_118 rfl (lv_at hl 2 rfl) ?_
            obtain ⟨r19, h20, hf⟩ := ob1_e hf
            refine kcl (Wx := (oMM C e0 e1 e2 e3 e4 e5 e6 e7 e8 e9 e10 e11 e12 e13 e14 e15 m_s m_held m_aside m_before m_isHeld m_tape m_taped m_token m_from m_to m_value m_isWrong m_due m_firsts m_rows m_rowN m_sortOf m_sizeOf m_numbers m_holdsWhat m_holdsWhich m_holdsMany m_bodies m_ran m_actKind m_actN m_actA m_isParted [])) (va_runS (As := [.long i17, .long i16, .int x2]) (rest := []) ⟨hx, hb, hml, hown, hts⟩ (c_X6_partOf l E D C H.size N i17 i16 x2 r19 h20) (va_cwS 3 hts gX6_odds_X6_partOf rfl rfl rfl hdX6_partOf ⟨Nat.le_of_ble_eq_true rfl, Nat.le_of_ble_eq_true rfl⟩) (kpre hP hD hK hS hE hA [] rfl rfl) rfl rfl hl.1 rfl (lv_room (Nat.le_of_ble_eq_true rfl)) dX6_odds_119 ⟨Nat.zero_le _, Nat.zero_le _⟩) hP hD hS hA [] rfl rfl rfl (fun H locs hP hD hS => ?_)
            cases hf
            exact krl hQ hAe hx hb hr hlocks hP hD hK hS dX6_odds_122
          have hL61 : ∀ (n : Nat) (i21 : Int32) (i22 : Int64) (i23 : Int64) (H : Heap) (locs : List Loc) (ls : Array Slot), va_P D vwCl (oMM C e0 e1 e2 e3 e4 e5 e6 e7 e8 e9 e10 e11 e12 e13 e14 e15 m_s m_held m_aside m_before m_isHeld m_tape m_taped m_token m_from m_to m_value m_isWrong m_due m_firsts m_rows m_rowN m_sortOf m_sizeOf m_numbers m_holdsWhat m_holdsWhich m_holdsMany m_bodies m_ran m_actKind m_actN m_actA m_isParted []) H → va_D A (oMM C e0 e1 e2 e3 e4 e5 e6 e7 e8 e9 e10 e11 e12 e13 e14 e15 m_s m_held m_aside m_before m_isHeld m_tape m_taped m_token m_from m_to m_value m_isWrong m_due m_firsts m_rows m_rowN m_sortOf m_sizeOf m_numbers m_holdsWhat m_holdsWhich m_holdsMany m_bodies m_ran m_actKind m_actN m_actA m_isParted []) → va_S A s.heap H locs → lv_has ls 9 [(8, .int i21), (6, .long i22), (4, .long i23), (0, .ref e0), (1, .int x0), (2, .int x1), (3, .int x2)] → f_X6_odds_L61 m_s x0 x1 j18 n i21 i22 i23 = some r → W p l e (headSpec wsX6_odds (rmX6_odds)).room s m (List.toArray [Value.ref e0, Value.int x0, Value.int x1, Value.int x2]) below meth c H locs 0 0 Q (F0 m 61 ls []) := by
            intro n
            induction n with
            | zero =>
              intro i21 i22 i23 H locs ls hP hD hS hl hf
              exact absurd hf (fun h => by cases h)
            | succ n ih =>
              intro i21 i22 i23 H locs ls hP hD hS hl hf
              rw [f_X6_odds_L61] at hf
              refine lv_iload hx hb dX6_odds_61 (lv_at hl 0 rfl) ?_
              refine lv_iload_n hx hb dX6_odds_63 rfl (lv_at hl 4 rfl) ?_
              refine lv_icmp_ge (tgt := 114) hx hb dX6_odds_64 (by decide) (fun c24 => ?_) (fun c24 => ?_)
              · replace hf := if_te c24 hf
                exact Hj18 i22 i23 H locs ls hP hD hS (lv_sub hl [1, 2, 6] rfl) hf
              · replace hf := if_fe c24 hf
                refine lv_lload hx hb dX6_odds_67 (lv_at hl 2 rfl) ?_
                refine lv_iload hx hb dX6_odds_69 (lv_at hl 0 rfl) ?_
                refine lv_iload_n hx hb dX6_odds_71 rfl (lv_at hl 5 rfl) ?_
                obtain ⟨j26, hj26, hf⟩ := lj_e hf
                have Hj26 : ∀ (k25 : Int64) (H : Heap) (locs : List Loc) (ls : Array Slot), va_P D vwCl (oMM C e0 e1 e2 e3 e4 e5 e6 e7 e8 e9 e10 e11 e12 e13 e14 e15 m_s m_held m_aside m_before m_isHeld m_tape m_taped m_token m_from m_to m_value m_isWrong m_due m_firsts m_rows m_rowN m_sortOf m_sizeOf m_numbers m_holdsWhat m_holdsWhich m_holdsMany m_bodies m_ran m_actKind m_actN m_actA m_isParted []) H → va_D A (oMM C e0 e1 e2 e3 e4 e5 e6 e7 e8 e9 e10 e11 e12 e13 e14 e15 m_s m_held m_aside m_before m_isHeld m_tape m_taped m_token m_from m_to m_value m_isWrong m_due m_firsts m_rows m_rowN m_sortOf m_sizeOf m_numbers m_holdsWhat m_holdsWhich m_holdsMany m_bodies m_ran m_actKind m_actN m_actA m_isParted []) → va_S A s.heap H locs → lv_has ls 9 [(8, .int i21), (6, .long i22), (0, .ref e0), (1, .int x0), (2, .int x1), (3, .int x2)] → j26 k25 = some r → W p l e (headSpec wsX6_odds (rmX6_odds)).room s m (List.toArray [Value.ref e0, Value.int x0, Value.int x1, Value.int x2]) below meth c H locs 0 0 Q (F0 m 97 ls [.long k25, .long i23]) := by
                  intro k25 H locs ls hP hD hS hl hf
                  rw [hj26] at hf
                  refine lv_lmul hx hb dX6_odds_97 ?_
                  obtain ⟨t27, et27, hf⟩ := lj_e hf
                  refine lv_renL et27 ?_
                  refine lv_lstore (lv' := [(4, .long t27), (8, .int i21), (6, .long i22), (0, .ref e0), (1, .int x0), (2, .int x1), (3, .int x2)]) hx hb dX6_odds_98 hl (by decide) rfl (fun ls hl => ?_)
                  refine lv_lload hx hb dX6_odds_100 (lv_at hl 2 rfl) ?_
                  refine lv_ldc2 (v := 100) hx hb hown (hts (.constantLong RX6 268 (100)) (List.mem_of_getElem? (i := 4) rfl)) dX6_odds_102 ?_
                  refine lv_lmul hx hb dX6_odds_105 ?_
                  obtain ⟨t28, et28, hf⟩ := lj_e hf
                  refine lv_renL et28 ?_
                  refine lv_lstore (lv' := [(6, .long t28), (4, .long t27), (8, .int i21), (0, .ref e0), (1, .int x0), (2, .int x1), (3, .int x2)]) hx hb dX6_odds_106 hl (by decide) rfl (fun ls hl => ?_)
                  obtain ⟨t29, et29, hf⟩ := lj_e hf
                  refine lv_iinc (v := t29) (lv' := [(8, .int t29), (6, .long t28), (4, .long t27), (0, .ref e0), (1, .int x0), (2, .int x1), (3, .int x2)]) hx hb dX6_odds_108 hl (k := 2) rfl (by rw [et29]; rfl) (by decide) rfl (fun ls hl => ?_)
                  refine lv_goto (tgt := 61) hx hb dX6_odds_111 (by decide) ?_
                  exact ih t29 t28 t27 H locs ls hP hD hS (lv_sub hl [0, 1, 2, 3, 4, 5, 6] rfl) hf
                refine lv_icmp_ge (tgt := 86) hx hb dX6_odds_72 (by decide) (fun c30 => ?_) (fun c30 => ?_)
                · replace hf := if_te c30 hf
                  refine lv_bipush (v := 100) hx hb dX6_odds_86 rfl ?_
                  refine lv_aload_n hx hb dX6_odds_88 rfl (lv_at hl 3 rfl) ?_
                  refine va_get (D := D) (ci := 6) (v := .ref e1) (C := RX6) (T := TX6) (N := 28) hx hb hts hi_RX6 hown hK hP 0 rfl rfl 0 (by decide) (hts (.fieldLink RX6 7 "TravelMarksModel" "s" "[I") (List.mem_of_getElem? (i := 3) rfl)) (fun _ h9 => h9) rfl dX6_odds_89 ?_
                  refine lv_bipush (v := 6) hx hb dX6_odds_92 rfl ?_
                  refine va_iald hx hb hK hP 1 0 rfl rfl (i := 6) (vin (by decide)) dX6_odds_94 ?_
                  refine lv_ren (show (m_s 6) = m_s (Int32.toNatClampNeg 6) from rfl) ?_
                  refine lv_isub hx hb dX6_odds_95 ?_
                  refine lv_i2l hx hb dX6_odds_96 rfl ?_
                  exact Hj26 (Int32.toInt64 (100 - (m_s 6))) H locs ls hP hD hS (lv_sub hl [0, 1, 3, 4, 5, 6] rfl) hf
                · replace hf := if_fe c30 hf
                  refine lv_aload_n hx hb dX6_odds_75 rfl (lv_at hl 3 rfl) ?_
                  refine va_get (D := D) (ci := 6) (v := .ref e1) (C := RX6) (T := TX6) (N := 28) hx hb hts hi_RX6 hown hK hP 0 rfl rfl 0 (by decide) (hts (.fieldLink RX6 7 "TravelMarksModel" "s" "[I") (List.mem_of_getElem? (i := 3) rfl)) (fun _ h9 => h9) rfl dX6_odds_76 ?_
                  refine lv_bipush (v := 6) hx hb dX6_odds_79 rfl ?_
                  refine va_iald hx hb hK hP 1 0 rfl rfl (i := 6) (vin (by decide)) dX6_odds_81 ?_
                  refine lv_ren (show (m_s 6) = m_s (Int32.toNatClampNeg 6) from rfl) ?_
                  refine lv_i2l hx hb dX6_odds_82 rfl ?_
                  refine lv_goto (tgt := 97) hx hb dX6_odds_83 (by decide) ?_
                  exact Hj26 (Int32.toInt64 (m_s 6)) H locs ls hP hD hS (lv_sub hl [0, 1, 3, 4, 5, 6] rfl) hf
          exact hL61 N 0 1 t15 H locs ls hP hD hS (lv_sub hl [0, 1, 2, 3, 4, 5, 6] rfl) hf
        · replace hf := if_te c6 hf
          refine lv_ldc2 (v := (-1)) hx hb hown (hts (.constantLong RX6 262 (-1)) (List.mem_of_getElem? (i := 2) rfl)) dX6_odds_33 ?_
          cases hf
          exact krl hQ hAe hx hb hr hlocks hP hD hK hS dX6_odds_36
  exact main _ _ hP hD hS

def rmX6_hope : Room := { frames := 1, cells := 0, slots := 0, locals := 30 }
theorem hdX6_hope : yX6_hope.cls = RX6 ∧ yX6_hope.cls ≠ "java/lang/invoke/MethodHandle" ∧ yX6_hope.cls ≠ "java/lang/invoke/VarHandle" ∧ (parseMethodDescriptor yX6_hope.desc).map (fun d => d.parameters.length) = some 2 := by decide +kernel
set_option maxHeartbeats 40000000 in
set_option maxRecDepth 100000 in
theorem c_X6_hope (l : Launch) (E : Nat → Nat) (D : va_G) (C : Nat → ClassId) (e0 e1 e2 e3 e4 e5 e6 e7 e8 e9 e10 e11 e12 e13 e14 e15 : Nat) (sz : Nat) (N : Nat) (m_s : Nat → Int32) (m_held : Nat → Int32) (m_aside : Nat → Int32) (m_before : Nat → Int32) (m_isHeld : Int32) (m_tape : Nat → Int32) (m_taped : Int32) (m_token : Int32) (m_from : Int32) (m_to : Int32) (m_value : Int32) (m_isWrong : Int32) (m_due : Nat → Int32) (m_firsts : Nat → Int32) (m_rows : Nat → Int32) (m_rowN : Int32) (m_sortOf : Nat → Int32) (m_sizeOf : Nat → Int32) (m_numbers : Nat → Int32) (m_holdsWhat : Nat → Int32) (m_holdsWhich : Nat → Int32) (m_holdsMany : Nat → Int32) (m_bodies : Nat → Int32) (m_ran : Int32) (m_actKind : Int32) (m_actN : Int32) (m_actA : Int32) (m_isParted : Int32) (x0 : Int32) (x1 : Int32) (r : Int64) (hf : f_X6_hope N m_s x0 x1 = some r) : Met l yX6_hope wsX6_hope rmX6_hope (PC E D C [.ref e0, .int x0, .int x1] (oMM C e0 e1 e2 e3 e4 e5 e6 e7 e8 e9 e10 e11 e12 e13 e14 e15 m_s m_held m_aside m_before m_isHeld m_tape m_taped m_token m_from m_to m_value m_isWrong m_due m_firsts m_rows m_rowN m_sortOf m_sizeOf m_numbers m_holdsWhat m_holdsWhich m_holdsMany m_bodies m_ran m_actKind m_actN m_actA m_isParted []) sz) (QL D C (oMM C e0 e1 e2 e3 e4 e5 e6 e7 e8 e9 e10 e11 e12 e13 e14 e15 m_s m_held m_aside m_before m_isHeld m_tape m_taped m_token m_from m_to m_value m_isWrong m_due m_firsts m_rows m_rowN m_sortOf m_sizeOf m_numbers m_holdsWhat m_holdsWhich m_holdsMany m_bodies m_ran m_actKind m_actN m_actA m_isParted []) (oMM C e0 e1 e2 e3 e4 e5 e6 e7 e8 e9 e10 e11 e12 e13 e14 e15 m_s m_held m_aside m_before m_isHeld m_tape m_taped m_token m_from m_to m_value m_isWrong m_due m_firsts m_rows m_rowN m_sortOf m_sizeOf m_numbers m_holdsWhat m_holdsWhich m_holdsMany m_bodies m_ran m_actKind m_actN m_actA m_isParted []) sz r) 0 0 (va_A (oMM C e0 e1 e2 e3 e4 e5 e6 e7 e8 e9 e10 e11 e12 e13 e14 e15 m_s m_held m_aside m_before m_isHeld m_tape m_taped m_token m_from m_to m_value m_isWrong m_due m_firsts m_rows m_rowN m_sortOf m_sizeOf m_numbers m_holdsWhat m_holdsWhich m_holdsMany m_bodies m_ran m_actKind m_actN m_actA m_isParted []) sz) := by
  refine Met.ofW (cc := cX6_hope) (maxL := 3) (ret := (some .long)) (by decide) rfl ?_
  intro p e s m args below meth c s₁ B hml hv
  obtain ⟨rfl, hsz, hP, hK, hD0, hE⟩ := hv
  have hx := B.exec
  have hb := B.bytes
  have hr := B.returns
  have hts := atoms_spec (ws := wsX6_hope) B.pre
  have hown : s.vm.findClass RX6 = some m.cls := findClass_of_methodNamed B.named
  have hlocks := B.notSynchronized
  subst hsz
  have hi_RX6 : ∀ w ∈ wsX60, w ∈ wsX6_hope := fun _ h => List.mem_cons_of_mem _ (List.mem_append_right _ h)
  have hD := hD0.self (sz := s.heap.size)
  obtain ⟨A, hAe⟩ := nm_ex (va_A (oMM C e0 e1 e2 e3 e4 e5 e6 e7 e8 e9 e10 e11 e12 e13 e14 e15 m_s m_held m_aside m_before m_isHeld m_tape m_taped m_token m_from m_to m_value m_isWrong m_due m_firsts m_rows m_rowN m_sortOf m_sizeOf m_numbers m_holdsWhat m_holdsWhich m_holdsMany m_bodies m_ran m_actKind m_actN m_actA m_isParted []) s.heap.size)
  rw [← hAe] at hD hE ⊢
  have hA : ∀ q : Nat, s.heap.size ≤ q → A q := fun q h => by rw [hAe]; exact Or.inr h
  have hS : va_S A s.heap s.heap [] := va_S.rf
  have hl := lv_entry ([.ref e0, .int x0, .int x1]) (n := 3) (Nat.le_of_ble_eq_true rfl)
  rw [lg_entry_eq]
  generalize (lg_sl ([.ref e0, .int x0, .int x1]) ++ List.replicate (3 - (lg_sl ([.ref e0, .int x0, .int x1])).length) Slot.unset).toArray = ls at hl ⊢
  have hl : lv_has ls 3 [(0, .ref e0), (1, .int x0), (2, .int x1)] := hl
  obtain ⟨Q, hQ⟩ := nm_ex (MQ below (QL D C (oMM C e0 e1 e2 e3 e4 e5 e6 e7 e8 e9 e10 e11 e12 e13 e14 e15 m_s m_held m_aside m_before m_isHeld m_tape m_taped m_token m_from m_to m_value m_isWrong m_due m_firsts m_rows m_rowN m_sortOf m_sizeOf m_numbers m_holdsWhat m_holdsWhich m_holdsMany m_bodies m_ran m_actKind m_actN m_actA m_isParted []) (oMM C e0 e1 e2 e3 e4 e5 e6 e7 e8 e9 e10 e11 e12 e13 e14 e15 m_s m_held m_aside m_before m_isHeld m_tape m_taped m_token m_from m_to m_value m_isWrong m_due m_firsts m_rows m_rowN m_sortOf m_sizeOf m_numbers m_holdsWhat m_holdsWhich m_holdsMany m_bodies m_ran m_actKind m_actN m_actA m_isParted []) s.heap.size r) (List.toArray [Value.ref e0, Value.int x0, Value.int x1]) s 0 0 A)
  show W p l e (headSpec wsX6_hope (rmX6_hope)).room s m (List.toArray [Value.ref e0, Value.int x0, Value.int x1]) below meth c s.heap [] 0 0 (MQ below (QL D C (oMM C e0 e1 e2 e3 e4 e5 e6 e7 e8 e9 e10 e11 e12 e13 e14 e15 m_s m_held m_aside m_before m_isHeld m_tape m_taped m_token m_from m_to m_value m_isWrong m_due m_firsts m_rows m_rowN m_sortOf m_sizeOf m_numbers m_holdsWhat m_holdsWhich m_holdsMany m_bodies m_ran m_actKind m_actN m_actA m_isParted []) (oMM C e0 e1 e2 e3 e4 e5 e6 e7 e8 e9 e10 e11 e12 e13 e14 e15 m_s m_held m_aside m_before m_isHeld m_tape m_taped m_token m_from m_to m_value m_isWrong m_due m_firsts m_rows m_rowN m_sortOf m_sizeOf m_numbers m_holdsWhat m_holdsWhich m_holdsMany m_bodies m_ran m_actKind m_actN m_actA m_isParted []) s.heap.size r) (List.toArray [Value.ref e0, Value.int x0, Value.int x1]) s 0 0 A) _
  rw [← hQ]
  unfold f_X6_hope at hf
  have main : ∀ (H : Heap) (locs : List Loc), va_P D vwCl (oMM C e0 e1 e2 e3 e4 e5 e6 e7 e8 e9 e10 e11 e12 e13 e14 e15 m_s m_held m_aside m_before m_isHeld m_tape m_taped m_token m_from m_to m_value m_isWrong m_due m_firsts m_rows m_rowN m_sortOf m_sizeOf m_numbers m_holdsWhat m_holdsWhich m_holdsMany m_bodies m_ran m_actKind m_actN m_actA m_isParted []) H → va_D A (oMM C e0 e1 e2 e3 e4 e5 e6 e7 e8 e9 e10 e11 e12 e13 e14 e15 m_s m_held m_aside m_before m_isHeld m_tape m_taped m_token m_from m_to m_value m_isWrong m_due m_firsts m_rows m_rowN m_sortOf m_sizeOf m_numbers m_holdsWhat m_holdsWhich m_holdsMany m_bodies m_ran m_actKind m_actN m_actA m_isParted []) → va_S A s.heap H locs → W p l e (headSpec wsX6_hope (rmX6_hope)).room s m (List.toArray [Value.ref e0, Value.int x0, Value.int x1]) below meth c H locs 0 0 Q (F0 m 0 ls []) := by
    intro H locs hP hD hS
    refine lv_iload_n hx hb dX6_hope_0 rfl (lv_at hl 1 rfl) ?_
    refine lv_i2l hx hb dX6_hope_1 rfl ?_
    refine lv_lconst (v := 0) hx hb dX6_hope_2 rfl ?_
    refine lv_ldc2 (v := 99) hx hb hown (hts (.constantLong RX6 164 (99)) (List.mem_of_getElem? (i := 1) rfl)) dX6_hope_3 ?_
    refine kcz (Wx := (oMM C e0 e1 e2 e3 e4 e5 e6 e7 e8 e9 e10 e11 e12 e13 e14 e15 m_s m_held m_aside m_before m_isHeld m_tape m_taped m_token m_from m_to m_value m_isWrong m_due m_firsts m_rows m_rowN m_sortOf m_sizeOf m_numbers m_holdsWhat m_holdsWhich m_holdsMany m_bodies m_ran m_actKind m_actN m_actA m_isParted [])) (va_runS (As := [.long (Int32.toInt64 x0), .long 0, .long 99]) (rest := []) ⟨hx, hb, hml, hown, hts⟩ (c_X6_isIn l E D C H.size (Int32.toInt64 x0) 0 99 _ rfl) (va_cwS 3 hts gX6_hope_X6_isIn rfl rfl rfl hdX6_isIn ⟨Nat.le_of_ble_eq_true rfl, Nat.le_of_ble_eq_true rfl⟩) (kpre hP hD hK hS hE hA [] rfl rfl) rfl rfl hl.1 rfl (lv_room (Nat.le_of_ble_eq_true rfl)) dX6_hope_6 ⟨Nat.zero_le _, Nat.zero_le _⟩) hP hD hS hA [] rfl rfl rfl (fun H locs hz1 hP hD hS => ?_)
    refine lv_if_eq (tgt := 43) hx hb dX6_hope_9 (by decide) (fun c2 => ?_) (fun c2 => ?_)
    · replace hf := if_te c2 hf
      refine lv_ldc2 (v := (-1)) hx hb hown (hts (.constantLong RX6 262 (-1)) (List.mem_of_getElem? (i := 4) rfl)) dX6_hope_43 ?_
      cases hf
      exact krl hQ hAe hx hb hr hlocks hP hD hK hS dX6_hope_46
    · replace hf := if_fe c2 hf
      refine lv_iload_n hx hb dX6_hope_12 rfl (lv_at hl 2 rfl) ?_
      refine lv_i2l hx hb dX6_hope_13 rfl ?_
      refine lv_lconst (v := 0) hx hb dX6_hope_14 rfl ?_
      refine lv_lconst (v := 1) hx hb dX6_hope_15 rfl ?_
      refine kcz (Wx := (oMM C e0 e1 e2 e3 e4 e5 e6 e7 e8 e9 e10 e11 e12 e13 e14 e15 m_s m_held m_aside m_before m_isHeld m_tape m_taped m_token m_from m_to m_value m_isWrong m_due m_firsts m_rows m_rowN m_sortOf m_sizeOf m_numbers m_holdsWhat m_holdsWhich m_holdsMany m_bodies m_ran m_actKind m_actN m_actA m_isParted [])) (va_runS (As := [.long (Int32.toInt64 x1), .long 0, .long 1]) (rest := []) ⟨hx, hb, hml, hown, hts⟩ (c_X6_isIn l E D C H.size (Int32.toInt64 x1) 0 1 _ rfl) (va_cwS 3 hts gX6_hope_X6_isIn rfl rfl rfl hdX6_isIn ⟨Nat.le_of_ble_eq_true rfl, Nat.le_of_ble_eq_true rfl⟩) (kpre hP hD hK hS hE hA [] rfl rfl) rfl rfl hl.1 rfl (lv_room (Nat.le_of_ble_eq_true rfl)) dX6_hope_16 ⟨Nat.zero_le _, Nat.zero_le _⟩) hP hD hS hA [] rfl rfl rfl (fun H locs hz3 hP hD hS => ?_)
      refine lv_if_eq (tgt := 43) hx hb dX6_hope_19 (by decide) (fun c4 => ?_) (fun c4 => ?_)
      · replace hf := if_te c4 hf
        refine lv_ldc2 (v := (-1)) hx hb hown (hts (.constantLong RX6 262 (-1)) (List.mem_of_getElem? (i := 4) rfl)) dX6_hope_43 ?_
        cases hf
        exact krl hQ hAe hx hb hr hlocks hP hD hK hS dX6_hope_46
      · replace hf := if_fe c4 hf
        refine lv_iload_n hx hb dX6_hope_22 rfl (lv_at hl 1 rfl) ?_
        refine lv_i2l hx hb dX6_hope_23 rfl ?_
        refine lv_aload_n hx hb dX6_hope_24 rfl (lv_at hl 0 rfl) ?_
        refine va_get (D := D) (ci := 6) (v := .ref e1) (C := RX6) (T := TX6) (N := 28) hx hb hts hi_RX6 hown hK hP 0 rfl rfl 0 (by decide) (hts (.fieldLink RX6 7 "TravelMarksModel" "s" "[I") (List.mem_of_getElem? (i := 2) rfl)) (fun _ h9 => h9) rfl dX6_hope_25 ?_
        refine lv_bipush (v := 6) hx hb dX6_hope_28 rfl ?_
        refine va_iald hx hb hK hP 1 0 rfl rfl (i := 6) (vin (by decide)) dX6_hope_30 ?_
        refine lv_ren (show (m_s 6) = m_s (Int32.toNatClampNeg 6) from rfl) ?_
        refine lv_i2l hx hb dX6_hope_31 rfl ?_
        refine lv_lmul hx hb dX6_hope_32 ?_
        refine lv_ldc2 (v := 100) hx hb hown (hts (.constantLong RX6 268 (100)) (List.mem_of_getElem? (i := 3) rfl)) dX6_hope_33 ?_
        refine lv_iload_n hx hb dX6_hope_36 rfl (lv_at hl 2 rfl) ?_
        obtain ⟨r5, h6, hf⟩ := ob1_e hf
        refine kcl (Wx := (oMM C e0 e1 e2 e3 e4 e5 e6 e7 e8 e9 e10 e11 e12 e13 e14 e15 m_s m_held m_aside m_before m_isHeld m_tape m_taped m_token m_from m_to m_value m_isWrong m_due m_firsts m_rows m_rowN m_sortOf m_sizeOf m_numbers m_holdsWhat m_holdsWhich m_holdsMany m_bodies m_ran m_actKind m_actN m_actA m_isParted [])) (va_runS (As := [.long ((Int32.toInt64 x0) * (Int32.toInt64 (m_s 6))), .long 100, .int x1]) (rest := []) ⟨hx, hb, hml, hown, hts⟩ (c_X6_partOf l E D C H.size N ((Int32.toInt64 x0) * (Int32.toInt64 (m_s 6))) 100 x1 r5 h6) (va_cwS 3 hts gX6_hope_X6_partOf rfl rfl rfl hdX6_partOf ⟨Nat.le_of_ble_eq_true rfl, Nat.le_of_ble_eq_true rfl⟩) (kpre hP hD hK hS hE hA [] rfl rfl) rfl rfl hl.1 rfl (lv_room (Nat.le_of_ble_eq_true rfl)) dX6_hope_37 ⟨Nat.zero_le _, Nat.zero_le _⟩) hP hD hS hA [] rfl rfl rfl (fun H locs hP hD hS => ?_)
        refine lv_goto (tgt := 46) hx hb dX6_hope_40 (by decide) ?_
        cases hf
        exact krl hQ hAe hx hb hr hlocks hP hD hK hS dX6_hope_46
  exact main _ _ hP hD hS

def rmX6_prove : Room := { frames := 6, cells := 0, slots := 0, locals := 142 }
theorem hdX6_prove : yX6_prove.cls = RX6 ∧ yX6_prove.cls ≠ "java/lang/invoke/MethodHandle" ∧ yX6_prove.cls ≠ "java/lang/invoke/VarHandle" ∧ (parseMethodDescriptor yX6_prove.desc).map (fun d => d.parameters.length) = some 2 := by decide +kernel
set_option maxHeartbeats 40000000 in
set_option maxRecDepth 100000 in
theorem c_X6_prove (l : Launch) (E : Nat → Nat) (D : va_G) (C : Nat → ClassId) (e0 e1 e2 e3 e4 e5 e6 e7 e8 e9 e10 e11 e12 e13 e14 e15 : Nat) (sz : Nat) (N : Nat) (m_s : Nat → Int32) (m_held : Nat → Int32) (m_aside : Nat → Int32) (m_before : Nat → Int32) (m_isHeld : Int32) (m_tape : Nat → Int32) (m_taped : Int32) (m_token : Int32) (m_from : Int32) (m_to : Int32) (m_value : Int32) (m_isWrong : Int32) (m_due : Nat → Int32) (m_firsts : Nat → Int32) (m_rows : Nat → Int32) (m_rowN : Int32) (m_sortOf : Nat → Int32) (m_sizeOf : Nat → Int32) (m_numbers : Nat → Int32) (m_holdsWhat : Nat → Int32) (m_holdsWhich : Nat → Int32) (m_holdsMany : Nat → Int32) (m_bodies : Nat → Int32) (m_ran : Int32) (m_actKind : Int32) (m_actN : Int32) (m_actA : Int32) (m_isParted : Int32) (x0 : Int32) (x1 : Int32) (r : Int32) (m_s' : Nat → Int32) (m_aside' : Nat → Int32) (m_rows' : Nat → Int32) (m_rowN' : Int32) (hf : f_X6_prove N m_s m_aside m_rows m_rowN x0 x1 = some (r, m_s', m_aside', m_rows', m_rowN')) : Met l yX6_prove wsX6_prove rmX6_prove (PC E D C [.ref e0, .int x0, .int x1] (oMM C e0 e1 e2 e3 e4 e5 e6 e7 e8 e9 e10 e11 e12 e13 e14 e15 m_s m_held m_aside m_before m_isHeld m_tape m_taped m_token m_from m_to m_value m_isWrong m_due m_firsts m_rows m_rowN m_sortOf m_sizeOf m_numbers m_holdsWhat m_holdsWhich m_holdsMany m_bodies m_ran m_actKind m_actN m_actA m_isParted []) sz) (QI D C (oMM C e0 e1 e2 e3 e4 e5 e6 e7 e8 e9 e10 e11 e12 e13 e14 e15 m_s m_held m_aside m_before m_isHeld m_tape m_taped m_token m_from m_to m_value m_isWrong m_due m_firsts m_rows m_rowN m_sortOf m_sizeOf m_numbers m_holdsWhat m_holdsWhich m_holdsMany m_bodies m_ran m_actKind m_actN m_actA m_isParted []) (oMM C e0 e1 e2 e3 e4 e5 e6 e7 e8 e9 e10 e11 e12 e13 e14 e15 (m_s') m_held (m_aside') m_before m_isHeld m_tape m_taped m_token m_from m_to m_value m_isWrong m_due m_firsts (m_rows') (m_rowN') m_sortOf m_sizeOf m_numbers m_holdsWhat m_holdsWhich m_holdsMany m_bodies m_ran m_actKind m_actN m_actA m_isParted []) sz r) 0 0 (va_A (oMM C e0 e1 e2 e3 e4 e5 e6 e7 e8 e9 e10 e11 e12 e13 e14 e15 m_s m_held m_aside m_before m_isHeld m_tape m_taped m_token m_from m_to m_value m_isWrong m_due m_firsts m_rows m_rowN m_sortOf m_sizeOf m_numbers m_holdsWhat m_holdsWhich m_holdsMany m_bodies m_ran m_actKind m_actN m_actA m_isParted []) sz) := by
  refine Met.ofW (cc := cX6_prove) (maxL := 4) (ret := (some .int)) (by decide) rfl ?_
  intro p e s m args below meth c s₁ B hml hv
  obtain ⟨rfl, hsz, hP, hK, hD0, hE⟩ := hv
  have hx := B.exec
  have hb := B.bytes
  have hr := B.returns
  have hts := atoms_spec (ws := wsX6_prove) B.pre
  have hown : s.vm.findClass RX6 = some m.cls := findClass_of_methodNamed B.named
  have hlocks := B.notSynchronized
  subst hsz
  have hi_RX6 : ∀ w ∈ wsX60, w ∈ wsX6_prove := fun _ h => List.mem_cons_of_mem _ (List.mem_append_right _ h)
  have hD := hD0.self (sz := s.heap.size)
  obtain ⟨A, hAe⟩ := nm_ex (va_A (oMM C e0 e1 e2 e3 e4 e5 e6 e7 e8 e9 e10 e11 e12 e13 e14 e15 m_s m_held m_aside m_before m_isHeld m_tape m_taped m_token m_from m_to m_value m_isWrong m_due m_firsts m_rows m_rowN m_sortOf m_sizeOf m_numbers m_holdsWhat m_holdsWhich m_holdsMany m_bodies m_ran m_actKind m_actN m_actA m_isParted []) s.heap.size)
  rw [← hAe] at hD hE ⊢
  have hA : ∀ q : Nat, s.heap.size ≤ q → A q := fun q h => by rw [hAe]; exact Or.inr h
  have hS : va_S A s.heap s.heap [] := va_S.rf
  have hl := lv_entry ([.ref e0, .int x0, .int x1]) (n := 4) (Nat.le_of_ble_eq_true rfl)
  rw [lg_entry_eq]
  generalize (lg_sl ([.ref e0, .int x0, .int x1]) ++ List.replicate (4 - (lg_sl ([.ref e0, .int x0, .int x1])).length) Slot.unset).toArray = ls at hl ⊢
  have hl : lv_has ls 4 [(0, .ref e0), (1, .int x0), (2, .int x1)] := hl
  obtain ⟨Q, hQ⟩ := nm_ex (MQ below (QI D C (oMM C e0 e1 e2 e3 e4 e5 e6 e7 e8 e9 e10 e11 e12 e13 e14 e15 m_s m_held m_aside m_before m_isHeld m_tape m_taped m_token m_from m_to m_value m_isWrong m_due m_firsts m_rows m_rowN m_sortOf m_sizeOf m_numbers m_holdsWhat m_holdsWhich m_holdsMany m_bodies m_ran m_actKind m_actN m_actA m_isParted []) (oMM C e0 e1 e2 e3 e4 e5 e6 e7 e8 e9 e10 e11 e12 e13 e14 e15 (m_s') m_held (m_aside') m_before m_isHeld m_tape m_taped m_token m_from m_to m_value m_isWrong m_due m_firsts (m_rows') (m_rowN') m_sortOf m_sizeOf m_numbers m_holdsWhat m_holdsWhich m_holdsMany m_bodies m_ran m_actKind m_actN m_actA m_isParted []) s.heap.size r) (List.toArray [Value.ref e0, Value.int x0, Value.int x1]) s 0 0 A)
  show W p l e (headSpec wsX6_prove (rmX6_prove)).room s m (List.toArray [Value.ref e0, Value.int x0, Value.int x1]) below meth c s.heap [] 0 0 (MQ below (QI D C (oMM C e0 e1 e2 e3 e4 e5 e6 e7 e8 e9 e10 e11 e12 e13 e14 e15 m_s m_held m_aside m_before m_isHeld m_tape m_taped m_token m_from m_to m_value m_isWrong m_due m_firsts m_rows m_rowN m_sortOf m_sizeOf m_numbers m_holdsWhat m_holdsWhich m_holdsMany m_bodies m_ran m_actKind m_actN m_actA m_isParted []) (oMM C e0 e1 e2 e3 e4 e5 e6 e7 e8 e9 e10 e11 e12 e13 e14 e15 (m_s') m_held (m_aside') m_before m_isHeld m_tape m_taped m_token m_from m_to m_value m_isWrong m_due m_firsts (m_rows') (m_rowN') m_sortOf m_sizeOf m_numbers m_holdsWhat m_holdsWhich m_holdsMany m_bodies m_ran m_actKind m_actN m_actA m_isParted []) s.heap.size r) (List.toArray [Value.ref e0, Value.int x0, Value.int x1]) s 0 0 A) _
  rw [← hQ]
  unfold f_X6_prove at hf
  have main : ∀ (H : Heap) (locs : List Loc), va_P D vwCl (oMM C e0 e1 e2 e3 e4 e5 e6 e7 e8 e9 e10 e11 e12 e13 e14 e15 m_s m_held m_aside m_before m_isHeld m_tape m_taped m_token m_from m_to m_value m_isWrong m_due m_firsts m_rows m_rowN m_sortOf m_sizeOf m_numbers m_holdsWhat m_holdsWhich m_holdsMany m_bodies m_ran m_actKind m_actN m_actA m_isParted []) H → va_D A (oMM C e0 e1 e2 e3 e4 e5 e6 e7 e8 e9 e10 e11 e12 e13 e14 e15 m_s m_held m_aside m_before m_isHeld m_tape m_taped m_token m_from m_to m_value m_isWrong m_due m_firsts m_rows m_rowN m_sortOf m_sizeOf m_numbers m_holdsWhat m_holdsWhich m_holdsMany m_bodies m_ran m_actKind m_actN m_actA m_isParted []) → va_S A s.heap H locs → W p l e (headSpec wsX6_prove (rmX6_prove)).room s m (List.toArray [Value.ref e0, Value.int x0, Value.int x1]) below meth c H locs 0 0 Q (F0 m 0 ls []) := by
    intro H locs hP hD hS
    refine lv_aload_n hx hb dX6_prove_0 rfl (lv_at hl 0 rfl) ?_
    refine lv_iload_n hx hb dX6_prove_1 rfl (lv_at hl 1 rfl) ?_
    refine kcz (Wx := (oMM C e0 e1 e2 e3 e4 e5 e6 e7 e8 e9 e10 e11 e12 e13 e14 e15 m_s m_held m_aside m_before m_isHeld m_tape m_taped m_token m_from m_to m_value m_isWrong m_due m_firsts m_rows m_rowN m_sortOf m_sizeOf m_numbers m_holdsWhat m_holdsWhich m_holdsMany m_bodies m_ran m_actKind m_actN m_actA m_isParted [])) (va_runV (As := [.int x0]) (rest := []) ⟨hx, hb, hml, hown, hts⟩ (c_X6_isOne l E D C e0 e1 e2 e3 e4 e5 e6 e7 e8 e9 e10 e11 e12 e13 e14 e15 H.size m_s m_held m_aside m_before m_isHeld m_tape m_taped m_token m_from m_to m_value m_isWrong m_due m_firsts m_rows m_rowN m_sortOf m_sizeOf m_numbers m_holdsWhat m_holdsWhich m_holdsMany m_bodies m_ran m_actKind m_actN m_actA m_isParted x0 _ rfl) (cwV 1 hts gX6_prove_X6_isOne rfl rfl rfl hdX6_isOne ⟨Nat.le_of_ble_eq_true rfl, Nat.le_of_ble_eq_true rfl⟩) (kpreV hP hD hK hS hE hA [0, 1, 2, 3, 4, 5, 6, 7, 8, 9, 10, 11, 12, 13, 14, 15] rfl rfl 0 rfl rfl rfl) rfl rfl hl.1 rfl (lv_room (Nat.le_of_ble_eq_true rfl)) dX6_prove_2 ⟨Nat.zero_le _, Nat.zero_le _⟩) hP hD hS hA [0, 1, 2, 3, 4, 5, 6, 7, 8, 9, 10, 11, 12, 13, 14, 15] rfl rfl rfl (fun H locs hz1 hP hD hS => ?_)
    refine lv_if_eq (tgt := 20) hx hb dX6_prove_5 (by decide) (fun c2 => ?_) (fun c2 => ?_)
    · replace hf := if_te c2 hf
      refine lv_iconst (v := (-1)) hx hb dX6_prove_20 rfl ?_
      cases hf
      exact kri hQ hAe hx hb hr hlocks hP hD hK hS dX6_prove_21
    · replace hf := if_fe c2 hf
      refine lv_iload_n hx hb dX6_prove_8 rfl (lv_at hl 2 rfl) ?_
      refine lv_i2l hx hb dX6_prove_9 rfl ?_
      refine lv_lconst (v := 1) hx hb dX6_prove_10 rfl ?_
      refine lv_ldc2 (v := 10) hx hb hown (hts (.constantLong RX6 274 (10)) (List.mem_of_getElem? (i := 1) rfl)) dX6_prove_11 ?_
      refine kcz (Wx := (oMM C e0 e1 e2 e3 e4 e5 e6 e7 e8 e9 e10 e11 e12 e13 e14 e15 m_s m_held m_aside m_before m_isHeld m_tape m_taped m_token m_from m_to m_value m_isWrong m_due m_firsts m_rows m_rowN m_sortOf m_sizeOf m_numbers m_holdsWhat m_holdsWhich m_holdsMany m_bodies m_ran m_actKind m_actN m_actA m_isParted [])) (va_runS (As := [.long (Int32.toInt64 x1), .long 1, .long 10]) (rest := []) ⟨hx, hb, hml, hown, hts⟩ (c_X6_isIn l E D C H.size (Int32.toInt64 x1) 1 10 _ rfl) (va_cwS 3 hts gX6_prove_X6_isIn rfl rfl rfl hdX6_isIn ⟨Nat.le_of_ble_eq_true rfl, Nat.le_of_ble_eq_true rfl⟩) (kpre hP hD hK hS hE hA [] rfl rfl) rfl rfl hl.1 rfl (lv_room (Nat.le_of_ble_eq_true rfl)) dX6_prove_14 ⟨Nat.zero_le _, Nat.zero_le _⟩) hP hD hS hA [] rfl rfl rfl (fun H locs hz3 hP hD hS => ?_)
      refine lv_if_ne (tgt := 22) hx hb dX6_prove_17 (by decide) (fun c4 => ?_) (fun c4 => ?_)
      · replace hf := if_fe c4 hf
        refine lv_aload_n hx hb dX6_prove_22 rfl (lv_at hl 0 rfl) ?_
        refine va_get (D := D) (ci := 6) (v := .ref e1) (C := RX6) (T := TX6) (N := 28) hx hb hts hi_RX6 hown hK hP 0 rfl rfl 0 (by decide) (hts (.fieldLink RX6 7 "TravelMarksModel" "s" "[I") (List.mem_of_getElem? (i := 2) rfl)) (fun _ h9 => h9) rfl dX6_prove_23 ?_
        refine lv_aload_n hx hb dX6_prove_26 rfl (lv_at hl 0 rfl) ?_
        refine va_get (D := D) (ci := 6) (v := .ref e3) (C := RX6) (T := TX6) (N := 28) hx hb hts hi_RX6 hown hK hP 0 rfl rfl 2 (by decide) (hts (.fieldLink RX6 16 "TravelMarksModel" "aside" "[I") (List.mem_of_getElem? (i := 3) rfl)) (fun _ h9 => h9) rfl dX6_prove_27 ?_
        obtain ⟨v5, h6, hf⟩ := ob1_e hf
        refine kcv (Wx := (oMM C e0 e1 e2 e3 e4 e5 e6 e7 e8 e9 e10 e11 e12 e13 e14 e15 m_s m_held v5 m_before m_isHeld m_tape m_taped m_token m_from m_to m_value m_isWrong m_due m_firsts m_rows m_rowN m_sortOf m_sizeOf m_numbers m_holdsWhat m_holdsWhich m_holdsMany m_bodies m_ran m_actKind m_actN m_actA m_isParted [])) (va_runS (As := [.ref e1, .ref e3]) (rest := []) ⟨hx, hb, hml, hown, hts⟩ (c_X6_copyRow l E D C e1 e3 H.size N m_s m_aside v5 h6) (va_cwS 2 hts gX6_prove_X6_copyRow rfl rfl rfl hdX6_copyRow ⟨Nat.le_of_ble_eq_true rfl, Nat.le_of_ble_eq_true rfl⟩) (kpre hP hD hK hS hE hA [1, 3] rfl rfl) rfl rfl hl.1 rfl (lv_room (Nat.le_of_ble_eq_true rfl)) dX6_prove_30 ⟨Nat.zero_le _, Nat.zero_le _⟩) hP hD hS hA [1, 3] rfl rfl rfl (fun H locs hP hD hS => ?_)
        refine lv_iconst (v := 0) hx hb dX6_prove_33 rfl ?_
        refine lv_istore_n (lv' := [(3, .int 0), (0, .ref e0), (1, .int x0), (2, .int x1)]) hx hb dX6_prove_34 rfl hl (by decide) rfl (fun ls hl => ?_)
        obtain ⟨j9, hj9, hf⟩ := lj_e hf
        have Hj9 : ∀ (v7 : Nat → Int32) (v8 : Nat → Int32) (H : Heap) (locs : List Loc) (ls : Array Slot), va_P D vwCl (oMM C e0 e1 e2 e3 e4 e5 e6 e7 e8 e9 e10 e11 e12 e13 e14 e15 v7 m_held v5 m_before m_isHeld m_tape m_taped m_token m_from m_to m_value m_isWrong m_due m_firsts v8 m_rowN m_sortOf m_sizeOf m_numbers m_holdsWhat m_holdsWhich m_holdsMany m_bodies m_ran m_actKind m_actN m_actA m_isParted []) H → va_D A (oMM C e0 e1 e2 e3 e4 e5 e6 e7 e8 e9 e10 e11 e12 e13 e14 e15 v7 m_held v5 m_before m_isHeld m_tape m_taped m_token m_from m_to m_value m_isWrong m_due m_firsts v8 m_rowN m_sortOf m_sizeOf m_numbers m_holdsWhat m_holdsWhich m_holdsMany m_bodies m_ran m_actKind m_actN m_actA m_isParted []) → va_S A s.heap H locs → lv_has ls 4 [(0, .ref e0), (2, .int x1)] → j9 v7 v8 = some (r, m_s', m_aside', m_rows', m_rowN') → W p l e (headSpec wsX6_prove (rmX6_prove)).room s m (List.toArray [Value.ref e0, Value.int x0, Value.int x1]) below meth c H locs 0 0 Q (F0 m 94 ls []) := by
          intro v7 v8 H locs ls hP hD hS hl hf
          rw [hj9] at hf
          refine lv_aload_n hx hb dX6_prove_94 rfl (lv_at hl 0 rfl) ?_
          refine va_get (D := D) (ci := 6) (v := .ref e3) (C := RX6) (T := TX6) (N := 28) hx hb hts hi_RX6 hown hK hP 0 rfl rfl 2 (by decide) (hts (.fieldLink RX6 16 "TravelMarksModel" "aside" "[I") (List.mem_of_getElem? (i := 3) rfl)) (fun _ h9 => h9) rfl dX6_prove_95 ?_
          refine lv_aload_n hx hb dX6_prove_98 rfl (lv_at hl 0 rfl) ?_
          refine va_get (D := D) (ci := 6) (v := .ref e1) (C := RX6) (T := TX6) (N := 28) hx hb hts hi_RX6 hown hK hP 0 rfl rfl 0 (by decide) (hts (.fieldLink RX6 7 "TravelMarksModel" "s" "[I") (List.mem_of_getElem? (i := 2) rfl)) (fun _ h9 => h9) rfl dX6_prove_99 ?_
          obtain ⟨v10, h11, hf⟩ := ob1_e hf
          refine kcv (Wx := (oMM C e0 e1 e2 e3 e4 e5 e6 e7 e8 e9 e10 e11 e12 e13 e14 e15 v10 m_held v5 m_before m_isHeld m_tape m_taped m_token m_from m_to m_value m_isWrong m_due m_firsts v8 m_rowN m_sortOf m_sizeOf m_numbers m_holdsWhat m_holdsWhich m_holdsMany m_bodies m_ran m_actKind m_actN m_actA m_isParted [])) (va_runS (As := [.ref e3, .ref e1]) (rest := []) ⟨hx, hb, hml, hown, hts⟩ (c_X6_copyRow l E D C e3 e1 H.size N v5 v7 v10 h11) (va_cwS 2 hts gX6_prove_X6_copyRow rfl rfl rfl hdX6_copyRow ⟨Nat.le_of_ble_eq_true rfl, Nat.le_of_ble_eq_true rfl⟩) (kpre hP hD hK hS hE hA [3, 1] rfl rfl) rfl rfl hl.1 rfl (lv_room (Nat.le_of_ble_eq_true rfl)) dX6_prove_102 ⟨Nat.zero_le _, Nat.zero_le _⟩) hP hD hS hA [3, 1] rfl rfl rfl (fun H locs hP hD hS => ?_)
          refine lv_aload_n hx hb dX6_prove_105 rfl (lv_at hl 0 rfl) ?_
          refine lv_iload_n hx hb dX6_prove_106 rfl (lv_at hl 1 rfl) ?_
          refine va_put (D := D) (ci := 6) (v := .int x1) (ty := .int) (C := RX6) (T := TX6) (N := 28) hx hb hts hi_RX6 tyX6 tyX6_ok nmX6 hown hK hP hD hS 0 rfl rfl 15 (by decide) (hts (.fieldLink RX6 153 "TravelMarksModel" "rowN" "I") (List.mem_of_getElem? (i := 5) rfl)) (fun _ h9 => h9) rfl (tyX6_ok 15 (by decide)) rfl rfl (Nat.le_of_ble_eq_true rfl) dX6_prove_107 (fun H locs hP hD hS => ?_)
          have hP : va_P D vwCl (oMM C e0 e1 e2 e3 e4 e5 e6 e7 e8 e9 e10 e11 e12 e13 e14 e15 v10 m_held v5 m_before m_isHeld m_tape m_taped m_token m_from m_to m_value m_isWrong m_due m_firsts v8 x1 m_sortOf m_sizeOf m_numbers m_holdsWhat m_holdsWhich m_holdsMany m_bodies m_ran m_actKind m_actN m_actA m_isParted []) H := hP
          have hD : va_D A (oMM C e0 e1 e2 e3 e4 e5 e6 e7 e8 e9 e10 e11 e12 e13 e14 e15 v10 m_held v5 m_before m_isHeld m_tape m_taped m_token m_from m_to m_value m_isWrong m_due m_firsts v8 x1 m_sortOf m_sizeOf m_numbers m_holdsWhat m_holdsWhich m_holdsMany m_bodies m_ran m_actKind m_actN m_actA m_isParted []) := hD
          refine lv_iload_n hx hb dX6_prove_110 rfl (lv_at hl 1 rfl) ?_
          cases hf
          exact kri hQ hAe hx hb hr hlocks hP hD hK hS dX6_prove_111
        have hL35 : ∀ (n : Nat) (i12 : Int32) (v13 : Nat → Int32) (v14 : Nat → Int32) (H : Heap) (locs : List Loc) (ls : Array Slot), va_P D vwCl (oMM C e0 e1 e2 e3 e4 e5 e6 e7 e8 e9 e10 e11 e12 e13 e14 e15 v13 m_held v5 m_before m_isHeld m_tape m_taped m_token m_from m_to m_value m_isWrong m_due m_firsts v14 m_rowN m_sortOf m_sizeOf m_numbers m_holdsWhat m_holdsWhich m_holdsMany m_bodies m_ran m_actKind m_actN m_actA m_isParted []) H → va_D A (oMM C e0 e1 e2 e3 e4 e5 e6 e7 e8 e9 e10 e11 e12 e13 e14 e15 v13 m_held v5 m_before m_isHeld m_tape m_taped m_token m_from m_to m_value m_isWrong m_due m_firsts v14 m_rowN m_sortOf m_sizeOf m_numbers m_holdsWhat m_holdsWhich m_holdsMany m_bodies m_ran m_actKind m_actN m_actA m_isParted []) → va_S A s.heap H locs → lv_has ls 4 [(3, .int i12), (0, .ref e0), (1, .int x0), (2, .int x1)] → f_X6_prove_L35 N x0 x1 j9 n i12 v13 v14 = some (r, m_s', m_aside', m_rows', m_rowN') → W p l e (headSpec wsX6_prove (rmX6_prove)).room s m (List.toArray [Value.ref e0, Value.int x0, Value.int x1]) below meth c H locs 0 0 Q (F0 m 35 ls []) := by
          intro n
          induction n with
          | zero =>
            intro i12 v13 v14 H locs ls hP hD hS hl hf
            exact absurd hf (fun h => by cases h)
          | succ n ih =>
            intro i12 v13 v14 H locs ls hP hD hS hl hf
            rw [f_X6_prove_L35] at hf
            refine lv_iload_n hx hb dX6_prove_35 rfl (lv_at hl 0 rfl) ?_
            refine lv_iload_n hx hb dX6_prove_36 rfl (lv_at hl 3 rfl) ?_
            refine lv_icmp_ge (tgt := 94) hx hb dX6_prove_37 (by decide) (fun c15 => ?_) (fun c15 => ?_)
            · replace hf := if_te c15 hf
              exact Hj9 v13 v14 H locs ls hP hD hS (lv_sub hl [1, 3] rfl) hf
            · replace hf := if_fe c15 hf
              refine lv_aload_n hx hb dX6_prove_40 rfl (lv_at hl 1 rfl) ?_
              refine va_get (D := D) (ci := 6) (v := .ref e8) (C := RX6) (T := TX6) (N := 28) hx hb hts hi_RX6 hown hK hP 0 rfl rfl 14 (by decide) (hts (.fieldLink RX6 31 "TravelMarksModel" "rows" "[I") (List.mem_of_getElem? (i := 4) rfl)) (fun _ h9 => h9) rfl dX6_prove_41 ?_
              refine lv_iconst (v := 3) hx hb dX6_prove_44 rfl ?_
              refine lv_iload_n hx hb dX6_prove_45 rfl (lv_at hl 0 rfl) ?_
              refine lv_imul hx hb dX6_prove_46 ?_
              refine lv_iconst (v := 2) hx hb dX6_prove_47 rfl ?_
              refine lv_iadd hx hb dX6_prove_48 ?_
              refine lv_aload_n hx hb dX6_prove_49 rfl (lv_at hl 1 rfl) ?_
              obtain ⟨r16, v17, h18, hf⟩ := ob2_e hf
              refine kci (Wx := (oMM C e0 e1 e2 e3 e4 e5 e6 e7 e8 e9 e10 e11 e12 e13 e14 e15 v17 m_held v5 m_before m_isHeld m_tape m_taped m_token m_from m_to m_value m_isWrong m_due m_firsts v14 m_rowN m_sortOf m_sizeOf m_numbers m_holdsWhat m_holdsWhich m_holdsMany m_bodies m_ran m_actKind m_actN m_actA m_isParted [])) (va_runV (As := []) (rest := [.int ((3 * i12) + 2), .ref e8]) ⟨hx, hb, hml, hown, hts⟩ (c_X6_goesOn l E D C e0 e1 e2 e3 e4 e5 e6 e7 e8 e9 e10 e11 e12 e13 e14 e15 H.size N v13 m_held v5 m_before m_isHeld m_tape m_taped m_token m_from m_to m_value m_isWrong m_due m_firsts v14 m_rowN m_sortOf m_sizeOf m_numbers m_holdsWhat m_holdsWhich m_holdsMany m_bodies m_ran m_actKind m_actN m_actA m_isParted r16 v17 h18) (cwV 0 hts gX6_prove_X6_goesOn rfl rfl rfl hdX6_goesOn ⟨Nat.le_of_ble_eq_true rfl, Nat.le_of_ble_eq_true rfl⟩) (kpreV hP hD hK hS hE hA [0, 1, 2, 3, 4, 5, 6, 7, 8, 9, 10, 11, 12, 13, 14, 15] rfl rfl 0 rfl rfl rfl) rfl rfl hl.1 rfl (lv_room (Nat.le_of_ble_eq_true rfl)) dX6_prove_50 ⟨Nat.zero_le _, Nat.zero_le _⟩) hP hD hS hA [0, 1, 2, 3, 4, 5, 6, 7, 8, 9, 10, 11, 12, 13, 14, 15] rfl rfl rfl (fun H locs hP hD hS => ?_)
              refine lv_iload_n hx hb dX6_prove_53 rfl (lv_at hl 2 rfl) ?_
              refine lv_ishr hx hb dX6_prove_54 ?_
              refine lv_iconst (v := 1) hx hb dX6_prove_55 rfl ?_
              refine lv_iand hx hb dX6_prove_56 ?_
              obtain ⟨t19, et19, hf⟩ := lj_e hf
              refine lv_ren et19 ?_
              obtain ⟨hi20, hf⟩ := ckA_e hf
              refine va_iast hx hb hK hP hD hS 8 0 rfl rfl hi20 dX6_prove_57 (fun H locs hP hD hS => ?_)
              obtain ⟨v21, ev21, hf⟩ := lj_e hf
              have hP : va_P D vwCl (oMM C e0 e1 e2 e3 e4 e5 e6 e7 e8 e9 e10 e11 e12 e13 e14 e15 v17 m_held v5 m_before m_isHeld m_tape m_taped m_token m_from m_to m_value m_isWrong m_due m_firsts v21 m_rowN m_sortOf m_sizeOf m_numbers m_holdsWhat m_holdsWhich m_holdsMany m_bodies m_ran m_actKind m_actN m_actA m_isParted []) H := by rw [ev21]; exact hP
              have hD : va_D A (oMM C e0 e1 e2 e3 e4 e5 e6 e7 e8 e9 e10 e11 e12 e13 e14 e15 v17 m_held v5 m_before m_isHeld m_tape m_taped m_token m_from m_to m_value m_isWrong m_due m_firsts v21 m_rowN m_sortOf m_sizeOf m_numbers m_holdsWhat m_holdsWhich m_holdsMany m_bodies m_ran m_actKind m_actN m_actA m_isParted []) := by rw [ev21]; exact hD
              refine lv_aload_n hx hb dX6_prove_58 rfl (lv_at hl 1 rfl) ?_
              refine va_get (D := D) (ci := 6) (v := .ref e8) (C := RX6) (T := TX6) (N := 28) hx hb hts hi_RX6 hown hK hP 0 rfl rfl 14 (by decide) (hts (.fieldLink RX6 31 "TravelMarksModel" "rows" "[I") (List.mem_of_getElem? (i := 4) rfl)) (fun _ h9 => h9) rfl dX6_prove_59 ?_
              refine lv_iconst (v := 3) hx hb dX6_prove_62 rfl ?_
              refine lv_iload_n hx hb dX6_prove_63 rfl (lv_at hl 0 rfl) ?_
              refine lv_imul hx hb dX6_prove_64 ?_
              refine lv_aload_n hx hb dX6_prove_65 rfl (lv_at hl 1 rfl) ?_
              refine lv_iload_n hx hb dX6_prove_66 rfl (lv_at hl 2 rfl) ?_
              refine lv_iconst (v := 2) hx hb dX6_prove_67 rfl ?_
              obtain ⟨r22, h23, hf⟩ := ob1_e hf
              refine kci (Wx := (oMM C e0 e1 e2 e3 e4 e5 e6 e7 e8 e9 e10 e11 e12 e13 e14 e15 v17 m_held v5 m_before m_isHeld m_tape m_taped m_token m_from m_to m_value m_isWrong m_due m_firsts v21 m_rowN m_sortOf m_sizeOf m_numbers m_holdsWhat m_holdsWhich m_holdsMany m_bodies m_ran m_actKind m_actN m_actA m_isParted [])) (va_runV (As := [.int x0, .int 2]) (rest := [.int (3 * i12), .ref e8]) ⟨hx, hb, hml, hown, hts⟩ (c_X6_its l E D C e0 e1 e2 e3 e4 e5 e6 e7 e8 e9 e10 e11 e12 e13 e14 e15 H.size v17 m_held v5 m_before m_isHeld m_tape m_taped m_token m_from m_to m_value m_isWrong m_due m_firsts v21 m_rowN m_sortOf m_sizeOf m_numbers m_holdsWhat m_holdsWhich m_holdsMany m_bodies m_ran m_actKind m_actN m_actA m_isParted x0 2 r22 h23) (cwV 2 hts gX6_prove_X6_its rfl rfl rfl hdX6_its ⟨Nat.le_of_ble_eq_true rfl, Nat.le_of_ble_eq_true rfl⟩) (kpreV hP hD hK hS hE hA [0, 1, 2, 3, 4, 5, 6, 7, 8, 9, 10, 11, 12, 13, 14, 15] rfl rfl 0 rfl rfl rfl) rfl rfl hl.1 rfl (lv_room (Nat.le_of_ble_eq_true rfl)) dX6_prove_68 ⟨Nat.zero_le _, Nat.zero_le _⟩) hP hD hS hA [0, 1, 2, 3, 4, 5, 6, 7, 8, 9, 10, 11, 12, 13, 14, 15] rfl rfl rfl (fun H locs hP hD hS => ?_)
              obtain ⟨hi24, hf⟩ := ckA_e hf
              refine va_iast hx hb hK hP hD hS 8 0 rfl rfl hi24 dX6_prove_71 (fun H locs hP hD hS => ?_)
              obtain ⟨v25, ev25, hf⟩ := lj_e hf
              have hP : va_P D vwCl (oMM C e0 e1 e2 e3 e4 e5 e6 e7 e8 e9 e10 e11 e12 e13 e14 e15 v17 m_held v5 m_before m_isHeld m_tape m_taped m_token m_from m_to m_value m_isWrong m_due m_firsts v25 m_rowN m_sortOf m_sizeOf m_numbers m_holdsWhat m_holdsWhich m_holdsMany m_bodies m_ran m_actKind m_actN m_actA m_isParted []) H := by rw [ev25]; exact hP
              have hD : va_D A (oMM C e0 e1 e2 e3 e4 e5 e6 e7 e8 e9 e10 e11 e12 e13 e14 e15 v17 m_held v5 m_before m_isHeld m_tape m_taped m_token m_from m_to m_value m_isWrong m_due m_firsts v25 m_rowN m_sortOf m_sizeOf m_numbers m_holdsWhat m_holdsWhich m_holdsMany m_bodies m_ran m_actKind m_actN m_actA m_isParted []) := by rw [ev25]; exact hD
              refine lv_aload_n hx hb dX6_prove_72 rfl (lv_at hl 1 rfl) ?_
              refine va_get (D := D) (ci := 6) (v := .ref e8) (C := RX6) (T := TX6) (N := 28) hx hb hts hi_RX6 hown hK hP 0 rfl rfl 14 (by decide) (hts (.fieldLink RX6 31 "TravelMarksModel" "rows" "[I") (List.mem_of_getElem? (i := 4) rfl)) (fun _ h9 => h9) rfl dX6_prove_73 ?_
              refine lv_iconst (v := 3) hx hb dX6_prove_76 rfl ?_
              refine lv_iload_n hx hb dX6_prove_77 rfl (lv_at hl 0 rfl) ?_
              refine lv_imul hx hb dX6_prove_78 ?_
              refine lv_iconst (v := 1) hx hb dX6_prove_79 rfl ?_
              refine lv_iadd hx hb dX6_prove_80 ?_
              refine lv_aload_n hx hb dX6_prove_81 rfl (lv_at hl 1 rfl) ?_
              refine lv_iload_n hx hb dX6_prove_82 rfl (lv_at hl 2 rfl) ?_
              refine lv_iconst (v := 1) hx hb dX6_prove_83 rfl ?_
              obtain ⟨r26, h27, hf⟩ := ob1_e hf
              refine kci (Wx := (oMM C e0 e1 e2 e3 e4 e5 e6 e7 e8 e9 e10 e11 e12 e13 e14 e15 v17 m_held v5 m_before m_isHeld m_tape m_taped m_token m_from m_to m_value m_isWrong m_due m_firsts v25 m_rowN m_sortOf m_sizeOf m_numbers m_holdsWhat m_holdsWhich m_holdsMany m_bodies m_ran m_actKind m_actN m_actA m_isParted [])) (va_runV (As := [.int x0, .int 1]) (rest := [.int ((3 * i12) + 1), .ref e8]) ⟨hx, hb, hml, hown, hts⟩ (c_X6_its l E D C e0 e1 e2 e3 e4 e5 e6 e7 e8 e9 e10 e11 e12 e13 e14 e15 H.size v17 m_held v5 m_before m_isHeld m_tape m_taped m_token m_from m_to m_value m_isWrong m_due m_firsts v25 m_rowN m_sortOf m_sizeOf m_numbers m_holdsWhat m_holdsWhich m_holdsMany m_bodies m_ran m_actKind m_actN m_actA m_isParted x0 1 r26 h27) (cwV 2 hts gX6_prove_X6_its rfl rfl rfl hdX6_its ⟨Nat.le_of_ble_eq_true rfl, Nat.le_of_ble_eq_true rfl⟩) (kpreV hP hD hK hS hE hA [0, 1, 2, 3, 4, 5, 6, 7, 8, 9, 10, 11, 12, 13, 14, 15] rfl rfl 0 rfl rfl rfl) rfl rfl hl.1 rfl (lv_room (Nat.le_of_ble_eq_true rfl)) dX6_prove_84 ⟨Nat.zero_le _, Nat.zero_le _⟩) hP hD hS hA [0, 1, 2, 3, 4, 5, 6, 7, 8, 9, 10, 11, 12, 13, 14, 15] rfl rfl rfl (fun H locs hP hD hS => ?_)
              obtain ⟨hi28, hf⟩ := ckA_e hf
              refine va_iast hx hb hK hP hD hS 8 0 rfl rfl hi28 dX6_prove_87 (fun H locs hP hD hS => ?_)
              obtain ⟨v29, ev29, hf⟩ := lj_e hf
              have hP : va_P D vwCl (oMM C e0 e1 e2 e3 e4 e5 e6 e7 e8 e9 e10 e11 e12 e13 e14 e15 v17 m_held v5 m_before m_isHeld m_tape m_taped m_token m_from m_to m_value m_isWrong m_due m_firsts v29 m_rowN m_sortOf m_sizeOf m_numbers m_holdsWhat m_holdsWhich m_holdsMany m_bodies m_ran m_actKind m_actN m_actA m_isParted []) H := by rw [ev29]; exact hP
              have hD : va_D A (oMM C e0 e1 e2 e3 e4 e5 e6 e7 e8 e9 e10 e11 e12 e13 e14 e15 v17 m_held v5 m_before m_isHeld m_tape m_taped m_token m_from m_to m_value m_isWrong m_due m_firsts v29 m_rowN m_sortOf m_sizeOf m_numbers m_holdsWhat m_holdsWhich m_holdsMany m_bodies m_ran m_actKind m_actN m_actA m_isParted []) := by rw [ev29]; exact hD
              obtain ⟨t30, et30, hf⟩ := lj_e hf
              refine lv_iinc (v := t30) (lv' := [(3, .int t30), (0, .ref e0), (1, .int x0), (2, .int x1)]) hx hb dX6_prove_88 hl (k := 0) rfl (by rw [et30]; rfl) (by decide) rfl (fun ls hl => ?_)
              refine lv_goto (tgt := 35) hx hb dX6_prove_91 (by decide) ?_
              exact ih t30 v17 v29 H locs ls hP hD hS (lv_sub hl [0, 1, 2, 3] rfl) hf
        exact hL35 N 0 m_s m_rows H locs ls hP hD hS (lv_sub hl [0, 1, 2, 3] rfl) hf
      · replace hf := if_te c4 hf
        refine lv_iconst (v := (-1)) hx hb dX6_prove_20 rfl ?_
        cases hf
        exact kri hQ hAe hx hb hr hlocks hP hD hK hS dX6_prove_21
  exact main _ _ hP hD hS

def rmX6_isRow : Room := { frames := 1, cells := 0, slots := 0, locals := 25 }
theorem hdX6_isRow : yX6_isRow.cls = RX6 ∧ yX6_isRow.cls ≠ "java/lang/invoke/MethodHandle" ∧ yX6_isRow.cls ≠ "java/lang/invoke/VarHandle" ∧ (parseMethodDescriptor yX6_isRow.desc).map (fun d => d.parameters.length) = some 2 := by decide +kernel
set_option maxHeartbeats 40000000 in
set_option maxRecDepth 100000 in
theorem c_X6_isRow (l : Launch) (E : Nat → Nat) (D : va_G) (C : Nat → ClassId) (e0 e1 e2 e3 e4 e5 e6 e7 e8 e9 e10 e11 e12 e13 e14 e15 : Nat) (sz : Nat) (m_s : Nat → Int32) (m_held : Nat → Int32) (m_aside : Nat → Int32) (m_before : Nat → Int32) (m_isHeld : Int32) (m_tape : Nat → Int32) (m_taped : Int32) (m_token : Int32) (m_from : Int32) (m_to : Int32) (m_value : Int32) (m_isWrong : Int32) (m_due : Nat → Int32) (m_firsts : Nat → Int32) (m_rows : Nat → Int32) (m_rowN : Int32) (m_sortOf : Nat → Int32) (m_sizeOf : Nat → Int32) (m_numbers : Nat → Int32) (m_holdsWhat : Nat → Int32) (m_holdsWhich : Nat → Int32) (m_holdsMany : Nat → Int32) (m_bodies : Nat → Int32) (m_ran : Int32) (m_actKind : Int32) (m_actN : Int32) (m_actA : Int32) (m_isParted : Int32) (x0 : Int32) (x1 : Int32) (r : Int32) (hf : f_X6_isRow m_rowN x0 x1 = r) : Met l yX6_isRow wsX6_isRow rmX6_isRow (PC E D C [.ref e0, .int x0, .int x1] (oMM C e0 e1 e2 e3 e4 e5 e6 e7 e8 e9 e10 e11 e12 e13 e14 e15 m_s m_held m_aside m_before m_isHeld m_tape m_taped m_token m_from m_to m_value m_isWrong m_due m_firsts m_rows m_rowN m_sortOf m_sizeOf m_numbers m_holdsWhat m_holdsWhich m_holdsMany m_bodies m_ran m_actKind m_actN m_actA m_isParted []) sz) (QZ D C (oMM C e0 e1 e2 e3 e4 e5 e6 e7 e8 e9 e10 e11 e12 e13 e14 e15 m_s m_held m_aside m_before m_isHeld m_tape m_taped m_token m_from m_to m_value m_isWrong m_due m_firsts m_rows m_rowN m_sortOf m_sizeOf m_numbers m_holdsWhat m_holdsWhich m_holdsMany m_bodies m_ran m_actKind m_actN m_actA m_isParted []) (oMM C e0 e1 e2 e3 e4 e5 e6 e7 e8 e9 e10 e11 e12 e13 e14 e15 m_s m_held m_aside m_before m_isHeld m_tape m_taped m_token m_from m_to m_value m_isWrong m_due m_firsts m_rows m_rowN m_sortOf m_sizeOf m_numbers m_holdsWhat m_holdsWhich m_holdsMany m_bodies m_ran m_actKind m_actN m_actA m_isParted []) sz r) 0 0 (va_A (oMM C e0 e1 e2 e3 e4 e5 e6 e7 e8 e9 e10 e11 e12 e13 e14 e15 m_s m_held m_aside m_before m_isHeld m_tape m_taped m_token m_from m_to m_value m_isWrong m_due m_firsts m_rows m_rowN m_sortOf m_sizeOf m_numbers m_holdsWhat m_holdsWhich m_holdsMany m_bodies m_ran m_actKind m_actN m_actA m_isParted []) sz) := by
  refine Met.ofW (cc := cX6_isRow) (maxL := 3) (ret := (some .boolean)) (by decide) rfl ?_
  intro p e s m args below meth c s₁ B hml hv
  obtain ⟨rfl, hsz, hP, hK, hD0, hE⟩ := hv
  have hx := B.exec
  have hb := B.bytes
  have hr := B.returns
  have hts := atoms_spec (ws := wsX6_isRow) B.pre
  have hown : s.vm.findClass RX6 = some m.cls := findClass_of_methodNamed B.named
  have hlocks := B.notSynchronized
  subst hsz
  have hi_RX6 : ∀ w ∈ wsX60, w ∈ wsX6_isRow := fun _ h => List.mem_cons_of_mem _ (List.mem_append_right _ h)
  have hD := hD0.self (sz := s.heap.size)
  obtain ⟨A, hAe⟩ := nm_ex (va_A (oMM C e0 e1 e2 e3 e4 e5 e6 e7 e8 e9 e10 e11 e12 e13 e14 e15 m_s m_held m_aside m_before m_isHeld m_tape m_taped m_token m_from m_to m_value m_isWrong m_due m_firsts m_rows m_rowN m_sortOf m_sizeOf m_numbers m_holdsWhat m_holdsWhich m_holdsMany m_bodies m_ran m_actKind m_actN m_actA m_isParted []) s.heap.size)
  rw [← hAe] at hD hE ⊢
  have hA : ∀ q : Nat, s.heap.size ≤ q → A q := fun q h => by rw [hAe]; exact Or.inr h
  have hS : va_S A s.heap s.heap [] := va_S.rf
  have hl := lv_entry ([.ref e0, .int x0, .int x1]) (n := 3) (Nat.le_of_ble_eq_true rfl)
  rw [lg_entry_eq]
  generalize (lg_sl ([.ref e0, .int x0, .int x1]) ++ List.replicate (3 - (lg_sl ([.ref e0, .int x0, .int x1])).length) Slot.unset).toArray = ls at hl ⊢
  have hl : lv_has ls 3 [(0, .ref e0), (1, .int x0), (2, .int x1)] := hl
  obtain ⟨Q, hQ⟩ := nm_ex (MQ below (QZ D C (oMM C e0 e1 e2 e3 e4 e5 e6 e7 e8 e9 e10 e11 e12 e13 e14 e15 m_s m_held m_aside m_before m_isHeld m_tape m_taped m_token m_from m_to m_value m_isWrong m_due m_firsts m_rows m_rowN m_sortOf m_sizeOf m_numbers m_holdsWhat m_holdsWhich m_holdsMany m_bodies m_ran m_actKind m_actN m_actA m_isParted []) (oMM C e0 e1 e2 e3 e4 e5 e6 e7 e8 e9 e10 e11 e12 e13 e14 e15 m_s m_held m_aside m_before m_isHeld m_tape m_taped m_token m_from m_to m_value m_isWrong m_due m_firsts m_rows m_rowN m_sortOf m_sizeOf m_numbers m_holdsWhat m_holdsWhich m_holdsMany m_bodies m_ran m_actKind m_actN m_actA m_isParted []) s.heap.size r) (List.toArray [Value.ref e0, Value.int x0, Value.int x1]) s 0 0 A)
  show W p l e (headSpec wsX6_isRow (rmX6_isRow)).room s m (List.toArray [Value.ref e0, Value.int x0, Value.int x1]) below meth c s.heap [] 0 0 (MQ below (QZ D C (oMM C e0 e1 e2 e3 e4 e5 e6 e7 e8 e9 e10 e11 e12 e13 e14 e15 m_s m_held m_aside m_before m_isHeld m_tape m_taped m_token m_from m_to m_value m_isWrong m_due m_firsts m_rows m_rowN m_sortOf m_sizeOf m_numbers m_holdsWhat m_holdsWhich m_holdsMany m_bodies m_ran m_actKind m_actN m_actA m_isParted []) (oMM C e0 e1 e2 e3 e4 e5 e6 e7 e8 e9 e10 e11 e12 e13 e14 e15 m_s m_held m_aside m_before m_isHeld m_tape m_taped m_token m_from m_to m_value m_isWrong m_due m_firsts m_rows m_rowN m_sortOf m_sizeOf m_numbers m_holdsWhat m_holdsWhich m_holdsMany m_bodies m_ran m_actKind m_actN m_actA m_isParted []) s.heap.size r) (List.toArray [Value.ref e0, Value.int x0, Value.int x1]) s 0 0 A) _
  rw [← hQ]
  unfold f_X6_isRow at hf
  have main : ∀ (H : Heap) (locs : List Loc), va_P D vwCl (oMM C e0 e1 e2 e3 e4 e5 e6 e7 e8 e9 e10 e11 e12 e13 e14 e15 m_s m_held m_aside m_before m_isHeld m_tape m_taped m_token m_from m_to m_value m_isWrong m_due m_firsts m_rows m_rowN m_sortOf m_sizeOf m_numbers m_holdsWhat m_holdsWhich m_holdsMany m_bodies m_ran m_actKind m_actN m_actA m_isParted []) H → va_D A (oMM C e0 e1 e2 e3 e4 e5 e6 e7 e8 e9 e10 e11 e12 e13 e14 e15 m_s m_held m_aside m_before m_isHeld m_tape m_taped m_token m_from m_to m_value m_isWrong m_due m_firsts m_rows m_rowN m_sortOf m_sizeOf m_numbers m_holdsWhat m_holdsWhich m_holdsMany m_bodies m_ran m_actKind m_actN m_actA m_isParted []) → va_S A s.heap H locs → W p l e (headSpec wsX6_isRow (rmX6_isRow)).room s m (List.toArray [Value.ref e0, Value.int x0, Value.int x1]) below meth c H locs 0 0 Q (F0 m 0 ls []) := by
    intro H locs hP hD hS
    refine lv_iload_n hx hb dX6_isRow_0 rfl (lv_at hl 1 rfl) ?_
    refine lv_i2l hx hb dX6_isRow_1 rfl ?_
    refine lv_lconst (v := 0) hx hb dX6_isRow_2 rfl ?_
    refine lv_aload_n hx hb dX6_isRow_3 rfl (lv_at hl 0 rfl) ?_
    refine va_get (D := D) (ci := 6) (v := .int m_rowN) (C := RX6) (T := TX6) (N := 28) hx hb hts hi_RX6 hown hK hP 0 rfl rfl 15 (by decide) (hts (.fieldLink RX6 153 "TravelMarksModel" "rowN" "I") (List.mem_of_getElem? (i := 1) rfl)) (fun _ h9 => h9) rfl dX6_isRow_4 ?_
    refine lv_iconst (v := 1) hx hb dX6_isRow_7 rfl ?_
    refine lv_isub hx hb dX6_isRow_8 ?_
    refine lv_i2l hx hb dX6_isRow_9 rfl ?_
    refine kcz (Wx := (oMM C e0 e1 e2 e3 e4 e5 e6 e7 e8 e9 e10 e11 e12 e13 e14 e15 m_s m_held m_aside m_before m_isHeld m_tape m_taped m_token m_from m_to m_value m_isWrong m_due m_firsts m_rows m_rowN m_sortOf m_sizeOf m_numbers m_holdsWhat m_holdsWhich m_holdsMany m_bodies m_ran m_actKind m_actN m_actA m_isParted [])) (va_runS (As := [.long (Int32.toInt64 x0), .long 0, .long (Int32.toInt64 (m_rowN - 1))]) (rest := []) ⟨hx, hb, hml, hown, hts⟩ (c_X6_isIn l E D C H.size (Int32.toInt64 x0) 0 (Int32.toInt64 (m_rowN - 1)) _ rfl) (va_cwS 3 hts gX6_isRow_X6_isIn rfl rfl rfl hdX6_isIn ⟨Nat.le_of_ble_eq_true rfl, Nat.le_of_ble_eq_true rfl⟩) (kpre hP hD hK hS hE hA [] rfl rfl) rfl rfl hl.1 rfl (lv_room (Nat.le_of_ble_eq_true rfl)) dX6_isRow_10 ⟨Nat.zero_le _, Nat.zero_le _⟩) hP hD hS hA [] rfl rfl rfl (fun H locs hz1 hP hD hS => ?_)
    refine lv_if_eq (tgt := 32) hx hb dX6_isRow_13 (by decide) (fun c2 => ?_) (fun c2 => ?_)
    · replace hf := if_te c2 hf
      refine lv_iconst (v := 0) hx hb dX6_isRow_32 rfl ?_
      cases hf
      exact krz hQ hAe hx hb hr hlocks zb_0 hP hD hK hS dX6_isRow_33
    · replace hf := if_fe c2 hf
      refine lv_iload_n hx hb dX6_isRow_16 rfl (lv_at hl 2 rfl) ?_
      refine lv_i2l hx hb dX6_isRow_17 rfl ?_
      refine lv_lconst (v := 0) hx hb dX6_isRow_18 rfl ?_
      refine lv_ldc2 (v := 2) hx hb hown (hts (.constantLong RX6 276 (2)) (List.mem_of_getElem? (i := 2) rfl)) dX6_isRow_19 ?_
      refine kcz (Wx := (oMM C e0 e1 e2 e3 e4 e5 e6 e7 e8 e9 e10 e11 e12 e13 e14 e15 m_s m_held m_aside m_before m_isHeld m_tape m_taped m_token m_from m_to m_value m_isWrong m_due m_firsts m_rows m_rowN m_sortOf m_sizeOf m_numbers m_holdsWhat m_holdsWhich m_holdsMany m_bodies m_ran m_actKind m_actN m_actA m_isParted [])) (va_runS (As := [.long (Int32.toInt64 x1), .long 0, .long 2]) (rest := []) ⟨hx, hb, hml, hown, hts⟩ (c_X6_isIn l E D C H.size (Int32.toInt64 x1) 0 2 _ rfl) (va_cwS 3 hts gX6_isRow_X6_isIn rfl rfl rfl hdX6_isIn ⟨Nat.le_of_ble_eq_true rfl, Nat.le_of_ble_eq_true rfl⟩) (kpre hP hD hK hS hE hA [] rfl rfl) rfl rfl hl.1 rfl (lv_room (Nat.le_of_ble_eq_true rfl)) dX6_isRow_22 ⟨Nat.zero_le _, Nat.zero_le _⟩) hP hD hS hA [] rfl rfl rfl (fun H locs hz3 hP hD hS => ?_)
      refine lv_if_eq (tgt := 32) hx hb dX6_isRow_25 (by decide) (fun c4 => ?_) (fun c4 => ?_)
      · replace hf := if_te c4 hf
        refine lv_iconst (v := 0) hx hb dX6_isRow_32 rfl ?_
        cases hf
        exact krz hQ hAe hx hb hr hlocks zb_0 hP hD hK hS dX6_isRow_33
      · replace hf := if_fe c4 hf
        refine lv_iconst (v := 1) hx hb dX6_isRow_28 rfl ?_
        refine lv_goto (tgt := 33) hx hb dX6_isRow_29 (by decide) ?_
        cases hf
        exact krz hQ hAe hx hb hr hlocks zb_1 hP hD hK hS dX6_isRow_33
  exact main _ _ hP hD hS

def rmX6_row : Room := { frames := 2, cells := 0, slots := 0, locals := 47 }
theorem hdX6_row : yX6_row.cls = RX6 ∧ yX6_row.cls ≠ "java/lang/invoke/MethodHandle" ∧ yX6_row.cls ≠ "java/lang/invoke/VarHandle" ∧ (parseMethodDescriptor yX6_row.desc).map (fun d => d.parameters.length) = some 2 := by decide +kernel
set_option maxHeartbeats 40000000 in
set_option maxRecDepth 100000 in
theorem c_X6_row (l : Launch) (E : Nat → Nat) (D : va_G) (C : Nat → ClassId) (e0 e1 e2 e3 e4 e5 e6 e7 e8 e9 e10 e11 e12 e13 e14 e15 : Nat) (sz : Nat) (m_s : Nat → Int32) (m_held : Nat → Int32) (m_aside : Nat → Int32) (m_before : Nat → Int32) (m_isHeld : Int32) (m_tape : Nat → Int32) (m_taped : Int32) (m_token : Int32) (m_from : Int32) (m_to : Int32) (m_value : Int32) (m_isWrong : Int32) (m_due : Nat → Int32) (m_firsts : Nat → Int32) (m_rows : Nat → Int32) (m_rowN : Int32) (m_sortOf : Nat → Int32) (m_sizeOf : Nat → Int32) (m_numbers : Nat → Int32) (m_holdsWhat : Nat → Int32) (m_holdsWhich : Nat → Int32) (m_holdsMany : Nat → Int32) (m_bodies : Nat → Int32) (m_ran : Int32) (m_actKind : Int32) (m_actN : Int32) (m_actA : Int32) (m_isParted : Int32) (x0 : Int32) (x1 : Int32) (r : Int32) (hf : f_X6_row m_rows m_rowN x0 x1 = some r) : Met l yX6_row wsX6_row rmX6_row (PC E D C [.ref e0, .int x0, .int x1] (oMM C e0 e1 e2 e3 e4 e5 e6 e7 e8 e9 e10 e11 e12 e13 e14 e15 m_s m_held m_aside m_before m_isHeld m_tape m_taped m_token m_from m_to m_value m_isWrong m_due m_firsts m_rows m_rowN m_sortOf m_sizeOf m_numbers m_holdsWhat m_holdsWhich m_holdsMany m_bodies m_ran m_actKind m_actN m_actA m_isParted []) sz) (QI D C (oMM C e0 e1 e2 e3 e4 e5 e6 e7 e8 e9 e10 e11 e12 e13 e14 e15 m_s m_held m_aside m_before m_isHeld m_tape m_taped m_token m_from m_to m_value m_isWrong m_due m_firsts m_rows m_rowN m_sortOf m_sizeOf m_numbers m_holdsWhat m_holdsWhich m_holdsMany m_bodies m_ran m_actKind m_actN m_actA m_isParted []) (oMM C e0 e1 e2 e3 e4 e5 e6 e7 e8 e9 e10 e11 e12 e13 e14 e15 m_s m_held m_aside m_before m_isHeld m_tape m_taped m_token m_from m_to m_value m_isWrong m_due m_firsts m_rows m_rowN m_sortOf m_sizeOf m_numbers m_holdsWhat m_holdsWhich m_holdsMany m_bodies m_ran m_actKind m_actN m_actA m_isParted []) sz r) 0 0 (va_A (oMM C e0 e1 e2 e3 e4 e5 e6 e7 e8 e9 e10 e11 e12 e13 e14 e15 m_s m_held m_aside m_before m_isHeld m_tape m_taped m_token m_from m_to m_value m_isWrong m_due m_firsts m_rows m_rowN m_sortOf m_sizeOf m_numbers m_holdsWhat m_holdsWhich m_holdsMany m_bodies m_ran m_actKind m_actN m_actA m_isParted []) sz) := by
  refine Met.ofW (cc := cX6_row) (maxL := 3) (ret := (some .int)) (by decide) rfl ?_
  intro p e s m args below meth c s₁ B hml hv
  obtain ⟨rfl, hsz, hP, hK, hD0, hE⟩ := hv
  have hx := B.exec
  have hb := B.bytes
  have hr := B.returns
  have hts := atoms_spec (ws := wsX6_row) B.pre
  have hown : s.vm.findClass RX6 = some m.cls := findClass_of_methodNamed B.named
  have hlocks := B.notSynchronized
  subst hsz
  have hi_RX6 : ∀ w ∈ wsX60, w ∈ wsX6_row := fun _ h => List.mem_cons_of_mem _ (List.mem_append_right _ h)
  have hD := hD0.self (sz := s.heap.size)
  obtain ⟨A, hAe⟩ := nm_ex (va_A (oMM C e0 e1 e2 e3 e4 e5 e6 e7 e8 e9 e10 e11 e12 e13 e14 e15 m_s m_held m_aside m_before m_isHeld m_tape m_taped m_token m_from m_to m_value m_isWrong m_due m_firsts m_rows m_rowN m_sortOf m_sizeOf m_numbers m_holdsWhat m_holdsWhich m_holdsMany m_bodies m_ran m_actKind m_actN m_actA m_isParted []) s.heap.size)
  rw [← hAe] at hD hE ⊢
  have hA : ∀ q : Nat, s.heap.size ≤ q → A q := fun q h => by rw [hAe]; exact Or.inr h
  have hS : va_S A s.heap s.heap [] := va_S.rf
  have hl := lv_entry ([.ref e0, .int x0, .int x1]) (n := 3) (Nat.le_of_ble_eq_true rfl)
  rw [lg_entry_eq]
  generalize (lg_sl ([.ref e0, .int x0, .int x1]) ++ List.replicate (3 - (lg_sl ([.ref e0, .int x0, .int x1])).length) Slot.unset).toArray = ls at hl ⊢
  have hl : lv_has ls 3 [(0, .ref e0), (1, .int x0), (2, .int x1)] := hl
  obtain ⟨Q, hQ⟩ := nm_ex (MQ below (QI D C (oMM C e0 e1 e2 e3 e4 e5 e6 e7 e8 e9 e10 e11 e12 e13 e14 e15 m_s m_held m_aside m_before m_isHeld m_tape m_taped m_token m_from m_to m_value m_isWrong m_due m_firsts m_rows m_rowN m_sortOf m_sizeOf m_numbers m_holdsWhat m_holdsWhich m_holdsMany m_bodies m_ran m_actKind m_actN m_actA m_isParted []) (oMM C e0 e1 e2 e3 e4 e5 e6 e7 e8 e9 e10 e11 e12 e13 e14 e15 m_s m_held m_aside m_before m_isHeld m_tape m_taped m_token m_from m_to m_value m_isWrong m_due m_firsts m_rows m_rowN m_sortOf m_sizeOf m_numbers m_holdsWhat m_holdsWhich m_holdsMany m_bodies m_ran m_actKind m_actN m_actA m_isParted []) s.heap.size r) (List.toArray [Value.ref e0, Value.int x0, Value.int x1]) s 0 0 A)
  show W p l e (headSpec wsX6_row (rmX6_row)).room s m (List.toArray [Value.ref e0, Value.int x0, Value.int x1]) below meth c s.heap [] 0 0 (MQ below (QI D C (oMM C e0 e1 e2 e3 e4 e5 e6 e7 e8 e9 e10 e11 e12 e13 e14 e15 m_s m_held m_aside m_before m_isHeld m_tape m_taped m_token m_from m_to m_value m_isWrong m_due m_firsts m_rows m_rowN m_sortOf m_sizeOf m_numbers m_holdsWhat m_holdsWhich m_holdsMany m_bodies m_ran m_actKind m_actN m_actA m_isParted []) (oMM C e0 e1 e2 e3 e4 e5 e6 e7 e8 e9 e10 e11 e12 e13 e14 e15 m_s m_held m_aside m_before m_isHeld m_tape m_taped m_token m_from m_to m_value m_isWrong m_due m_firsts m_rows m_rowN m_sortOf m_sizeOf m_numbers m_holdsWhat m_holdsWhich m_holdsMany m_bodies m_ran m_actKind m_actN m_actA m_isParted []) s.heap.size r) (List.toArray [Value.ref e0, Value.int x0, Value.int x1]) s 0 0 A) _
  rw [← hQ]
  unfold f_X6_row at hf
  have main : ∀ (H : Heap) (locs : List Loc), va_P D vwCl (oMM C e0 e1 e2 e3 e4 e5 e6 e7 e8 e9 e10 e11 e12 e13 e14 e15 m_s m_held m_aside m_before m_isHeld m_tape m_taped m_token m_from m_to m_value m_isWrong m_due m_firsts m_rows m_rowN m_sortOf m_sizeOf m_numbers m_holdsWhat m_holdsWhich m_holdsMany m_bodies m_ran m_actKind m_actN m_actA m_isParted []) H → va_D A (oMM C e0 e1 e2 e3 e4 e5 e6 e7 e8 e9 e10 e11 e12 e13 e14 e15 m_s m_held m_aside m_before m_isHeld m_tape m_taped m_token m_from m_to m_value m_isWrong m_due m_firsts m_rows m_rowN m_sortOf m_sizeOf m_numbers m_holdsWhat m_holdsWhich m_holdsMany m_bodies m_ran m_actKind m_actN m_actA m_isParted []) → va_S A s.heap H locs → W p l e (headSpec wsX6_row (rmX6_row)).room s m (List.toArray [Value.ref e0, Value.int x0, Value.int x1]) below meth c H locs 0 0 Q (F0 m 0 ls []) := by
    intro H locs hP hD hS
    refine lv_aload_n hx hb dX6_row_0 rfl (lv_at hl 0 rfl) ?_
    refine lv_iload_n hx hb dX6_row_1 rfl (lv_at hl 1 rfl) ?_
    refine lv_iload_n hx hb dX6_row_2 rfl (lv_at hl 2 rfl) ?_
    refine kcz (Wx := (oMM C e0 e1 e2 e3 e4 e5 e6 e7 e8 e9 e10 e11 e12 e13 e14 e15 m_s m_held m_aside m_before m_isHeld m_tape m_taped m_token m_from m_to m_value m_isWrong m_due m_firsts m_rows m_rowN m_sortOf m_sizeOf m_numbers m_holdsWhat m_holdsWhich m_holdsMany m_bodies m_ran m_actKind m_actN m_actA m_isParted [])) (va_runV (As := [.int x0, .int x1]) (rest := []) ⟨hx, hb, hml, hown, hts⟩ (c_X6_isRow l E D C e0 e1 e2 e3 e4 e5 e6 e7 e8 e9 e10 e11 e12 e13 e14 e15 H.size m_s m_held m_aside m_before m_isHeld m_tape m_taped m_token m_from m_to m_value m_isWrong m_due m_firsts m_rows m_rowN m_sortOf m_sizeOf m_numbers m_holdsWhat m_holdsWhich m_holdsMany m_bodies m_ran m_actKind m_actN m_actA m_isParted x0 x1 _ rfl) (cwV 2 hts gX6_row_X6_isRow rfl rfl rfl hdX6_isRow ⟨Nat.le_of_ble_eq_true rfl, Nat.le_of_ble_eq_true rfl⟩) (kpreV hP hD hK hS hE hA [0, 1, 2, 3, 4, 5, 6, 7, 8, 9, 10, 11, 12, 13, 14, 15] rfl rfl 0 rfl rfl rfl) rfl rfl hl.1 rfl (lv_room (Nat.le_of_ble_eq_true rfl)) dX6_row_3 ⟨Nat.zero_le _, Nat.zero_le _⟩) hP hD hS hA [0, 1, 2, 3, 4, 5, 6, 7, 8, 9, 10, 11, 12, 13, 14, 15] rfl rfl rfl (fun H locs hz1 hP hD hS => ?_)
    refine lv_if_eq (tgt := 22) hx hb dX6_row_6 (by decide) (fun c2 => ?_) (fun c2 => ?_)
    · replace hf := if_te c2 hf
      refine lv_bipush (v := (-9)) hx hb dX6_row_22 rfl ?_
      cases hf
      exact kri hQ hAe hx hb hr hlocks hP hD hK hS dX6_row_24
    · replace hf := if_fe c2 hf
      refine lv_aload_n hx hb dX6_row_9 rfl (lv_at hl 0 rfl) ?_
      refine va_get (D := D) (ci := 6) (v := .ref e8) (C := RX6) (T := TX6) (N := 28) hx hb hts hi_RX6 hown hK hP 0 rfl rfl 14 (by decide) (hts (.fieldLink RX6 31 "TravelMarksModel" "rows" "[I") (List.mem_of_getElem? (i := 1) rfl)) (fun _ h9 => h9) rfl dX6_row_10 ?_
      refine lv_iconst (v := 3) hx hb dX6_row_13 rfl ?_
      refine lv_iload_n hx hb dX6_row_14 rfl (lv_at hl 1 rfl) ?_
      refine lv_imul hx hb dX6_row_15 ?_
      refine lv_iload_n hx hb dX6_row_16 rfl (lv_at hl 2 rfl) ?_
      refine lv_iadd hx hb dX6_row_17 ?_
      obtain ⟨y4, ey4, hi3, hf⟩ := rdA_x hf
      refine va_iald hx hb hK hP 8 0 rfl rfl hi3 dX6_row_18 ?_
      refine lv_ren ey4 ?_
      refine lv_goto (tgt := 24) hx hb dX6_row_19 (by decide) ?_
      cases hf
      exact kri hQ hAe hx hb hr hlocks hP hD hK hS dX6_row_24
  exact main _ _ hP hD hS

def rmX6_alterRow : Room := { frames := 2, cells := 0, slots := 0, locals := 47 }
theorem hdX6_alterRow : yX6_alterRow.cls = RX6 ∧ yX6_alterRow.cls ≠ "java/lang/invoke/MethodHandle" ∧ yX6_alterRow.cls ≠ "java/lang/invoke/VarHandle" ∧ (parseMethodDescriptor yX6_alterRow.desc).map (fun d => d.parameters.length) = some 3 := by decide +kernel
set_option maxHeartbeats 40000000 in
set_option maxRecDepth 100000 in
theorem c_X6_alterRow (l : Launch) (E : Nat → Nat) (D : va_G) (C : Nat → ClassId) (e0 e1 e2 e3 e4 e5 e6 e7 e8 e9 e10 e11 e12 e13 e14 e15 : Nat) (sz : Nat) (m_s : Nat → Int32) (m_held : Nat → Int32) (m_aside : Nat → Int32) (m_before : Nat → Int32) (m_isHeld : Int32) (m_tape : Nat → Int32) (m_taped : Int32) (m_token : Int32) (m_from : Int32) (m_to : Int32) (m_value : Int32) (m_isWrong : Int32) (m_due : Nat → Int32) (m_firsts : Nat → Int32) (m_rows : Nat → Int32) (m_rowN : Int32) (m_sortOf : Nat → Int32) (m_sizeOf : Nat → Int32) (m_numbers : Nat → Int32) (m_holdsWhat : Nat → Int32) (m_holdsWhich : Nat → Int32) (m_holdsMany : Nat → Int32) (m_bodies : Nat → Int32) (m_ran : Int32) (m_actKind : Int32) (m_actN : Int32) (m_actA : Int32) (m_isParted : Int32) (x0 : Int32) (x1 : Int32) (x2 : Int32) (r : Int32) (m_rows' : Nat → Int32) (hf : f_X6_alterRow m_rows m_rowN x0 x1 x2 = some (r, m_rows')) : Met l yX6_alterRow wsX6_alterRow rmX6_alterRow (PC E D C [.ref e0, .int x0, .int x1, .int x2] (oMM C e0 e1 e2 e3 e4 e5 e6 e7 e8 e9 e10 e11 e12 e13 e14 e15 m_s m_held m_aside m_before m_isHeld m_tape m_taped m_token m_from m_to m_value m_isWrong m_due m_firsts m_rows m_rowN m_sortOf m_sizeOf m_numbers m_holdsWhat m_holdsWhich m_holdsMany m_bodies m_ran m_actKind m_actN m_actA m_isParted []) sz) (QI D C (oMM C e0 e1 e2 e3 e4 e5 e6 e7 e8 e9 e10 e11 e12 e13 e14 e15 m_s m_held m_aside m_before m_isHeld m_tape m_taped m_token m_from m_to m_value m_isWrong m_due m_firsts m_rows m_rowN m_sortOf m_sizeOf m_numbers m_holdsWhat m_holdsWhich m_holdsMany m_bodies m_ran m_actKind m_actN m_actA m_isParted []) (oMM C e0 e1 e2 e3 e4 e5 e6 e7 e8 e9 e10 e11 e12 e13 e14 e15 m_s m_held m_aside m_before m_isHeld m_tape m_taped m_token m_from m_to m_value m_isWrong m_due m_firsts (m_rows') m_rowN m_sortOf m_sizeOf m_numbers m_holdsWhat m_holdsWhich m_holdsMany m_bodies m_ran m_actKind m_actN m_actA m_isParted []) sz r) 0 0 (va_A (oMM C e0 e1 e2 e3 e4 e5 e6 e7 e8 e9 e10 e11 e12 e13 e14 e15 m_s m_held m_aside m_before m_isHeld m_tape m_taped m_token m_from m_to m_value m_isWrong m_due m_firsts m_rows m_rowN m_sortOf m_sizeOf m_numbers m_holdsWhat m_holdsWhich m_holdsMany m_bodies m_ran m_actKind m_actN m_actA m_isParted []) sz) := by
  refine Met.ofW (cc := cX6_alterRow) (maxL := 5) (ret := (some .int)) (by decide) rfl ?_
  intro p e s m args below meth c s₁ B hml hv
  obtain ⟨rfl, hsz, hP, hK, hD0, hE⟩ := hv
  have hx := B.exec
  have hb := B.bytes
  have hr := B.returns
  have hts := atoms_spec (ws := wsX6_alterRow) B.pre
  have hown : s.vm.findClass RX6 = some m.cls := findClass_of_methodNamed B.named
  have hlocks := B.notSynchronized
  subst hsz
  have hi_RX6 : ∀ w ∈ wsX60, w ∈ wsX6_alterRow := fun _ h => List.mem_cons_of_mem _ (List.mem_append_right _ h)
  have hD := hD0.self (sz := s.heap.size)
  obtain ⟨A, hAe⟩ := nm_ex (va_A (oMM C e0 e1 e2 e3 e4 e5 e6 e7 e8 e9 e10 e11 e12 e13 e14 e15 m_s m_held m_aside m_before m_isHeld m_tape m_taped m_token m_from m_to m_value m_isWrong m_due m_firsts m_rows m_rowN m_sortOf m_sizeOf m_numbers m_holdsWhat m_holdsWhich m_holdsMany m_bodies m_ran m_actKind m_actN m_actA m_isParted []) s.heap.size)
  rw [← hAe] at hD hE ⊢
  have hA : ∀ q : Nat, s.heap.size ≤ q → A q := fun q h => by rw [hAe]; exact Or.inr h
  have hS : va_S A s.heap s.heap [] := va_S.rf
  have hl := lv_entry ([.ref e0, .int x0, .int x1, .int x2]) (n := 5) (Nat.le_of_ble_eq_true rfl)
  rw [lg_entry_eq]
  generalize (lg_sl ([.ref e0, .int x0, .int x1, .int x2]) ++ List.replicate (5 - (lg_sl ([.ref e0, .int x0, .int x1, .int x2])).length) Slot.unset).toArray = ls at hl ⊢
  have hl : lv_has ls 5 [(0, .ref e0), (1, .int x0), (2, .int x1), (3, .int x2)] := hl
  obtain ⟨Q, hQ⟩ := nm_ex (MQ below (QI D C (oMM C e0 e1 e2 e3 e4 e5 e6 e7 e8 e9 e10 e11 e12 e13 e14 e15 m_s m_held m_aside m_before m_isHeld m_tape m_taped m_token m_from m_to m_value m_isWrong m_due m_firsts m_rows m_rowN m_sortOf m_sizeOf m_numbers m_holdsWhat m_holdsWhich m_holdsMany m_bodies m_ran m_actKind m_actN m_actA m_isParted []) (oMM C e0 e1 e2 e3 e4 e5 e6 e7 e8 e9 e10 e11 e12 e13 e14 e15 m_s m_held m_aside m_before m_isHeld m_tape m_taped m_token m_from m_to m_value m_isWrong m_due m_firsts (m_rows') m_rowN m_sortOf m_sizeOf m_numbers m_holdsWhat m_holdsWhich m_holdsMany m_bodies m_ran m_actKind m_actN m_actA m_isParted []) s.heap.size r) (List.toArray [Value.ref e0, Value.int x0, Value.int x1, Value.int x2]) s 0 0 A)
  show W p l e (headSpec wsX6_alterRow (rmX6_alterRow)).room s m (List.toArray [Value.ref e0, Value.int x0, Value.int x1, Value.int x2]) below meth c s.heap [] 0 0 (MQ below (QI D C (oMM C e0 e1 e2 e3 e4 e5 e6 e7 e8 e9 e10 e11 e12 e13 e14 e15 m_s m_held m_aside m_before m_isHeld m_tape m_taped m_token m_from m_to m_value m_isWrong m_due m_firsts m_rows m_rowN m_sortOf m_sizeOf m_numbers m_holdsWhat m_holdsWhich m_holdsMany m_bodies m_ran m_actKind m_actN m_actA m_isParted []) (oMM C e0 e1 e2 e3 e4 e5 e6 e7 e8 e9 e10 e11 e12 e13 e14 e15 m_s m_held m_aside m_before m_isHeld m_tape m_taped m_token m_from m_to m_value m_isWrong m_due m_firsts (m_rows') m_rowN m_sortOf m_sizeOf m_numbers m_holdsWhat m_holdsWhich m_holdsMany m_bodies m_ran m_actKind m_actN m_actA m_isParted []) s.heap.size r) (List.toArray [Value.ref e0, Value.int x0, Value.int x1, Value.int x2]) s 0 0 A) _
  rw [← hQ]
  unfold f_X6_alterRow at hf
  have main : ∀ (H : Heap) (locs : List Loc), va_P D vwCl (oMM C e0 e1 e2 e3 e4 e5 e6 e7 e8 e9 e10 e11 e12 e13 e14 e15 m_s m_held m_aside m_before m_isHeld m_tape m_taped m_token m_from m_to m_value m_isWrong m_due m_firsts m_rows m_rowN m_sortOf m_sizeOf m_numbers m_holdsWhat m_holdsWhich m_holdsMany m_bodies m_ran m_actKind m_actN m_actA m_isParted []) H → va_D A (oMM C e0 e1 e2 e3 e4 e5 e6 e7 e8 e9 e10 e11 e12 e13 e14 e15 m_s m_held m_aside m_before m_isHeld m_tape m_taped m_token m_from m_to m_value m_isWrong m_due m_firsts m_rows m_rowN m_sortOf m_sizeOf m_numbers m_holdsWhat m_holdsWhich m_holdsMany m_bodies m_ran m_actKind m_actN m_actA m_isParted []) → va_S A s.heap H locs → W p l e (headSpec wsX6_alterRow (rmX6_alterRow)).room s m (List.toArray [Value.ref e0, Value.int x0, Value.int x1, Value.int x2]) below meth c H locs 0 0 Q (F0 m 0 ls []) := by
    intro H locs hP hD hS
    refine lv_aload_n hx hb dX6_alterRow_0 rfl (lv_at hl 0 rfl) ?_
    refine lv_iload_n hx hb dX6_alterRow_1 rfl (lv_at hl 1 rfl) ?_
    refine lv_iload_n hx hb dX6_alterRow_2 rfl (lv_at hl 2 rfl) ?_
    refine kcz (Wx := (oMM C e0 e1 e2 e3 e4 e5 e6 e7 e8 e9 e10 e11 e12 e13 e14 e15 m_s m_held m_aside m_before m_isHeld m_tape m_taped m_token m_from m_to m_value m_isWrong m_due m_firsts m_rows m_rowN m_sortOf m_sizeOf m_numbers m_holdsWhat m_holdsWhich m_holdsMany m_bodies m_ran m_actKind m_actN m_actA m_isParted [])) (va_runV (As := [.int x0, .int x1]) (rest := []) ⟨hx, hb, hml, hown, hts⟩ (c_X6_isRow l E D C e0 e1 e2 e3 e4 e5 e6 e7 e8 e9 e10 e11 e12 e13 e14 e15 H.size m_s m_held m_aside m_before m_isHeld m_tape m_taped m_token m_from m_to m_value m_isWrong m_due m_firsts m_rows m_rowN m_sortOf m_sizeOf m_numbers m_holdsWhat m_holdsWhich m_holdsMany m_bodies m_ran m_actKind m_actN m_actA m_isParted x0 x1 _ rfl) (cwV 2 hts gX6_alterRow_X6_isRow rfl rfl rfl hdX6_isRow ⟨Nat.le_of_ble_eq_true rfl, Nat.le_of_ble_eq_true rfl⟩) (kpreV hP hD hK hS hE hA [0, 1, 2, 3, 4, 5, 6, 7, 8, 9, 10, 11, 12, 13, 14, 15] rfl rfl 0 rfl rfl rfl) rfl rfl hl.1 rfl (lv_room (Nat.le_of_ble_eq_true rfl)) dX6_alterRow_3 ⟨Nat.zero_le _, Nat.zero_le _⟩) hP hD hS hA [0, 1, 2, 3, 4, 5, 6, 7, 8, 9, 10, 11, 12, 13, 14, 15] rfl rfl rfl (fun H locs hz1 hP hD hS => ?_)
    refine lv_if_ne (tgt := 12) hx hb dX6_alterRow_6 (by decide) (fun c2 => ?_) (fun c2 => ?_)
    · replace hf := if_fe c2 hf
      refine lv_aload_n hx hb dX6_alterRow_12 rfl (lv_at hl 0 rfl) ?_
      refine va_get (D := D) (ci := 6) (v := .ref e8) (C := RX6) (T := TX6) (N := 28) hx hb hts hi_RX6 hown hK hP 0 rfl rfl 14 (by decide) (hts (.fieldLink RX6 31 "TravelMarksModel" "rows" "[I") (List.mem_of_getElem? (i := 1) rfl)) (fun _ h9 => h9) rfl dX6_alterRow_13 ?_
      refine lv_iconst (v := 3) hx hb dX6_alterRow_16 rfl ?_
      refine lv_iload_n hx hb dX6_alterRow_17 rfl (lv_at hl 1 rfl) ?_
      refine lv_imul hx hb dX6_alterRow_18 ?_
      refine lv_iload_n hx hb dX6_alterRow_19 rfl (lv_at hl 2 rfl) ?_
      refine lv_iadd hx hb dX6_alterRow_20 ?_
      obtain ⟨y4, ey4, hi3, hf⟩ := rdA_x hf
      refine va_iald hx hb hK hP 8 0 rfl rfl hi3 dX6_alterRow_21 ?_
      refine lv_ren ey4 ?_
      refine lv_istore (lv' := [(4, .int y4), (0, .ref e0), (1, .int x0), (2, .int x1), (3, .int x2)]) hx hb dX6_alterRow_22 hl (by decide) rfl (fun ls hl => ?_)
      refine lv_aload_n hx hb dX6_alterRow_24 rfl (lv_at hl 1 rfl) ?_
      refine va_get (D := D) (ci := 6) (v := .ref e8) (C := RX6) (T := TX6) (N := 28) hx hb hts hi_RX6 hown hK hP 0 rfl rfl 14 (by decide) (hts (.fieldLink RX6 31 "TravelMarksModel" "rows" "[I") (List.mem_of_getElem? (i := 1) rfl)) (fun _ h9 => h9) rfl dX6_alterRow_25 ?_
      refine lv_iconst (v := 3) hx hb dX6_alterRow_28 rfl ?_
      refine lv_iload_n hx hb dX6_alterRow_29 rfl (lv_at hl 2 rfl) ?_
      refine lv_imul hx hb dX6_alterRow_30 ?_
      refine lv_iload_n hx hb dX6_alterRow_31 rfl (lv_at hl 3 rfl) ?_
      refine lv_iadd hx hb dX6_alterRow_32 ?_
      refine lv_iload_n hx hb dX6_alterRow_33 rfl (lv_at hl 4 rfl) ?_
      obtain ⟨hi5, hf⟩ := ckA_e hf
      refine va_iast hx hb hK hP hD hS 8 0 rfl rfl hi5 dX6_alterRow_34 (fun H locs hP hD hS => ?_)
      obtain ⟨v6, ev6, hf⟩ := lj_e hf
      have hP : va_P D vwCl (oMM C e0 e1 e2 e3 e4 e5 e6 e7 e8 e9 e10 e11 e12 e13 e14 e15 m_s m_held m_aside m_before m_isHeld m_tape m_taped m_token m_from m_to m_value m_isWrong m_due m_firsts v6 m_rowN m_sortOf m_sizeOf m_numbers m_holdsWhat m_holdsWhich m_holdsMany m_bodies m_ran m_actKind m_actN m_actA m_isParted []) H := by rw [ev6]; exact hP
      have hD : va_D A (oMM C e0 e1 e2 e3 e4 e5 e6 e7 e8 e9 e10 e11 e12 e13 e14 e15 m_s m_held m_aside m_before m_isHeld m_tape m_taped m_token m_from m_to m_value m_isWrong m_due m_firsts v6 m_rowN m_sortOf m_sizeOf m_numbers m_holdsWhat m_holdsWhich m_holdsMany m_bodies m_ran m_actKind m_actN m_actA m_isParted []) := by rw [ev6]; exact hD
      refine lv_iload hx hb dX6_alterRow_35 (lv_at hl 0 rfl) ?_
      cases hf
      exact kri hQ hAe hx hb hr hlocks hP hD hK hS dX6_alterRow_37
    · replace hf := if_te c2 hf
      refine lv_bipush (v := (-9)) hx hb dX6_alterRow_9 rfl ?_
      cases hf
      exact kri hQ hAe hx hb hr hlocks hP hD hK hS dX6_alterRow_11
  exact main _ _ hP hD hS

def rmX6_judge : Room := { frames := 6, cells := 0, slots := 0, locals := 142 }
theorem hdX6_judge : yX6_judge.cls = RX6 ∧ yX6_judge.cls ≠ "java/lang/invoke/MethodHandle" ∧ yX6_judge.cls ≠ "java/lang/invoke/VarHandle" ∧ (parseMethodDescriptor yX6_judge.desc).map (fun d => d.parameters.length) = some 1 := by decide +kernel
set_option maxHeartbeats 40000000 in
set_option maxRecDepth 100000 in
theorem c_X6_judge (l : Launch) (E : Nat → Nat) (D : va_G) (C : Nat → ClassId) (e0 e1 e2 e3 e4 e5 e6 e7 e8 e9 e10 e11 e12 e13 e14 e15 : Nat) (sz : Nat) (N : Nat) (m_s : Nat → Int32) (m_held : Nat → Int32) (m_aside : Nat → Int32) (m_before : Nat → Int32) (m_isHeld : Int32) (m_tape : Nat → Int32) (m_taped : Int32) (m_token : Int32) (m_from : Int32) (m_to : Int32) (m_value : Int32) (m_isWrong : Int32) (m_due : Nat → Int32) (m_firsts : Nat → Int32) (m_rows : Nat → Int32) (m_rowN : Int32) (m_sortOf : Nat → Int32) (m_sizeOf : Nat → Int32) (m_numbers : Nat → Int32) (m_holdsWhat : Nat → Int32) (m_holdsWhich : Nat → Int32) (m_holdsMany : Nat → Int32) (m_bodies : Nat → Int32) (m_ran : Int32) (m_actKind : Int32) (m_actN : Int32) (m_actA : Int32) (m_isParted : Int32) (x0 : Int32) (r : Int32) (m_s' : Nat → Int32) (m_aside' : Nat → Int32) (hf : f_X6_judge N m_s m_aside m_rows m_rowN x0 = some (r, m_s', m_aside')) : Met l yX6_judge wsX6_judge rmX6_judge (PC E D C [.ref e0, .int x0] (oMM C e0 e1 e2 e3 e4 e5 e6 e7 e8 e9 e10 e11 e12 e13 e14 e15 m_s m_held m_aside m_before m_isHeld m_tape m_taped m_token m_from m_to m_value m_isWrong m_due m_firsts m_rows m_rowN m_sortOf m_sizeOf m_numbers m_holdsWhat m_holdsWhich m_holdsMany m_bodies m_ran m_actKind m_actN m_actA m_isParted []) sz) (QI D C (oMM C e0 e1 e2 e3 e4 e5 e6 e7 e8 e9 e10 e11 e12 e13 e14 e15 m_s m_held m_aside m_before m_isHeld m_tape m_taped m_token m_from m_to m_value m_isWrong m_due m_firsts m_rows m_rowN m_sortOf m_sizeOf m_numbers m_holdsWhat m_holdsWhich m_holdsMany m_bodies m_ran m_actKind m_actN m_actA m_isParted []) (oMM C e0 e1 e2 e3 e4 e5 e6 e7 e8 e9 e10 e11 e12 e13 e14 e15 (m_s') m_held (m_aside') m_before m_isHeld m_tape m_taped m_token m_from m_to m_value m_isWrong m_due m_firsts m_rows m_rowN m_sortOf m_sizeOf m_numbers m_holdsWhat m_holdsWhich m_holdsMany m_bodies m_ran m_actKind m_actN m_actA m_isParted []) sz r) 0 0 (va_A (oMM C e0 e1 e2 e3 e4 e5 e6 e7 e8 e9 e10 e11 e12 e13 e14 e15 m_s m_held m_aside m_before m_isHeld m_tape m_taped m_token m_from m_to m_value m_isWrong m_due m_firsts m_rows m_rowN m_sortOf m_sizeOf m_numbers m_holdsWhat m_holdsWhich m_holdsMany m_bodies m_ran m_actKind m_actN m_actA m_isParted []) sz) := by
  refine Met.ofW (cc := cX6_judge) (maxL := 4) (ret := (some .int)) (by decide) rfl ?_
  intro p e s m args below meth c s₁ B hml hv
  obtain ⟨rfl, hsz, hP, hK, hD0, hE⟩ := hv
  have hx := B.exec
  have hb := B.bytes
  have hr := B.returns
  have hts := atoms_spec (ws := wsX6_judge) B.pre
  have hown : s.vm.findClass RX6 = some m.cls := findClass_of_methodNamed B.named
  have hlocks := B.notSynchronized
  subst hsz
  have hi_RX6 : ∀ w ∈ wsX60, w ∈ wsX6_judge := fun _ h => List.mem_cons_of_mem _ (List.mem_append_right _ h)
  have hD := hD0.self (sz := s.heap.size)
  obtain ⟨A, hAe⟩ := nm_ex (va_A (oMM C e0 e1 e2 e3 e4 e5 e6 e7 e8 e9 e10 e11 e12 e13 e14 e15 m_s m_held m_aside m_before m_isHeld m_tape m_taped m_token m_from m_to m_value m_isWrong m_due m_firsts m_rows m_rowN m_sortOf m_sizeOf m_numbers m_holdsWhat m_holdsWhich m_holdsMany m_bodies m_ran m_actKind m_actN m_actA m_isParted []) s.heap.size)
  rw [← hAe] at hD hE ⊢
  have hA : ∀ q : Nat, s.heap.size ≤ q → A q := fun q h => by rw [hAe]; exact Or.inr h
  have hS : va_S A s.heap s.heap [] := va_S.rf
  have hl := lv_entry ([.ref e0, .int x0]) (n := 4) (Nat.le_of_ble_eq_true rfl)
  rw [lg_entry_eq]
  generalize (lg_sl ([.ref e0, .int x0]) ++ List.replicate (4 - (lg_sl ([.ref e0, .int x0])).length) Slot.unset).toArray = ls at hl ⊢
  have hl : lv_has ls 4 [(0, .ref e0), (1, .int x0)] := hl
  obtain ⟨Q, hQ⟩ := nm_ex (MQ below (QI D C (oMM C e0 e1 e2 e3 e4 e5 e6 e7 e8 e9 e10 e11 e12 e13 e14 e15 m_s m_held m_aside m_before m_isHeld m_tape m_taped m_token m_from m_to m_value m_isWrong m_due m_firsts m_rows m_rowN m_sortOf m_sizeOf m_numbers m_holdsWhat m_holdsWhich m_holdsMany m_bodies m_ran m_actKind m_actN m_actA m_isParted []) (oMM C e0 e1 e2 e3 e4 e5 e6 e7 e8 e9 e10 e11 e12 e13 e14 e15 (m_s') m_held (m_aside') m_before m_isHeld m_tape m_taped m_token m_from m_to m_value m_isWrong m_due m_firsts m_rows m_rowN m_sortOf m_sizeOf m_numbers m_holdsWhat m_holdsWhich m_holdsMany m_bodies m_ran m_actKind m_actN m_actA m_isParted []) s.heap.size r) (List.toArray [Value.ref e0, Value.int x0]) s 0 0 A)
  show W p l e (headSpec wsX6_judge (rmX6_judge)).room s m (List.toArray [Value.ref e0, Value.int x0]) below meth c s.heap [] 0 0 (MQ below (QI D C (oMM C e0 e1 e2 e3 e4 e5 e6 e7 e8 e9 e10 e11 e12 e13 e14 e15 m_s m_held m_aside m_before m_isHeld m_tape m_taped m_token m_from m_to m_value m_isWrong m_due m_firsts m_rows m_rowN m_sortOf m_sizeOf m_numbers m_holdsWhat m_holdsWhich m_holdsMany m_bodies m_ran m_actKind m_actN m_actA m_isParted []) (oMM C e0 e1 e2 e3 e4 e5 e6 e7 e8 e9 e10 e11 e12 e13 e14 e15 (m_s') m_held (m_aside') m_before m_isHeld m_tape m_taped m_token m_from m_to m_value m_isWrong m_due m_firsts m_rows m_rowN m_sortOf m_sizeOf m_numbers m_holdsWhat m_holdsWhich m_holdsMany m_bodies m_ran m_actKind m_actN m_actA m_isParted []) s.heap.size r) (List.toArray [Value.ref e0, Value.int x0]) s 0 0 A) _
  rw [← hQ]
  unfold f_X6_judge at hf
  have main : ∀ (H : Heap) (locs : List Loc), va_P D vwCl (oMM C e0 e1 e2 e3 e4 e5 e6 e7 e8 e9 e10 e11 e12 e13 e14 e15 m_s m_held m_aside m_before m_isHeld m_tape m_taped m_token m_from m_to m_value m_isWrong m_due m_firsts m_rows m_rowN m_sortOf m_sizeOf m_numbers m_holdsWhat m_holdsWhich m_holdsMany m_bodies m_ran m_actKind m_actN m_actA m_isParted []) H → va_D A (oMM C e0 e1 e2 e3 e4 e5 e6 e7 e8 e9 e10 e11 e12 e13 e14 e15 m_s m_held m_aside m_before m_isHeld m_tape m_taped m_token m_from m_to m_value m_isWrong m_due m_firsts m_rows m_rowN m_sortOf m_sizeOf m_numbers m_holdsWhat m_holdsWhich m_holdsMany m_bodies m_ran m_actKind m_actN m_actA m_isParted []) → va_S A s.heap H locs → W p l e (headSpec wsX6_judge (rmX6_judge)).room s m (List.toArray [Value.ref e0, Value.int x0]) below meth c H locs 0 0 Q (F0 m 0 ls []) := by
    intro H locs hP hD hS
    refine lv_aload_n hx hb dX6_judge_0 rfl (lv_at hl 0 rfl) ?_
    refine lv_iload_n hx hb dX6_judge_1 rfl (lv_at hl 1 rfl) ?_
    refine kcz (Wx := (oMM C e0 e1 e2 e3 e4 e5 e6 e7 e8 e9 e10 e11 e12 e13 e14 e15 m_s m_held m_aside m_before m_isHeld m_tape m_taped m_token m_from m_to m_value m_isWrong m_due m_firsts m_rows m_rowN m_sortOf m_sizeOf m_numbers m_holdsWhat m_holdsWhich m_holdsMany m_bodies m_ran m_actKind m_actN m_actA m_isParted [])) (va_runV (As := [.int x0]) (rest := []) ⟨hx, hb, hml, hown, hts⟩ (c_X6_isOne l E D C e0 e1 e2 e3 e4 e5 e6 e7 e8 e9 e10 e11 e12 e13 e14 e15 H.size m_s m_held m_aside m_before m_isHeld m_tape m_taped m_token m_from m_to m_value m_isWrong m_due m_firsts m_rows m_rowN m_sortOf m_sizeOf m_numbers m_holdsWhat m_holdsWhich m_holdsMany m_bodies m_ran m_actKind m_actN m_actA m_isParted x0 _ rfl) (cwV 1 hts gX6_judge_X6_isOne rfl rfl rfl hdX6_isOne ⟨Nat.le_of_ble_eq_true rfl, Nat.le_of_ble_eq_true rfl⟩) (kpreV hP hD hK hS hE hA [0, 1, 2, 3, 4, 5, 6, 7, 8, 9, 10, 11, 12, 13, 14, 15] rfl rfl 0 rfl rfl rfl) rfl rfl hl.1 rfl (lv_room (Nat.le_of_ble_eq_true rfl)) dX6_judge_2 ⟨Nat.zero_le _, Nat.zero_le _⟩) hP hD hS hA [0, 1, 2, 3, 4, 5, 6, 7, 8, 9, 10, 11, 12, 13, 14, 15] rfl rfl rfl (fun H locs hz1 hP hD hS => ?_)
    refine lv_if_ne (tgt := 10) hx hb dX6_judge_5 (by decide) (fun c2 => ?_) (fun c2 => ?_)
    · replace hf := if_fe c2 hf
      refine lv_aload_n hx hb dX6_judge_10 rfl (lv_at hl 0 rfl) ?_
      refine va_get (D := D) (ci := 6) (v := .ref e1) (C := RX6) (T := TX6) (N := 28) hx hb hts hi_RX6 hown hK hP 0 rfl rfl 0 (by decide) (hts (.fieldLink RX6 7 "TravelMarksModel" "s" "[I") (List.mem_of_getElem? (i := 1) rfl)) (fun _ h9 => h9) rfl dX6_judge_11 ?_
      refine lv_aload_n hx hb dX6_judge_14 rfl (lv_at hl 0 rfl) ?_
      refine va_get (D := D) (ci := 6) (v := .ref e3) (C := RX6) (T := TX6) (N := 28) hx hb hts hi_RX6 hown hK hP 0 rfl rfl 2 (by decide) (hts (.fieldLink RX6 16 "TravelMarksModel" "aside" "[I") (List.mem_of_getElem? (i := 2) rfl)) (fun _ h9 => h9) rfl dX6_judge_15 ?_
      obtain ⟨v3, h4, hf⟩ := ob1_e hf
      refine kcv (Wx := (oMM C e0 e1 e2 e3 e4 e5 e6 e7 e8 e9 e10 e11 e12 e13 e14 e15 m_s m_held v3 m_before m_isHeld m_tape m_taped m_token m_from m_to m_value m_isWrong m_due m_firsts m_rows m_rowN m_sortOf m_sizeOf m_numbers m_holdsWhat m_holdsWhich m_holdsMany m_bodies m_ran m_actKind m_actN m_actA m_isParted [])) (va_runS (As := [.ref e1, .ref e3]) (rest := []) ⟨hx, hb, hml, hown, hts⟩ (c_X6_copyRow l E D C e1 e3 H.size N m_s m_aside v3 h4) (va_cwS 2 hts gX6_judge_X6_copyRow rfl rfl rfl hdX6_copyRow ⟨Nat.le_of_ble_eq_true rfl, Nat.le_of_ble_eq_true rfl⟩) (kpre hP hD hK hS hE hA [1, 3] rfl rfl) rfl rfl hl.1 rfl (lv_room (Nat.le_of_ble_eq_true rfl)) dX6_judge_18 ⟨Nat.zero_le _, Nat.zero_le _⟩) hP hD hS hA [1, 3] rfl rfl rfl (fun H locs hP hD hS => ?_)
      refine lv_iconst (v := 0) hx hb dX6_judge_21 rfl ?_
      refine lv_istore_n (lv' := [(2, .int 0), (0, .ref e0), (1, .int x0)]) hx hb dX6_judge_22 rfl hl (by decide) rfl (fun ls hl => ?_)
      refine lv_iconst (v := 1) hx hb dX6_judge_23 rfl ?_
      refine lv_istore_n (lv' := [(3, .int 1), (2, .int 0), (0, .ref e0), (1, .int x0)]) hx hb dX6_judge_24 rfl hl (by decide) rfl (fun ls hl => ?_)
      obtain ⟨j8, hj8, hf⟩ := lj_e hf
      have Hj8 : ∀ (i5 : Int32) (i6 : Int32) (v7 : Nat → Int32) (H : Heap) (locs : List Loc) (ls : Array Slot), va_P D vwCl (oMM C e0 e1 e2 e3 e4 e5 e6 e7 e8 e9 e10 e11 e12 e13 e14 e15 v7 m_held v3 m_before m_isHeld m_tape m_taped m_token m_from m_to m_value m_isWrong m_due m_firsts m_rows m_rowN m_sortOf m_sizeOf m_numbers m_holdsWhat m_holdsWhich m_holdsMany m_bodies m_ran m_actKind m_actN m_actA m_isParted []) H → va_D A (oMM C e0 e1 e2 e3 e4 e5 e6 e7 e8 e9 e10 e11 e12 e13 e14 e15 v7 m_held v3 m_before m_isHeld m_tape m_taped m_token m_from m_to m_value m_isWrong m_due m_firsts m_rows m_rowN m_sortOf m_sizeOf m_numbers m_holdsWhat m_holdsWhich m_holdsMany m_bodies m_ran m_actKind m_actN m_actA m_isParted []) → va_S A s.heap H locs → lv_has ls 4 [(3, .int i5), (2, .int i6), (0, .ref e0)] → j8 i5 i6 v7 = some (r, m_s', m_aside') → W p l e (headSpec wsX6_judge (rmX6_judge)).room s m (List.toArray [Value.ref e0, Value.int x0]) below meth c H locs 0 0 Q (F0 m 106 ls []) := by
        intro i5 i6 v7 H locs ls hP hD hS hl hf
        rw [hj8] at hf
        refine lv_aload_n hx hb dX6_judge_106 rfl (lv_at hl 2 rfl) ?_
        refine va_get (D := D) (ci := 6) (v := .ref e3) (C := RX6) (T := TX6) (N := 28) hx hb hts hi_RX6 hown hK hP 0 rfl rfl 2 (by decide) (hts (.fieldLink RX6 16 "TravelMarksModel" "aside" "[I") (List.mem_of_getElem? (i := 2) rfl)) (fun _ h9 => h9) rfl dX6_judge_107 ?_
        refine lv_aload_n hx hb dX6_judge_110 rfl (lv_at hl 2 rfl) ?_
        refine va_get (D := D) (ci := 6) (v := .ref e1) (C := RX6) (T := TX6) (N := 28) hx hb hts hi_RX6 hown hK hP 0 rfl rfl 0 (by decide) (hts (.fieldLink RX6 7 "TravelMarksModel" "s" "[I") (List.mem_of_getElem? (i := 1) rfl)) (fun _ h9 => h9) rfl dX6_judge_111 ?_
        obtain ⟨v9, h10, hf⟩ := ob1_e hf
        refine kcv (Wx := (oMM C e0 e1 e2 e3 e4 e5 e6 e7 e8 e9 e10 e11 e12 e13 e14 e15 v9 m_held v3 m_before m_isHeld m_tape m_taped m_token m_from m_to m_value m_isWrong m_due m_firsts m_rows m_rowN m_sortOf m_sizeOf m_numbers m_holdsWhat m_holdsWhich m_holdsMany m_bodies m_ran m_actKind m_actN m_actA m_isParted [])) (va_runS (As := [.ref e3, .ref e1]) (rest := []) ⟨hx, hb, hml, hown, hts⟩ (c_X6_copyRow l E D C e3 e1 H.size N v3 v7 v9 h10) (va_cwS 2 hts gX6_judge_X6_copyRow rfl rfl rfl hdX6_copyRow ⟨Nat.le_of_ble_eq_true rfl, Nat.le_of_ble_eq_true rfl⟩) (kpre hP hD hK hS hE hA [3, 1] rfl rfl) rfl rfl hl.1 rfl (lv_room (Nat.le_of_ble_eq_true rfl)) dX6_judge_114 ⟨Nat.zero_le _, Nat.zero_le _⟩) hP hD hS hA [3, 1] rfl rfl rfl (fun H locs hP hD hS => ?_)
        refine lv_iload_n hx hb dX6_judge_117 rfl (lv_at hl 0 rfl) ?_
        refine lv_if_eq (tgt := 125) hx hb dX6_judge_118 (by decide) (fun c11 => ?_) (fun c11 => ?_)
        · replace hf := if_te c11 hf
          refine lv_iload_n hx hb dX6_judge_125 rfl (lv_at hl 1 rfl) ?_
          cases hf
          exact kri hQ hAe hx hb hr hlocks hP hD hK hS dX6_judge_126
        · replace hf := if_fe c11 hf
          refine lv_iconst (v := 0) hx hb dX6_judge_121 rfl ?_
          refine lv_goto (tgt := 126) hx hb dX6_judge_122 (by decide) ?_
          cases hf
          exact kri hQ hAe hx hb hr hlocks hP hD hK hS dX6_judge_126
      have hL25 : ∀ (n : Nat) (i12 : Int32) (i13 : Int32) (v14 : Nat → Int32) (H : Heap) (locs : List Loc) (ls : Array Slot), va_P D vwCl (oMM C e0 e1 e2 e3 e4 e5 e6 e7 e8 e9 e10 e11 e12 e13 e14 e15 v14 m_held v3 m_before m_isHeld m_tape m_taped m_token m_from m_to m_value m_isWrong m_due m_firsts m_rows m_rowN m_sortOf m_sizeOf m_numbers m_holdsWhat m_holdsWhich m_holdsMany m_bodies m_ran m_actKind m_actN m_actA m_isParted []) H → va_D A (oMM C e0 e1 e2 e3 e4 e5 e6 e7 e8 e9 e10 e11 e12 e13 e14 e15 v14 m_held v3 m_before m_isHeld m_tape m_taped m_token m_from m_to m_value m_isWrong m_due m_firsts m_rows m_rowN m_sortOf m_sizeOf m_numbers m_holdsWhat m_holdsWhich m_holdsMany m_bodies m_ran m_actKind m_actN m_actA m_isParted []) → va_S A s.heap H locs → lv_has ls 4 [(3, .int i12), (2, .int i13), (0, .ref e0), (1, .int x0)] → f_X6_judge_L25 N m_rows m_rowN x0 j8 n i12 i13 v14 = some (r, m_s', m_aside') → W p l e (headSpec wsX6_judge (rmX6_judge)).room s m (List.toArray [Value.ref e0, Value.int x0]) below meth c H locs 0 0 Q (F0 m 25 ls []) := by
        intro n
        induction n with
        | zero =>
          intro i12 i13 v14 H locs ls hP hD hS hl hf
          exact absurd hf (fun h => by cases h)
        | succ n ih =>
          intro i12 i13 v14 H locs ls hP hD hS hl hf
          rw [f_X6_judge_L25] at hf
          refine lv_iload_n hx hb dX6_judge_25 rfl (lv_at hl 1 rfl) ?_
          refine lv_aload_n hx hb dX6_judge_26 rfl (lv_at hl 2 rfl) ?_
          refine va_get (D := D) (ci := 6) (v := .int m_rowN) (C := RX6) (T := TX6) (N := 28) hx hb hts hi_RX6 hown hK hP 0 rfl rfl 15 (by decide) (hts (.fieldLink RX6 153 "TravelMarksModel" "rowN" "I") (List.mem_of_getElem? (i := 3) rfl)) (fun _ h9 => h9) rfl dX6_judge_27 ?_
          refine lv_icmp_ge (tgt := 106) hx hb dX6_judge_30 (by decide) (fun c15 => ?_) (fun c15 => ?_)
          · replace hf := if_te c15 hf
            exact Hj8 i12 i13 v14 H locs ls hP hD hS (lv_sub hl [0, 1, 2] rfl) hf
          · replace hf := if_fe c15 hf
            refine lv_iload_n hx hb dX6_judge_33 rfl (lv_at hl 0 rfl) ?_
            refine lv_if_eq (tgt := 106) hx hb dX6_judge_34 (by decide) (fun c16 => ?_) (fun c16 => ?_)
            · replace hf := if_te c16 hf
              exact Hj8 i12 i13 v14 H locs ls hP hD hS (lv_sub hl [0, 1, 2] rfl) hf
            · replace hf := if_fe c16 hf
              refine lv_aload_n hx hb dX6_judge_37 rfl (lv_at hl 2 rfl) ?_
              refine va_get (D := D) (ci := 6) (v := .ref e8) (C := RX6) (T := TX6) (N := 28) hx hb hts hi_RX6 hown hK hP 0 rfl rfl 14 (by decide) (hts (.fieldLink RX6 31 "TravelMarksModel" "rows" "[I") (List.mem_of_getElem? (i := 4) rfl)) (fun _ h9 => h9) rfl dX6_judge_38 ?_
              refine lv_iconst (v := 3) hx hb dX6_judge_41 rfl ?_
              refine lv_iload_n hx hb dX6_judge_42 rfl (lv_at hl 1 rfl) ?_
              refine lv_imul hx hb dX6_judge_43 ?_
              refine lv_iconst (v := 2) hx hb dX6_judge_44 rfl ?_
              refine lv_iadd hx hb dX6_judge_45 ?_
              obtain ⟨y18, ey18, hi17, hf⟩ := rdA_x hf
              refine va_iald hx hb hK hP 8 0 rfl rfl hi17 dX6_judge_46 ?_
              refine lv_ren ey18 ?_
              refine lv_aload_n hx hb dX6_judge_47 rfl (lv_at hl 2 rfl) ?_
              obtain ⟨r19, v20, h21, hf⟩ := ob2_e hf
              refine kci (Wx := (oMM C e0 e1 e2 e3 e4 e5 e6 e7 e8 e9 e10 e11 e12 e13 e14 e15 v20 m_held v3 m_before m_isHeld m_tape m_taped m_token m_from m_to m_value m_isWrong m_due m_firsts m_rows m_rowN m_sortOf m_sizeOf m_numbers m_holdsWhat m_holdsWhich m_holdsMany m_bodies m_ran m_actKind m_actN m_actA m_isParted [])) (va_runV (As := []) (rest := [.int y18]) ⟨hx, hb, hml, hown, hts⟩ (c_X6_goesOn l E D C e0 e1 e2 e3 e4 e5 e6 e7 e8 e9 e10 e11 e12 e13 e14 e15 H.size N v14 m_held v3 m_before m_isHeld m_tape m_taped m_token m_from m_to m_value m_isWrong m_due m_firsts m_rows m_rowN m_sortOf m_sizeOf m_numbers m_holdsWhat m_holdsWhich m_holdsMany m_bodies m_ran m_actKind m_actN m_actA m_isParted r19 v20 h21) (cwV 0 hts gX6_judge_X6_goesOn rfl rfl rfl hdX6_goesOn ⟨Nat.le_of_ble_eq_true rfl, Nat.le_of_ble_eq_true rfl⟩) (kpreV hP hD hK hS hE hA [0, 1, 2, 3, 4, 5, 6, 7, 8, 9, 10, 11, 12, 13, 14, 15] rfl rfl 0 rfl rfl rfl) rfl rfl hl.1 rfl (lv_room (Nat.le_of_ble_eq_true rfl)) dX6_judge_48 ⟨Nat.zero_le _, Nat.zero_le _⟩) hP hD hS hA [0, 1, 2, 3, 4, 5, 6, 7, 8, 9, 10, 11, 12, 13, 14, 15] rfl rfl rfl (fun H locs hP hD hS => ?_)
              refine lv_iload_n hx hb dX6_judge_51 rfl (lv_at hl 3 rfl) ?_
              refine lv_ishr hx hb dX6_judge_52 ?_
              refine lv_iconst (v := 1) hx hb dX6_judge_53 rfl ?_
              refine lv_iand hx hb dX6_judge_54 ?_
              obtain ⟨j23, hj23, hf⟩ := lj_e hf
              have Hj23 : ∀ (k22 : Int32) (H : Heap) (locs : List Loc) (ls : Array Slot), va_P D vwCl (oMM C e0 e1 e2 e3 e4 e5 e6 e7 e8 e9 e10 e11 e12 e13 e14 e15 v20 m_held v3 m_before m_isHeld m_tape m_taped m_token m_from m_to m_value m_isWrong m_due m_firsts m_rows m_rowN m_sortOf m_sizeOf m_numbers m_holdsWhat m_holdsWhich m_holdsMany m_bodies m_ran m_actKind m_actN m_actA m_isParted []) H → va_D A (oMM C e0 e1 e2 e3 e4 e5 e6 e7 e8 e9 e10 e11 e12 e13 e14 e15 v20 m_held v3 m_before m_isHeld m_tape m_taped m_token m_from m_to m_value m_isWrong m_due m_firsts m_rows m_rowN m_sortOf m_sizeOf m_numbers m_holdsWhat m_holdsWhich m_holdsMany m_bodies m_ran m_actKind m_actN m_actA m_isParted []) → va_S A s.heap H locs → lv_has ls 4 [(2, .int i13), (0, .ref e0), (1, .int x0)] → j23 k22 = some (r, m_s', m_aside') → W p l e (headSpec wsX6_judge (rmX6_judge)).room s m (List.toArray [Value.ref e0, Value.int x0]) below meth c H locs 0 0 Q (F0 m 99 ls [.int k22]) := by
                intro k22 H locs ls hP hD hS hl hf
                rw [hj23] at hf
                refine lv_istore_n (lv' := [(3, .int k22), (2, .int i13), (0, .ref e0), (1, .int x0)]) hx hb dX6_judge_99 rfl hl (by decide) rfl (fun ls hl => ?_)
                obtain ⟨t24, et24, hf⟩ := lj_e hf
                refine lv_iinc (v := t24) (lv' := [(2, .int t24), (3, .int k22), (0, .ref e0), (1, .int x0)]) hx hb dX6_judge_100 hl (k := 1) rfl (by rw [et24]; rfl) (by decide) rfl (fun ls hl => ?_)
                refine lv_goto (tgt := 25) hx hb dX6_judge_103 (by decide) ?_
                exact ih k22 t24 v20 H locs ls hP hD hS (lv_sub hl [1, 0, 2, 3] rfl) hf
              obtain ⟨j25, hj25, hf⟩ := lj_e hf
              have Hj25 : ∀ (H : Heap) (locs : List Loc) (ls : Array Slot), va_P D vwCl (oMM C e0 e1 e2 e3 e4 e5 e6 e7 e8 e9 e10 e11 e12 e13 e14 e15 v20 m_held v3 m_before m_isHeld m_tape m_taped m_token m_from m_to m_value m_isWrong m_due m_firsts m_rows m_rowN m_sortOf m_sizeOf m_numbers m_holdsWhat m_holdsWhich m_holdsMany m_bodies m_ran m_actKind m_actN m_actA m_isParted []) H → va_D A (oMM C e0 e1 e2 e3 e4 e5 e6 e7 e8 e9 e10 e11 e12 e13 e14 e15 v20 m_held v3 m_before m_isHeld m_tape m_taped m_token m_from m_to m_value m_isWrong m_due m_firsts m_rows m_rowN m_sortOf m_sizeOf m_numbers m_holdsWhat m_holdsWhich m_holdsMany m_bodies m_ran m_actKind m_actN m_actA m_isParted []) → va_S A s.heap H locs → lv_has ls 4 [(2, .int i13), (0, .ref e0), (1, .int x0)] → j25 = some (r, m_s', m_aside') → W p l e (headSpec wsX6_judge (rmX6_judge)).room s m (List.toArray [Value.ref e0, Value.int x0]) below meth c H locs 0 0 Q (F0 m 98 ls []) := by
                intro H locs ls hP hD hS hl hf
                rw [hj25] at hf
                refine lv_iconst (v := 0) hx hb dX6_judge_98 rfl ?_
                exact Hj23 0 H locs ls hP hD hS (lv_sub hl [0, 1, 2] rfl) hf
              refine lv_icmp_ne (tgt := 98) hx hb dX6_judge_55 (by decide) (fun c26 => ?_) (fun c26 => ?_)
              · replace hf := if_fe c26 hf
                exact Hj25 H locs ls hP hD hS (lv_sub hl [1, 2, 3] rfl) hf
              · replace hf := if_te c26 hf
                refine lv_aload_n hx hb dX6_judge_58 rfl (lv_at hl 2 rfl) ?_
                refine va_get (D := D) (ci := 6) (v := .ref e8) (C := RX6) (T := TX6) (N := 28) hx hb hts hi_RX6 hown hK hP 0 rfl rfl 14 (by decide) (hts (.fieldLink RX6 31 "TravelMarksModel" "rows" "[I") (List.mem_of_getElem? (i := 4) rfl)) (fun _ h9 => h9) rfl dX6_judge_59 ?_
                refine lv_iconst (v := 3) hx hb dX6_judge_62 rfl ?_
                refine lv_iload_n hx hb dX6_judge_63 rfl (lv_at hl 1 rfl) ?_
                refine lv_imul hx hb dX6_judge_64 ?_
                obtain ⟨y28, ey28, hi27, hf⟩ := rdA_x hf
                refine va_iald hx hb hK hP 8 0 rfl rfl hi27 dX6_judge_65 ?_
                refine lv_ren ey28 ?_
                refine lv_aload_n hx hb dX6_judge_66 rfl (lv_at hl 2 rfl) ?_
                refine lv_iload_n hx hb dX6_judge_67 rfl (lv_at hl 3 rfl) ?_
                refine lv_iconst (v := 2) hx hb dX6_judge_68 rfl ?_
                obtain ⟨r29, h30, hf⟩ := ob1_e hf
                refine kci (Wx := (oMM C e0 e1 e2 e3 e4 e5 e6 e7 e8 e9 e10 e11 e12 e13 e14 e15 v20 m_held v3 m_before m_isHeld m_tape m_taped m_token m_from m_to m_value m_isWrong m_due m_firsts m_rows m_rowN m_sortOf m_sizeOf m_numbers m_holdsWhat m_holdsWhich m_holdsMany m_bodies m_ran m_actKind m_actN m_actA m_isParted [])) (va_runV (As := [.int x0, .int 2]) (rest := [.int y28]) ⟨hx, hb, hml, hown, hts⟩ (c_X6_its l E D C e0 e1 e2 e3 e4 e5 e6 e7 e8 e9 e10 e11 e12 e13 e14 e15 H.size v20 m_held v3 m_before m_isHeld m_tape m_taped m_token m_from m_to m_value m_isWrong m_due m_firsts m_rows m_rowN m_sortOf m_sizeOf m_numbers m_holdsWhat m_holdsWhich m_holdsMany m_bodies m_ran m_actKind m_actN m_actA m_isParted x0 2 r29 h30) (cwV 2 hts gX6_judge_X6_its rfl rfl rfl hdX6_its ⟨Nat.le_of_ble_eq_true rfl, Nat.le_of_ble_eq_true rfl⟩) (kpreV hP hD hK hS hE hA [0, 1, 2, 3, 4, 5, 6, 7, 8, 9, 10, 11, 12, 13, 14, 15] rfl rfl 0 rfl rfl rfl) rfl rfl hl.1 rfl (lv_room (Nat.le_of_ble_eq_true rfl)) dX6_judge_69 ⟨Nat.zero_le _, Nat.zero_le _⟩) hP hD hS hA [0, 1, 2, 3, 4, 5, 6, 7, 8, 9, 10, 11, 12, 13, 14, 15] rfl rfl rfl (fun H locs hP hD hS => ?_)
                refine lv_icmp_ne (tgt := 98) hx hb dX6_judge_72 (by decide) (fun c31 => ?_) (fun c31 => ?_)
                · replace hf := if_fe c31 hf
                  exact Hj25 H locs ls hP hD hS (lv_sub hl [1, 2, 3] rfl) hf
                · replace hf := if_te c31 hf
                  refine lv_aload_n hx hb dX6_judge_75 rfl (lv_at hl 2 rfl) ?_
                  refine va_get (D := D) (ci := 6) (v := .ref e8) (C := RX6) (T := TX6) (N := 28) hx hb hts hi_RX6 hown hK hP 0 rfl rfl 14 (by decide) (hts (.fieldLink RX6 31 "TravelMarksModel" "rows" "[I") (List.mem_of_getElem? (i := 4) rfl)) (fun _ h9 => h9) rfl dX6_judge_76 ?_
                  refine lv_iconst (v := 3) hx hb dX6_judge_79 rfl ?_
                  refine lv_iload_n hx hb dX6_judge_80 rfl (lv_at hl 1 rfl) ?_
                  refine lv_imul hx hb dX6_judge_81 ?_
                  refine lv_iconst (v := 1) hx hb dX6_judge_82 rfl ?_
                  refine lv_iadd hx hb dX6_judge_83 ?_
                  obtain ⟨y33, ey33, hi32, hf⟩ := rdA_x hf
                  refine va_iald hx hb hK hP 8 0 rfl rfl hi32 dX6_judge_84 ?_
                  refine lv_ren ey33 ?_
                  refine lv_aload_n hx hb dX6_judge_85 rfl (lv_at hl 2 rfl) ?_
                  refine lv_iload_n hx hb dX6_judge_86 rfl (lv_at hl 3 rfl) ?_
                  refine lv_iconst (v := 1) hx hb dX6_judge_87 rfl ?_
                  obtain ⟨r34, h35, hf⟩ := ob1_e hf
                  refine kci (Wx := (oMM C e0 e1 e2 e3 e4 e5 e6 e7 e8 e9 e10 e11 e12 e13 e14 e15 v20 m_held v3 m_before m_isHeld m_tape m_taped m_token m_from m_to m_value m_isWrong m_due m_firsts m_rows m_rowN m_sortOf m_sizeOf m_numbers m_holdsWhat m_holdsWhich m_holdsMany m_bodies m_ran m_actKind m_actN m_actA m_isParted [])) (va_runV (As := [.int x0, .int 1]) (rest := [.int y33]) ⟨hx, hb, hml, hown, hts⟩ (c_X6_its l E D C e0 e1 e2 e3 e4 e5 e6 e7 e8 e9 e10 e11 e12 e13 e14 e15 H.size v20 m_held v3 m_before m_isHeld m_tape m_taped m_token m_from m_to m_value m_isWrong m_due m_firsts m_rows m_rowN m_sortOf m_sizeOf m_numbers m_holdsWhat m_holdsWhich m_holdsMany m_bodies m_ran m_actKind m_actN m_actA m_isParted x0 1 r34 h35) (cwV 2 hts gX6_judge_X6_its rfl rfl rfl hdX6_its ⟨Nat.le_of_ble_eq_true rfl, Nat.le_of_ble_eq_true rfl⟩) (kpreV hP hD hK hS hE hA [0, 1, 2, 3, 4, 5, 6, 7, 8, 9, 10, 11, 12, 13, 14, 15] rfl rfl 0 rfl rfl rfl) rfl rfl hl.1 rfl (lv_room (Nat.le_of_ble_eq_true rfl)) dX6_judge_88 ⟨Nat.zero_le _, Nat.zero_le _⟩) hP hD hS hA [0, 1, 2, 3, 4, 5, 6, 7, 8, 9, 10, 11, 12, 13, 14, 15] rfl rfl rfl (fun H locs hP hD hS => ?_)
                  refine lv_icmp_ne (tgt := 98) hx hb dX6_judge_91 (by decide) (fun c36 => ?_) (fun c36 => ?_)
                  · replace hf := if_fe c36 hf
                    exact Hj25 H locs ls hP hD hS (lv_sub hl [1, 2, 3] rfl) hf
                  · replace hf := if_te c36 hf
                    refine lv_iconst (v := 1) hx hb dX6_judge_94 rfl ?_
                    refine lv_goto (tgt := 99) hx hb dX6_judge_95 (by decide) ?_
                    exact Hj23 1 H locs ls hP hD hS (lv_sub hl [1, 2, 3] rfl) hf
      exact hL25 N 1 0 m_s H locs ls hP hD hS (lv_sub hl [0, 1, 2, 3] rfl) hf
    · replace hf := if_te c2 hf
      refine lv_iconst (v := (-1)) hx hb dX6_judge_8 rfl ?_
      cases hf
      exact kri hQ hAe hx hb hr hlocks hP hD hK hS dX6_judge_9
  exact main _ _ hP hD hS

def rmX6_isShelf : Room := { frames := 1, cells := 0, slots := 0, locals := 25 }
theorem hdX6_isShelf : yX6_isShelf.cls ≠ "java/lang/invoke/MethodHandle" ∧ yX6_isShelf.cls ≠ "java/lang/invoke/VarHandle" ∧ (parseMethodDescriptor yX6_isShelf.desc).map (fun d => d.parameters.length) = some 1 := by decide +kernel
set_option maxHeartbeats 40000000 in
set_option maxRecDepth 100000 in
theorem c_X6_isShelf (l : Launch) (E : Nat → Nat) (D : va_G) (C : Nat → ClassId) (sz : Nat)  (x0 : Int32) (r : Int32) (hf : f_X6_isShelf x0 = r) : Met l yX6_isShelf wsX6_isShelf rmX6_isShelf (PC E D C [.int x0] [] sz) (QZ D C [] [] sz r) 0 0 (va_A [] sz) := by
  refine Met.ofW (cc := cX6_isShelf) (maxL := 1) (ret := (some .boolean)) (by decide) rfl ?_
  intro p e s m args below meth c s₁ B hml hv
  obtain ⟨rfl, hsz, hP, hK, hD0, hE⟩ := hv
  have hx := B.exec
  have hb := B.bytes
  have hr := B.returns
  have hts := atoms_spec (ws := wsX6_isShelf) B.pre
  have hown : s.vm.findClass RX6 = some m.cls := findClass_of_methodNamed B.named
  have hlocks := B.notSynchronized
  subst hsz
  have hD := hD0.self (sz := s.heap.size)
  obtain ⟨A, hAe⟩ := nm_ex (va_A [] s.heap.size)
  rw [← hAe] at hD hE ⊢
  have hA : ∀ q : Nat, s.heap.size ≤ q → A q := fun q h => by rw [hAe]; exact Or.inr h
  have hS : va_S A s.heap s.heap [] := va_S.rf
  have hl := lv_entry ([.int x0]) (n := 1) (Nat.le_of_ble_eq_true rfl)
  rw [lg_entry_eq]
  generalize (lg_sl ([.int x0]) ++ List.replicate (1 - (lg_sl ([.int x0])).length) Slot.unset).toArray = ls at hl ⊢
  have hl : lv_has ls 1 [(0, .int x0)] := hl
  obtain ⟨Q, hQ⟩ := nm_ex (MQ below (QZ D C [] [] s.heap.size r) (List.toArray [Value.int x0]) s 0 0 A)
  show W p l e (headSpec wsX6_isShelf (rmX6_isShelf)).room s m (List.toArray [Value.int x0]) below meth c s.heap [] 0 0 (MQ below (QZ D C [] [] s.heap.size r) (List.toArray [Value.int x0]) s 0 0 A) _
  rw [← hQ]
  unfold f_X6_isShelf at hf
  have main : ∀ (H : Heap) (locs : List Loc), va_P D vwCl [] H → va_D A [] → va_S A s.heap H locs → W p l e (headSpec wsX6_isShelf (rmX6_isShelf)).room s m (List.toArray [Value.int x0]) below meth c H locs 0 0 Q (F0 m 0 ls []) := by
    intro H locs hP hD hS
    refine lv_iload_n hx hb dX6_isShelf_0 rfl (lv_at hl 0 rfl) ?_
    refine lv_i2l hx hb dX6_isShelf_1 rfl ?_
    refine lv_lconst (v := 0) hx hb dX6_isShelf_2 rfl ?_
    refine lv_ldc2 (v := 3) hx hb hown (hts (.constantLong RX6 156 (3)) (List.mem_of_getElem? (i := 1) rfl)) dX6_isShelf_3 ?_
    refine kcz (Wx := []) (va_runS (As := [.long (Int32.toInt64 x0), .long 0, .long 3]) (rest := []) ⟨hx, hb, hml, hown, hts⟩ (c_X6_isIn l E D C H.size (Int32.toInt64 x0) 0 3 _ rfl) (va_cwS 3 hts gX6_isShelf_X6_isIn rfl rfl rfl hdX6_isIn ⟨Nat.le_of_ble_eq_true rfl, Nat.le_of_ble_eq_true rfl⟩) (kpre hP hD hK hS hE hA [] rfl rfl) rfl rfl hl.1 rfl (lv_room (Nat.le_of_ble_eq_true rfl)) dX6_isShelf_6 ⟨Nat.zero_le _, Nat.zero_le _⟩) hP hD hS hA [] rfl rfl rfl (fun H locs hz1 hP hD hS => ?_)
    cases hf
    exact krz hQ hAe hx hb hr hlocks hz1 hP hD hK hS dX6_isShelf_9
  exact main _ _ hP hD hS

def rmX6_sheet : Room := { frames := 2, cells := 0, slots := 0, locals := 45 }
theorem hdX6_sheet : yX6_sheet.cls = RX6 ∧ yX6_sheet.cls ≠ "java/lang/invoke/MethodHandle" ∧ yX6_sheet.cls ≠ "java/lang/invoke/VarHandle" ∧ (parseMethodDescriptor yX6_sheet.desc).map (fun d => d.parameters.length) = some 3 := by decide +kernel
set_option maxHeartbeats 40000000 in
set_option maxRecDepth 100000 in
theorem c_X6_sheet (l : Launch) (E : Nat → Nat) (D : va_G) (C : Nat → ClassId) (e0 e1 e2 e3 e4 e5 e6 e7 e8 e9 e10 e11 e12 e13 e14 e15 : Nat) (sz : Nat) (N : Nat) (m_s : Nat → Int32) (m_held : Nat → Int32) (m_aside : Nat → Int32) (m_before : Nat → Int32) (m_isHeld : Int32) (m_tape : Nat → Int32) (m_taped : Int32) (m_token : Int32) (m_from : Int32) (m_to : Int32) (m_value : Int32) (m_isWrong : Int32) (m_due : Nat → Int32) (m_firsts : Nat → Int32) (m_rows : Nat → Int32) (m_rowN : Int32) (m_sortOf : Nat → Int32) (m_sizeOf : Nat → Int32) (m_numbers : Nat → Int32) (m_holdsWhat : Nat → Int32) (m_holdsWhich : Nat → Int32) (m_holdsMany : Nat → Int32) (m_bodies : Nat → Int32) (m_ran : Int32) (m_actKind : Int32) (m_actN : Int32) (m_actA : Int32) (m_isParted : Int32) (x0 : Int32) (x1 : Int32) (x2 : Int32) (r : Int32) (m_sortOf' : Nat → Int32) (m_sizeOf' : Nat → Int32) (m_numbers' : Nat → Int32) (hf : f_X6_sheet N m_sortOf m_sizeOf m_numbers x0 x1 x2 = some (r, m_sortOf', m_sizeOf', m_numbers')) : Met l yX6_sheet wsX6_sheet rmX6_sheet (PC E D C [.ref e0, .int x0, .int x1, .int x2] (oMM C e0 e1 e2 e3 e4 e5 e6 e7 e8 e9 e10 e11 e12 e13 e14 e15 m_s m_held m_aside m_before m_isHeld m_tape m_taped m_token m_from m_to m_value m_isWrong m_due m_firsts m_rows m_rowN m_sortOf m_sizeOf m_numbers m_holdsWhat m_holdsWhich m_holdsMany m_bodies m_ran m_actKind m_actN m_actA m_isParted []) sz) (QI D C (oMM C e0 e1 e2 e3 e4 e5 e6 e7 e8 e9 e10 e11 e12 e13 e14 e15 m_s m_held m_aside m_before m_isHeld m_tape m_taped m_token m_from m_to m_value m_isWrong m_due m_firsts m_rows m_rowN m_sortOf m_sizeOf m_numbers m_holdsWhat m_holdsWhich m_holdsMany m_bodies m_ran m_actKind m_actN m_actA m_isParted []) (oMM C e0 e1 e2 e3 e4 e5 e6 e7 e8 e9 e10 e11 e12 e13 e14 e15 m_s m_held m_aside m_before m_isHeld m_tape m_taped m_token m_from m_to m_value m_isWrong m_due m_firsts m_rows m_rowN (m_sortOf') (m_sizeOf') (m_numbers') m_holdsWhat m_holdsWhich m_holdsMany m_bodies m_ran m_actKind m_actN m_actA m_isParted []) sz r) 0 0 (va_A (oMM C e0 e1 e2 e3 e4 e5 e6 e7 e8 e9 e10 e11 e12 e13 e14 e15 m_s m_held m_aside m_before m_isHeld m_tape m_taped m_token m_from m_to m_value m_isWrong m_due m_firsts m_rows m_rowN m_sortOf m_sizeOf m_numbers m_holdsWhat m_holdsWhich m_holdsMany m_bodies m_ran m_actKind m_actN m_actA m_isParted []) sz) := by
  refine Met.ofW (cc := cX6_sheet) (maxL := 5) (ret := (some .int)) (by decide) rfl ?_
  intro p e s m args below meth c s₁ B hml hv
  obtain ⟨rfl, hsz, hP, hK, hD0, hE⟩ := hv
  have hx := B.exec
  have hb := B.bytes
  have hr := B.returns
  have hts := atoms_spec (ws := wsX6_sheet) B.pre
  have hown : s.vm.findClass RX6 = some m.cls := findClass_of_methodNamed B.named
  have hlocks := B.notSynchronized
  subst hsz
  have hi_RX6 : ∀ w ∈ wsX60, w ∈ wsX6_sheet := fun _ h => List.mem_cons_of_mem _ (List.mem_append_right _ h)
  have hD := hD0.self (sz := s.heap.size)
  obtain ⟨A, hAe⟩ := nm_ex (va_A (oMM C e0 e1 e2 e3 e4 e5 e6 e7 e8 e9 e10 e11 e12 e13 e14 e15 m_s m_held m_aside m_before m_isHeld m_tape m_taped m_token m_from m_to m_value m_isWrong m_due m_firsts m_rows m_rowN m_sortOf m_sizeOf m_numbers m_holdsWhat m_holdsWhich m_holdsMany m_bodies m_ran m_actKind m_actN m_actA m_isParted []) s.heap.size)
  rw [← hAe] at hD hE ⊢
  have hA : ∀ q : Nat, s.heap.size ≤ q → A q := fun q h => by rw [hAe]; exact Or.inr h
  have hS : va_S A s.heap s.heap [] := va_S.rf
  have hl := lv_entry ([.ref e0, .int x0, .int x1, .int x2]) (n := 5) (Nat.le_of_ble_eq_true rfl)
  rw [lg_entry_eq]
  generalize (lg_sl ([.ref e0, .int x0, .int x1, .int x2]) ++ List.replicate (5 - (lg_sl ([.ref e0, .int x0, .int x1, .int x2])).length) Slot.unset).toArray = ls at hl ⊢
  have hl : lv_has ls 5 [(0, .ref e0), (1, .int x0), (2, .int x1), (3, .int x2)] := hl
  obtain ⟨Q, hQ⟩ := nm_ex (MQ below (QI D C (oMM C e0 e1 e2 e3 e4 e5 e6 e7 e8 e9 e10 e11 e12 e13 e14 e15 m_s m_held m_aside m_before m_isHeld m_tape m_taped m_token m_from m_to m_value m_isWrong m_due m_firsts m_rows m_rowN m_sortOf m_sizeOf m_numbers m_holdsWhat m_holdsWhich m_holdsMany m_bodies m_ran m_actKind m_actN m_actA m_isParted []) (oMM C e0 e1 e2 e3 e4 e5 e6 e7 e8 e9 e10 e11 e12 e13 e14 e15 m_s m_held m_aside m_before m_isHeld m_tape m_taped m_token m_from m_to m_value m_isWrong m_due m_firsts m_rows m_rowN (m_sortOf') (m_sizeOf') (m_numbers') m_holdsWhat m_holdsWhich m_holdsMany m_bodies m_ran m_actKind m_actN m_actA m_isParted []) s.heap.size r) (List.toArray [Value.ref e0, Value.int x0, Value.int x1, Value.int x2]) s 0 0 A)
  show W p l e (headSpec wsX6_sheet (rmX6_sheet)).room s m (List.toArray [Value.ref e0, Value.int x0, Value.int x1, Value.int x2]) below meth c s.heap [] 0 0 (MQ below (QI D C (oMM C e0 e1 e2 e3 e4 e5 e6 e7 e8 e9 e10 e11 e12 e13 e14 e15 m_s m_held m_aside m_before m_isHeld m_tape m_taped m_token m_from m_to m_value m_isWrong m_due m_firsts m_rows m_rowN m_sortOf m_sizeOf m_numbers m_holdsWhat m_holdsWhich m_holdsMany m_bodies m_ran m_actKind m_actN m_actA m_isParted []) (oMM C e0 e1 e2 e3 e4 e5 e6 e7 e8 e9 e10 e11 e12 e13 e14 e15 m_s m_held m_aside m_before m_isHeld m_tape m_taped m_token m_from m_to m_value m_isWrong m_due m_firsts m_rows m_rowN (m_sortOf') (m_sizeOf') (m_numbers') m_holdsWhat m_holdsWhich m_holdsMany m_bodies m_ran m_actKind m_actN m_actA m_isParted []) s.heap.size r) (List.toArray [Value.ref e0, Value.int x0, Value.int x1, Value.int x2]) s 0 0 A) _
  rw [← hQ]
  unfold f_X6_sheet at hf
  have main : ∀ (H : Heap) (locs : List Loc), va_P D vwCl (oMM C e0 e1 e2 e3 e4 e5 e6 e7 e8 e9 e10 e11 e12 e13 e14 e15 m_s m_held m_aside m_before m_isHeld m_tape m_taped m_token m_from m_to m_value m_isWrong m_due m_firsts m_rows m_rowN m_sortOf m_sizeOf m_numbers m_holdsWhat m_holdsWhich m_holdsMany m_bodies m_ran m_actKind m_actN m_actA m_isParted []) H → va_D A (oMM C e0 e1 e2 e3 e4 e5 e6 e7 e8 e9 e10 e11 e12 e13 e14 e15 m_s m_held m_aside m_before m_isHeld m_tape m_taped m_token m_from m_to m_value m_isWrong m_due m_firsts m_rows m_rowN m_sortOf m_sizeOf m_numbers m_holdsWhat m_holdsWhich m_holdsMany m_bodies m_ran m_actKind m_actN m_actA m_isParted []) → va_S A s.heap H locs → W p l e (headSpec wsX6_sheet (rmX6_sheet)).room s m (List.toArray [Value.ref e0, Value.int x0, Value.int x1, Value.int x2]) below meth c H locs 0 0 Q (F0 m 0 ls []) := by
    intro H locs hP hD hS
    refine lv_iload_n hx hb dX6_sheet_0 rfl (lv_at hl 1 rfl) ?_
    refine kcz (Wx := (oMM C e0 e1 e2 e3 e4 e5 e6 e7 e8 e9 e10 e11 e12 e13 e14 e15 m_s m_held m_aside m_before m_isHeld m_tape m_taped m_token m_from m_to m_value m_isWrong m_due m_firsts m_rows m_rowN m_sortOf m_sizeOf m_numbers m_holdsWhat m_holdsWhich m_holdsMany m_bodies m_ran m_actKind m_actN m_actA m_isParted [])) (va_runS (As := [.int x0]) (rest := []) ⟨hx, hb, hml, hown, hts⟩ (c_X6_isSheet l E D C H.size x0 _ rfl) (va_cwS 1 hts gX6_sheet_X6_isSheet rfl rfl rfl hdX6_isSheet ⟨Nat.le_of_ble_eq_true rfl, Nat.le_of_ble_eq_true rfl⟩) (kpre hP hD hK hS hE hA [] rfl rfl) rfl rfl hl.1 rfl (lv_room (Nat.le_of_ble_eq_true rfl)) dX6_sheet_1 ⟨Nat.zero_le _, Nat.zero_le _⟩) hP hD hS hA [] rfl rfl rfl (fun H locs hz1 hP hD hS => ?_)
    refine lv_if_eq (tgt := 31) hx hb dX6_sheet_4 (by decide) (fun c2 => ?_) (fun c2 => ?_)
    · replace hf := if_te c2 hf
      refine lv_iconst (v := (-1)) hx hb dX6_sheet_31 rfl ?_
      cases hf
      exact kri hQ hAe hx hb hr hlocks hP hD hK hS dX6_sheet_32
    · replace hf := if_fe c2 hf
      refine lv_iload_n hx hb dX6_sheet_7 rfl (lv_at hl 2 rfl) ?_
      refine lv_i2l hx hb dX6_sheet_8 rfl ?_
      refine lv_ldc2 (v := (-1)) hx hb hown (hts (.constantLong RX6 262 (-1)) (List.mem_of_getElem? (i := 1) rfl)) dX6_sheet_9 ?_
      refine lv_ldc2 (v := 3) hx hb hown (hts (.constantLong RX6 156 (3)) (List.mem_of_getElem? (i := 2) rfl)) dX6_sheet_12 ?_
      refine kcz (Wx := (oMM C e0 e1 e2 e3 e4 e5 e6 e7 e8 e9 e10 e11 e12 e13 e14 e15 m_s m_held m_aside m_before m_isHeld m_tape m_taped m_token m_from m_to m_value m_isWrong m_due m_firsts m_rows m_rowN m_sortOf m_sizeOf m_numbers m_holdsWhat m_holdsWhich m_holdsMany m_bodies m_ran m_actKind m_actN m_actA m_isParted [])) (va_runS (As := [.long (Int32.toInt64 x1), .long (-1), .long 3]) (rest := []) ⟨hx, hb, hml, hown, hts⟩ (c_X6_isIn l E D C H.size (Int32.toInt64 x1) (-1) 3 _ rfl) (va_cwS 3 hts gX6_sheet_X6_isIn rfl rfl rfl hdX6_isIn ⟨Nat.le_of_ble_eq_true rfl, Nat.le_of_ble_eq_true rfl⟩) (kpre hP hD hK hS hE hA [] rfl rfl) rfl rfl hl.1 rfl (lv_room (Nat.le_of_ble_eq_true rfl)) dX6_sheet_15 ⟨Nat.zero_le _, Nat.zero_le _⟩) hP hD hS hA [] rfl rfl rfl (fun H locs hz3 hP hD hS => ?_)
      refine lv_if_eq (tgt := 31) hx hb dX6_sheet_18 (by decide) (fun c4 => ?_) (fun c4 => ?_)
      · replace hf := if_te c4 hf
        refine lv_iconst (v := (-1)) hx hb dX6_sheet_31 rfl ?_
        cases hf
        exact kri hQ hAe hx hb hr hlocks hP hD hK hS dX6_sheet_32
      · replace hf := if_fe c4 hf
        refine lv_iload_n hx hb dX6_sheet_21 rfl (lv_at hl 2 rfl) ?_
        obtain ⟨j5, hj5, hf⟩ := lj_e hf
        have Hj5 : ∀ (H : Heap) (locs : List Loc) (ls : Array Slot), va_P D vwCl (oMM C e0 e1 e2 e3 e4 e5 e6 e7 e8 e9 e10 e11 e12 e13 e14 e15 m_s m_held m_aside m_before m_isHeld m_tape m_taped m_token m_from m_to m_value m_isWrong m_due m_firsts m_rows m_rowN m_sortOf m_sizeOf m_numbers m_holdsWhat m_holdsWhich m_holdsMany m_bodies m_ran m_actKind m_actN m_actA m_isParted []) H → va_D A (oMM C e0 e1 e2 e3 e4 e5 e6 e7 e8 e9 e10 e11 e12 e13 e14 e15 m_s m_held m_aside m_before m_isHeld m_tape m_taped m_token m_from m_to m_value m_isWrong m_due m_firsts m_rows m_rowN m_sortOf m_sizeOf m_numbers m_holdsWhat m_holdsWhich m_holdsMany m_bodies m_ran m_actKind m_actN m_actA m_isParted []) → va_S A s.heap H locs → lv_has ls 5 [(0, .ref e0), (1, .int x0), (2, .int x1), (3, .int x2)] → j5 = some (r, m_sortOf', m_sizeOf', m_numbers') → W p l e (headSpec wsX6_sheet (rmX6_sheet)).room s m (List.toArray [Value.ref e0, Value.int x0, Value.int x1, Value.int x2]) below meth c H locs 0 0 Q (F0 m 33 ls []) := by
          intro H locs ls hP hD hS hl hf
          rw [hj5] at hf
          refine lv_iload_n hx hb dX6_sheet_33 rfl (lv_at hl 2 rfl) ?_
          obtain ⟨j6, hj6, hf⟩ := lj_e hf
          have Hj6 : ∀ (H : Heap) (locs : List Loc) (ls : Array Slot), va_P D vwCl (oMM C e0 e1 e2 e3 e4 e5 e6 e7 e8 e9 e10 e11 e12 e13 e14 e15 m_s m_held m_aside m_before m_isHeld m_tape m_taped m_token m_from m_to m_value m_isWrong m_due m_firsts m_rows m_rowN m_sortOf m_sizeOf m_numbers m_holdsWhat m_holdsWhich m_holdsMany m_bodies m_ran m_actKind m_actN m_actA m_isParted []) H → va_D A (oMM C e0 e1 e2 e3 e4 e5 e6 e7 e8 e9 e10 e11 e12 e13 e14 e15 m_s m_held m_aside m_before m_isHeld m_tape m_taped m_token m_from m_to m_value m_isWrong m_due m_firsts m_rows m_rowN m_sortOf m_sizeOf m_numbers m_holdsWhat m_holdsWhich m_holdsMany m_bodies m_ran m_actKind m_actN m_actA m_isParted []) → va_S A s.heap H locs → lv_has ls 5 [(0, .ref e0), (1, .int x0), (2, .int x1), (3, .int x2)] → j6 = some (r, m_sortOf', m_sizeOf', m_numbers') → W p l e (headSpec wsX6_sheet (rmX6_sheet)).room s m (List.toArray [Value.ref e0, Value.int x0, Value.int x1, Value.int x2]) below meth c H locs 0 0 Q (F0 m 44 ls []) := by
            intro H locs ls hP hD hS hl hf
            rw [hj6] at hf
            refine lv_aload_n hx hb dX6_sheet_44 rfl (lv_at hl 0 rfl) ?_
            refine va_get (D := D) (ci := 6) (v := .ref e9) (C := RX6) (T := TX6) (N := 28) hx hb hts hi_RX6 hown hK hP 0 rfl rfl 16 (by decide) (hts (.fieldLink RX6 34 "TravelMarksModel" "sortOf" "[I") (List.mem_of_getElem? (i := 3) rfl)) (fun _ h9 => h9) rfl dX6_sheet_45 ?_
            refine lv_iload_n hx hb dX6_sheet_48 rfl (lv_at hl 1 rfl) ?_
            refine lv_iload_n hx hb dX6_sheet_49 rfl (lv_at hl 2 rfl) ?_
            obtain ⟨hi7, hf⟩ := ckA_e hf
            refine va_iast hx hb hK hP hD hS 9 0 rfl rfl hi7 dX6_sheet_50 (fun H locs hP hD hS => ?_)
            obtain ⟨v8, ev8, hf⟩ := lj_e hf
            have hP : va_P D vwCl (oMM C e0 e1 e2 e3 e4 e5 e6 e7 e8 e9 e10 e11 e12 e13 e14 e15 m_s m_held m_aside m_before m_isHeld m_tape m_taped m_token m_from m_to m_value m_isWrong m_due m_firsts m_rows m_rowN v8 m_sizeOf m_numbers m_holdsWhat m_holdsWhich m_holdsMany m_bodies m_ran m_actKind m_actN m_actA m_isParted []) H := by rw [ev8]; exact hP
            have hD : va_D A (oMM C e0 e1 e2 e3 e4 e5 e6 e7 e8 e9 e10 e11 e12 e13 e14 e15 m_s m_held m_aside m_before m_isHeld m_tape m_taped m_token m_from m_to m_value m_isWrong m_due m_firsts m_rows m_rowN v8 m_sizeOf m_numbers m_holdsWhat m_holdsWhich m_holdsMany m_bodies m_ran m_actKind m_actN m_actA m_isParted []) := by rw [ev8]; exact hD
            refine lv_aload_n hx hb dX6_sheet_51 rfl (lv_at hl 0 rfl) ?_
            refine va_get (D := D) (ci := 6) (v := .ref e10) (C := RX6) (T := TX6) (N := 28) hx hb hts hi_RX6 hown hK hP 0 rfl rfl 17 (by decide) (hts (.fieldLink RX6 37 "TravelMarksModel" "sizeOf" "[I") (List.mem_of_getElem? (i := 4) rfl)) (fun _ h9 => h9) rfl dX6_sheet_52 ?_
            refine lv_iload_n hx hb dX6_sheet_55 rfl (lv_at hl 1 rfl) ?_
            refine lv_iload_n hx hb dX6_sheet_56 rfl (lv_at hl 2 rfl) ?_
            obtain ⟨j10, hj10, hf⟩ := lj_e hf
            have Hj10 : ∀ (k9 : Int32) (H : Heap) (locs : List Loc) (ls : Array Slot), va_P D vwCl (oMM C e0 e1 e2 e3 e4 e5 e6 e7 e8 e9 e10 e11 e12 e13 e14 e15 m_s m_held m_aside m_before m_isHeld m_tape m_taped m_token m_from m_to m_value m_isWrong m_due m_firsts m_rows m_rowN v8 m_sizeOf m_numbers m_holdsWhat m_holdsWhich m_holdsMany m_bodies m_ran m_actKind m_actN m_actA m_isParted []) H → va_D A (oMM C e0 e1 e2 e3 e4 e5 e6 e7 e8 e9 e10 e11 e12 e13 e14 e15 m_s m_held m_aside m_before m_isHeld m_tape m_taped m_token m_from m_to m_value m_isWrong m_due m_firsts m_rows m_rowN v8 m_sizeOf m_numbers m_holdsWhat m_holdsWhich m_holdsMany m_bodies m_ran m_actKind m_actN m_actA m_isParted []) → va_S A s.heap H locs → lv_has ls 5 [(0, .ref e0), (1, .int x0)] → j10 k9 = some (r, m_sortOf', m_sizeOf', m_numbers') → W p l e (headSpec wsX6_sheet (rmX6_sheet)).room s m (List.toArray [Value.ref e0, Value.int x0, Value.int x1, Value.int x2]) below meth c H locs 0 0 Q (F0 m 65 ls [.int k9, .int x0, .ref e10]) := by
              intro k9 H locs ls hP hD hS hl hf
              rw [hj10] at hf
              obtain ⟨hi11, hf⟩ := ckA_e hf
              refine va_iast hx hb hK hP hD hS 10 0 rfl rfl hi11 dX6_sheet_65 (fun H locs hP hD hS => ?_)
              obtain ⟨v12, ev12, hf⟩ := lj_e hf
              have hP : va_P D vwCl (oMM C e0 e1 e2 e3 e4 e5 e6 e7 e8 e9 e10 e11 e12 e13 e14 e15 m_s m_held m_aside m_before m_isHeld m_tape m_taped m_token m_from m_to m_value m_isWrong m_due m_firsts m_rows m_rowN v8 v12 m_numbers m_holdsWhat m_holdsWhich m_holdsMany m_bodies m_ran m_actKind m_actN m_actA m_isParted []) H := by rw [ev12]; exact hP
              have hD : va_D A (oMM C e0 e1 e2 e3 e4 e5 e6 e7 e8 e9 e10 e11 e12 e13 e14 e15 m_s m_held m_aside m_before m_isHeld m_tape m_taped m_token m_from m_to m_value m_isWrong m_due m_firsts m_rows m_rowN v8 v12 m_numbers m_holdsWhat m_holdsWhich m_holdsMany m_bodies m_ran m_actKind m_actN m_actA m_isParted []) := by rw [ev12]; exact hD
              refine lv_iconst (v := 0) hx hb dX6_sheet_66 rfl ?_
              refine lv_istore (lv' := [(4, .int 0), (0, .ref e0), (1, .int x0)]) hx hb dX6_sheet_67 hl (by decide) rfl (fun ls hl => ?_)
              have hL69 : ∀ (n : Nat) (i13 : Int32) (v14 : Nat → Int32) (H : Heap) (locs : List Loc) (ls : Array Slot), va_P D vwCl (oMM C e0 e1 e2 e3 e4 e5 e6 e7 e8 e9 e10 e11 e12 e13 e14 e15 m_s m_held m_aside m_before m_isHeld m_tape m_taped m_token m_from m_to m_value m_isWrong m_due m_firsts m_rows m_rowN v8 v12 v14 m_holdsWhat m_holdsWhich m_holdsMany m_bodies m_ran m_actKind m_actN m_actA m_isParted []) H → va_D A (oMM C e0 e1 e2 e3 e4 e5 e6 e7 e8 e9 e10 e11 e12 e13 e14 e15 m_s m_held m_aside m_before m_isHeld m_tape m_taped m_token m_from m_to m_value m_isWrong m_due m_firsts m_rows m_rowN v8 v12 v14 m_holdsWhat m_holdsWhich m_holdsMany m_bodies m_ran m_actKind m_actN m_actA m_isParted []) → va_S A s.heap H locs → lv_has ls 5 [(4, .int i13), (0, .ref e0), (1, .int x0)] → f_X6_sheet_L69 x0 v8 v12 n i13 v14 = some (r, m_sortOf', m_sizeOf', m_numbers') → W p l e (headSpec wsX6_sheet (rmX6_sheet)).room s m (List.toArray [Value.ref e0, Value.int x0, Value.int x1, Value.int x2]) below meth c H locs 0 0 Q (F0 m 69 ls []) := by
                intro n
                induction n with
                | zero =>
                  intro i13 v14 H locs ls hP hD hS hl hf
                  exact absurd hf (fun h => by cases h)
                | succ n ih =>
                  intro i13 v14 H locs ls hP hD hS hl hf
                  rw [f_X6_sheet_L69] at hf
                  refine lv_iload hx hb dX6_sheet_69 (lv_at hl 0 rfl) ?_
                  refine lv_bipush (v := 40) hx hb dX6_sheet_71 rfl ?_
                  refine lv_icmp_ge (tgt := 95) hx hb dX6_sheet_73 (by decide) (fun c15 => ?_) (fun c15 => ?_)
                  · replace hf := if_te c15 hf
                    refine lv_iconst (v := 1) hx hb dX6_sheet_95 rfl ?_
                    cases hf
                    exact kri hQ hAe hx hb hr hlocks hP hD hK hS dX6_sheet_96
                  · replace hf := if_fe c15 hf
                    refine lv_aload_n hx hb dX6_sheet_76 rfl (lv_at hl 1 rfl) ?_
                    refine va_get (D := D) (ci := 6) (v := .ref e11) (C := RX6) (T := TX6) (N := 28) hx hb hts hi_RX6 hown hK hP 0 rfl rfl 18 (by decide) (hts (.fieldLink RX6 40 "TravelMarksModel" "numbers" "[I") (List.mem_of_getElem? (i := 5) rfl)) (fun _ h9 => h9) rfl dX6_sheet_77 ?_
                    refine lv_bipush (v := 40) hx hb dX6_sheet_80 rfl ?_
                    refine lv_iload_n hx hb dX6_sheet_82 rfl (lv_at hl 2 rfl) ?_
                    refine lv_imul hx hb dX6_sheet_83 ?_
                    refine lv_iload hx hb dX6_sheet_84 (lv_at hl 0 rfl) ?_
                    refine lv_iadd hx hb dX6_sheet_86 ?_
                    refine lv_iconst (v := 0) hx hb dX6_sheet_87 rfl ?_
                    obtain ⟨hi16, hf⟩ := ckA_e hf
                    refine va_iast hx hb hK hP hD hS 11 0 rfl rfl hi16 dX6_sheet_88 (fun H locs hP hD hS => ?_)
                    obtain ⟨v17, ev17, hf⟩ := lj_e hf
                    have hP : va_P D vwCl (oMM C e0 e1 e2 e3 e4 e5 e6 e7 e8 e9 e10 e11 e12 e13 e14 e15 m_s m_held m_aside m_before m_isHeld m_tape m_taped m_token m_from m_to m_value m_isWrong m_due m_firsts m_rows m_rowN v8 v12 v17 m_holdsWhat m_holdsWhich m_holdsMany m_bodies m_ran m_actKind m_actN m_actA m_isParted []) H := by rw [ev17]; exact hP
                    have hD : va_D A (oMM C e0 e1 e2 e3 e4 e5 e6 e7 e8 e9 e10 e11 e12 e13 e14 e15 m_s m_held m_aside m_before m_isHeld m_tape m_taped m_token m_from m_to m_value m_isWrong m_due m_firsts m_rows m_rowN v8 v12 v17 m_holdsWhat m_holdsWhich m_holdsMany m_bodies m_ran m_actKind m_actN m_actA m_isParted []) := by rw [ev17]; exact hD
                    obtain ⟨t18, et18, hf⟩ := lj_e hf
                    refine lv_iinc (v := t18) (lv' := [(4, .int t18), (0, .ref e0), (1, .int x0)]) hx hb dX6_sheet_89 hl (k := 0) rfl (by rw [et18]; rfl) (by decide) rfl (fun ls hl => ?_)
                    refine lv_goto (tgt := 69) hx hb dX6_sheet_92 (by decide) ?_
                    exact ih t18 v17 H locs ls hP hD hS (lv_sub hl [0, 1, 2] rfl) hf
              exact hL69 N 0 m_numbers H locs ls hP hD hS (lv_sub hl [0, 1, 2] rfl) hf
            refine lv_if_ge (tgt := 64) hx hb dX6_sheet_57 (by decide) (fun c19 => ?_) (fun c19 => ?_)
            · replace hf := if_te c19 hf
              refine lv_iload_n hx hb dX6_sheet_64 rfl (lv_at hl 3 rfl) ?_
              exact Hj10 x2 H locs ls hP hD hS (lv_sub hl [0, 1] rfl) hf
            · replace hf := if_fe c19 hf
              refine lv_iconst (v := 0) hx hb dX6_sheet_60 rfl ?_
              refine lv_goto (tgt := 65) hx hb dX6_sheet_61 (by decide) ?_
              exact Hj10 0 H locs ls hP hD hS (lv_sub hl [0, 1] rfl) hf
          refine lv_if_lt (tgt := 44) hx hb dX6_sheet_34 (by decide) (fun c20 => ?_) (fun c20 => ?_)
          · replace hf := if_te c20 hf
            exact Hj6 H locs ls hP hD hS (lv_sub hl [0, 1, 2, 3] rfl) hf
          · replace hf := if_fe c20 hf
            refine lv_iload_n hx hb dX6_sheet_37 rfl (lv_at hl 3 rfl) ?_
            refine lv_if_ge (tgt := 44) hx hb dX6_sheet_38 (by decide) (fun c21 => ?_) (fun c21 => ?_)
            · replace hf := if_te c21 hf
              exact Hj6 H locs ls hP hD hS (lv_sub hl [0, 1, 2, 3] rfl) hf
            · replace hf := if_fe c21 hf
              refine lv_bipush (v := (-14)) hx hb dX6_sheet_41 rfl ?_
              cases hf
              exact kri hQ hAe hx hb hr hlocks hP hD hK hS dX6_sheet_43
        refine lv_if_lt (tgt := 33) hx hb dX6_sheet_22 (by decide) (fun c22 => ?_) (fun c22 => ?_)
        · replace hf := if_te c22 hf
          exact Hj5 H locs ls hP hD hS (lv_sub hl [0, 1, 2, 3] rfl) hf
        · replace hf := if_fe c22 hf
          refine lv_iload_n hx hb dX6_sheet_25 rfl (lv_at hl 3 rfl) ?_
          refine lv_bipush (v := 40) hx hb dX6_sheet_26 rfl ?_
          refine lv_icmp_le (tgt := 33) hx hb dX6_sheet_28 (by decide) (fun c23 => ?_) (fun c23 => ?_)
          · replace hf := if_te c23 hf
            exact Hj5 H locs ls hP hD hS (lv_sub hl [0, 1, 2, 3] rfl) hf
          · replace hf := if_fe c23 hf
            refine lv_iconst (v := (-1)) hx hb dX6_sheet_31 rfl ?_
            cases hf
            exact kri hQ hAe hx hb hr hlocks hP hD hK hS dX6_sheet_32
  exact main _ _ hP hD hS

def rmX6_put : Room := { frames := 2, cells := 0, slots := 0, locals := 45 }
theorem hdX6_put : yX6_put.cls = RX6 ∧ yX6_put.cls ≠ "java/lang/invoke/MethodHandle" ∧ yX6_put.cls ≠ "java/lang/invoke/VarHandle" ∧ (parseMethodDescriptor yX6_put.desc).map (fun d => d.parameters.length) = some 3 := by decide +kernel
set_option maxHeartbeats 40000000 in
set_option maxRecDepth 100000 in
theorem c_X6_put (l : Launch) (E : Nat → Nat) (D : va_G) (C : Nat → ClassId) (e0 e1 e2 e3 e4 e5 e6 e7 e8 e9 e10 e11 e12 e13 e14 e15 : Nat) (sz : Nat) (m_s : Nat → Int32) (m_held : Nat → Int32) (m_aside : Nat → Int32) (m_before : Nat → Int32) (m_isHeld : Int32) (m_tape : Nat → Int32) (m_taped : Int32) (m_token : Int32) (m_from : Int32) (m_to : Int32) (m_value : Int32) (m_isWrong : Int32) (m_due : Nat → Int32) (m_firsts : Nat → Int32) (m_rows : Nat → Int32) (m_rowN : Int32) (m_sortOf : Nat → Int32) (m_sizeOf : Nat → Int32) (m_numbers : Nat → Int32) (m_holdsWhat : Nat → Int32) (m_holdsWhich : Nat → Int32) (m_holdsMany : Nat → Int32) (m_bodies : Nat → Int32) (m_ran : Int32) (m_actKind : Int32) (m_actN : Int32) (m_actA : Int32) (m_isParted : Int32) (x0 : Int32) (x1 : Int32) (x2 : Int32) (r : Int32) (m_numbers' : Nat → Int32) (hf : f_X6_put m_sortOf m_sizeOf m_numbers x0 x1 x2 = some (r, m_numbers')) : Met l yX6_put wsX6_put rmX6_put (PC E D C [.ref e0, .int x0, .int x1, .int x2] (oMM C e0 e1 e2 e3 e4 e5 e6 e7 e8 e9 e10 e11 e12 e13 e14 e15 m_s m_held m_aside m_before m_isHeld m_tape m_taped m_token m_from m_to m_value m_isWrong m_due m_firsts m_rows m_rowN m_sortOf m_sizeOf m_numbers m_holdsWhat m_holdsWhich m_holdsMany m_bodies m_ran m_actKind m_actN m_actA m_isParted []) sz) (QI D C (oMM C e0 e1 e2 e3 e4 e5 e6 e7 e8 e9 e10 e11 e12 e13 e14 e15 m_s m_held m_aside m_before m_isHeld m_tape m_taped m_token m_from m_to m_value m_isWrong m_due m_firsts m_rows m_rowN m_sortOf m_sizeOf m_numbers m_holdsWhat m_holdsWhich m_holdsMany m_bodies m_ran m_actKind m_actN m_actA m_isParted []) (oMM C e0 e1 e2 e3 e4 e5 e6 e7 e8 e9 e10 e11 e12 e13 e14 e15 m_s m_held m_aside m_before m_isHeld m_tape m_taped m_token m_from m_to m_value m_isWrong m_due m_firsts m_rows m_rowN m_sortOf m_sizeOf (m_numbers') m_holdsWhat m_holdsWhich m_holdsMany m_bodies m_ran m_actKind m_actN m_actA m_isParted []) sz r) 0 0 (va_A (oMM C e0 e1 e2 e3 e4 e5 e6 e7 e8 e9 e10 e11 e12 e13 e14 e15 m_s m_held m_aside m_before m_isHeld m_tape m_taped m_token m_from m_to m_value m_isWrong m_due m_firsts m_rows m_rowN m_sortOf m_sizeOf m_numbers m_holdsWhat m_holdsWhich m_holdsMany m_bodies m_ran m_actKind m_actN m_actA m_isParted []) sz) := by
  refine Met.ofW (cc := cX6_put) (maxL := 4) (ret := (some .int)) (by decide) rfl ?_
  intro p e s m args below meth c s₁ B hml hv
  obtain ⟨rfl, hsz, hP, hK, hD0, hE⟩ := hv
  have hx := B.exec
  have hb := B.bytes
  have hr := B.returns
  have hts := atoms_spec (ws := wsX6_put) B.pre
  have hown : s.vm.findClass RX6 = some m.cls := findClass_of_methodNamed B.named
  have hlocks := B.notSynchronized
  subst hsz
  have hi_RX6 : ∀ w ∈ wsX60, w ∈ wsX6_put := fun _ h => List.mem_cons_of_mem _ (List.mem_append_right _ h)
  have hD := hD0.self (sz := s.heap.size)
  obtain ⟨A, hAe⟩ := nm_ex (va_A (oMM C e0 e1 e2 e3 e4 e5 e6 e7 e8 e9 e10 e11 e12 e13 e14 e15 m_s m_held m_aside m_before m_isHeld m_tape m_taped m_token m_from m_to m_value m_isWrong m_due m_firsts m_rows m_rowN m_sortOf m_sizeOf m_numbers m_holdsWhat m_holdsWhich m_holdsMany m_bodies m_ran m_actKind m_actN m_actA m_isParted []) s.heap.size)
  rw [← hAe] at hD hE ⊢
  have hA : ∀ q : Nat, s.heap.size ≤ q → A q := fun q h => by rw [hAe]; exact Or.inr h
  have hS : va_S A s.heap s.heap [] := va_S.rf
  have hl := lv_entry ([.ref e0, .int x0, .int x1, .int x2]) (n := 4) (Nat.le_of_ble_eq_true rfl)
  rw [lg_entry_eq]
  generalize (lg_sl ([.ref e0, .int x0, .int x1, .int x2]) ++ List.replicate (4 - (lg_sl ([.ref e0, .int x0, .int x1, .int x2])).length) Slot.unset).toArray = ls at hl ⊢
  have hl : lv_has ls 4 [(0, .ref e0), (1, .int x0), (2, .int x1), (3, .int x2)] := hl
  obtain ⟨Q, hQ⟩ := nm_ex (MQ below (QI D C (oMM C e0 e1 e2 e3 e4 e5 e6 e7 e8 e9 e10 e11 e12 e13 e14 e15 m_s m_held m_aside m_before m_isHeld m_tape m_taped m_token m_from m_to m_value m_isWrong m_due m_firsts m_rows m_rowN m_sortOf m_sizeOf m_numbers m_holdsWhat m_holdsWhich m_holdsMany m_bodies m_ran m_actKind m_actN m_actA m_isParted []) (oMM C e0 e1 e2 e3 e4 e5 e6 e7 e8 e9 e10 e11 e12 e13 e14 e15 m_s m_held m_aside m_before m_isHeld m_tape m_taped m_token m_from m_to m_value m_isWrong m_due m_firsts m_rows m_rowN m_sortOf m_sizeOf (m_numbers') m_holdsWhat m_holdsWhich m_holdsMany m_bodies m_ran m_actKind m_actN m_actA m_isParted []) s.heap.size r) (List.toArray [Value.ref e0, Value.int x0, Value.int x1, Value.int x2]) s 0 0 A)
  show W p l e (headSpec wsX6_put (rmX6_put)).room s m (List.toArray [Value.ref e0, Value.int x0, Value.int x1, Value.int x2]) below meth c s.heap [] 0 0 (MQ below (QI D C (oMM C e0 e1 e2 e3 e4 e5 e6 e7 e8 e9 e10 e11 e12 e13 e14 e15 m_s m_held m_aside m_before m_isHeld m_tape m_taped m_token m_from m_to m_value m_isWrong m_due m_firsts m_rows m_rowN m_sortOf m_sizeOf m_numbers m_holdsWhat m_holdsWhich m_holdsMany m_bodies m_ran m_actKind m_actN m_actA m_isParted []) (oMM C e0 e1 e2 e3 e4 e5 e6 e7 e8 e9 e10 e11 e12 e13 e14 e15 m_s m_held m_aside m_before m_isHeld m_tape m_taped m_token m_from m_to m_value m_isWrong m_due m_firsts m_rows m_rowN m_sortOf m_sizeOf (m_numbers') m_holdsWhat m_holdsWhich m_holdsMany m_bodies m_ran m_actKind m_actN m_actA m_isParted []) s.heap.size r) (List.toArray [Value.ref e0, Value.int x0, Value.int x1, Value.int x2]) s 0 0 A) _
  rw [← hQ]
  unfold f_X6_put at hf
  have main : ∀ (H : Heap) (locs : List Loc), va_P D vwCl (oMM C e0 e1 e2 e3 e4 e5 e6 e7 e8 e9 e10 e11 e12 e13 e14 e15 m_s m_held m_aside m_before m_isHeld m_tape m_taped m_token m_from m_to m_value m_isWrong m_due m_firsts m_rows m_rowN m_sortOf m_sizeOf m_numbers m_holdsWhat m_holdsWhich m_holdsMany m_bodies m_ran m_actKind m_actN m_actA m_isParted []) H → va_D A (oMM C e0 e1 e2 e3 e4 e5 e6 e7 e8 e9 e10 e11 e12 e13 e14 e15 m_s m_held m_aside m_before m_isHeld m_tape m_taped m_token m_from m_to m_value m_isWrong m_due m_firsts m_rows m_rowN m_sortOf m_sizeOf m_numbers m_holdsWhat m_holdsWhich m_holdsMany m_bodies m_ran m_actKind m_actN m_actA m_isParted []) → va_S A s.heap H locs → W p l e (headSpec wsX6_put (rmX6_put)).room s m (List.toArray [Value.ref e0, Value.int x0, Value.int x1, Value.int x2]) below meth c H locs 0 0 Q (F0 m 0 ls []) := by
    intro H locs hP hD hS
    refine lv_iload_n hx hb dX6_put_0 rfl (lv_at hl 1 rfl) ?_
    refine kcz (Wx := (oMM C e0 e1 e2 e3 e4 e5 e6 e7 e8 e9 e10 e11 e12 e13 e14 e15 m_s m_held m_aside m_before m_isHeld m_tape m_taped m_token m_from m_to m_value m_isWrong m_due m_firsts m_rows m_rowN m_sortOf m_sizeOf m_numbers m_holdsWhat m_holdsWhich m_holdsMany m_bodies m_ran m_actKind m_actN m_actA m_isParted [])) (va_runS (As := [.int x0]) (rest := []) ⟨hx, hb, hml, hown, hts⟩ (c_X6_isSheet l E D C H.size x0 _ rfl) (va_cwS 1 hts gX6_put_X6_isSheet rfl rfl rfl hdX6_isSheet ⟨Nat.le_of_ble_eq_true rfl, Nat.le_of_ble_eq_true rfl⟩) (kpre hP hD hK hS hE hA [] rfl rfl) rfl rfl hl.1 rfl (lv_room (Nat.le_of_ble_eq_true rfl)) dX6_put_1 ⟨Nat.zero_le _, Nat.zero_le _⟩) hP hD hS hA [] rfl rfl rfl (fun H locs hz1 hP hD hS => ?_)
    refine lv_if_ne (tgt := 9) hx hb dX6_put_4 (by decide) (fun c2 => ?_) (fun c2 => ?_)
    · replace hf := if_fe c2 hf
      refine lv_aload_n hx hb dX6_put_9 rfl (lv_at hl 0 rfl) ?_
      refine va_get (D := D) (ci := 6) (v := .ref e9) (C := RX6) (T := TX6) (N := 28) hx hb hts hi_RX6 hown hK hP 0 rfl rfl 16 (by decide) (hts (.fieldLink RX6 34 "TravelMarksModel" "sortOf" "[I") (List.mem_of_getElem? (i := 1) rfl)) (fun _ h9 => h9) rfl dX6_put_10 ?_
      refine lv_iload_n hx hb dX6_put_13 rfl (lv_at hl 1 rfl) ?_
      obtain ⟨y4, ey4, hi3, hf⟩ := rdA_x hf
      refine va_iald hx hb hK hP 9 0 rfl rfl hi3 dX6_put_14 ?_
      refine lv_ren ey4 ?_
      refine lv_if_ge (tgt := 21) hx hb dX6_put_15 (by decide) (fun c5 => ?_) (fun c5 => ?_)
      · replace hf := if_te c5 hf
        refine lv_iload_n hx hb dX6_put_21 rfl (lv_at hl 2 rfl) ?_
        refine lv_i2l hx hb dX6_put_22 rfl ?_
        refine lv_lconst (v := 0) hx hb dX6_put_23 rfl ?_
        refine lv_aload_n hx hb dX6_put_24 rfl (lv_at hl 0 rfl) ?_
        refine va_get (D := D) (ci := 6) (v := .ref e10) (C := RX6) (T := TX6) (N := 28) hx hb hts hi_RX6 hown hK hP 0 rfl rfl 17 (by decide) (hts (.fieldLink RX6 37 "TravelMarksModel" "sizeOf" "[I") (List.mem_of_getElem? (i := 2) rfl)) (fun _ h9 => h9) rfl dX6_put_25 ?_
        refine lv_iload_n hx hb dX6_put_28 rfl (lv_at hl 1 rfl) ?_
        obtain ⟨y7, ey7, hi6, hf⟩ := rdA_x hf
        refine va_iald hx hb hK hP 10 0 rfl rfl hi6 dX6_put_29 ?_
        refine lv_ren ey7 ?_
        refine lv_iconst (v := 1) hx hb dX6_put_30 rfl ?_
        refine lv_isub hx hb dX6_put_31 ?_
        refine lv_i2l hx hb dX6_put_32 rfl ?_
        refine kcz (Wx := (oMM C e0 e1 e2 e3 e4 e5 e6 e7 e8 e9 e10 e11 e12 e13 e14 e15 m_s m_held m_aside m_before m_isHeld m_tape m_taped m_token m_from m_to m_value m_isWrong m_due m_firsts m_rows m_rowN m_sortOf m_sizeOf m_numbers m_holdsWhat m_holdsWhich m_holdsMany m_bodies m_ran m_actKind m_actN m_actA m_isParted [])) (va_runS (As := [.long (Int32.toInt64 x1), .long 0, .long (Int32.toInt64 (y7 - 1))]) (rest := []) ⟨hx, hb, hml, hown, hts⟩ (c_X6_isIn l E D C H.size (Int32.toInt64 x1) 0 (Int32.toInt64 (y7 - 1)) _ rfl) (va_cwS 3 hts gX6_put_X6_isIn rfl rfl rfl hdX6_isIn ⟨Nat.le_of_ble_eq_true rfl, Nat.le_of_ble_eq_true rfl⟩) (kpre hP hD hK hS hE hA [] rfl rfl) rfl rfl hl.1 rfl (lv_room (Nat.le_of_ble_eq_true rfl)) dX6_put_33 ⟨Nat.zero_le _, Nat.zero_le _⟩) hP hD hS hA [] rfl rfl rfl (fun H locs hz8 hP hD hS => ?_)
        refine lv_if_ne (tgt := 42) hx hb dX6_put_36 (by decide) (fun c9 => ?_) (fun c9 => ?_)
        · replace hf := if_fe c9 hf
          refine lv_aload_n hx hb dX6_put_42 rfl (lv_at hl 0 rfl) ?_
          refine va_get (D := D) (ci := 6) (v := .ref e11) (C := RX6) (T := TX6) (N := 28) hx hb hts hi_RX6 hown hK hP 0 rfl rfl 18 (by decide) (hts (.fieldLink RX6 40 "TravelMarksModel" "numbers" "[I") (List.mem_of_getElem? (i := 3) rfl)) (fun _ h9 => h9) rfl dX6_put_43 ?_
          refine lv_bipush (v := 40) hx hb dX6_put_46 rfl ?_
          refine lv_iload_n hx hb dX6_put_48 rfl (lv_at hl 1 rfl) ?_
          refine lv_imul hx hb dX6_put_49 ?_
          refine lv_iload_n hx hb dX6_put_50 rfl (lv_at hl 2 rfl) ?_
          refine lv_iadd hx hb dX6_put_51 ?_
          refine lv_aload_n hx hb dX6_put_52 rfl (lv_at hl 0 rfl) ?_
          refine va_get (D := D) (ci := 6) (v := .ref e9) (C := RX6) (T := TX6) (N := 28) hx hb hts hi_RX6 hown hK hP 0 rfl rfl 16 (by decide) (hts (.fieldLink RX6 34 "TravelMarksModel" "sortOf" "[I") (List.mem_of_getElem? (i := 1) rfl)) (fun _ h9 => h9) rfl dX6_put_53 ?_
          refine lv_iload_n hx hb dX6_put_56 rfl (lv_at hl 1 rfl) ?_
          obtain ⟨y11, ey11, hi10, hf⟩ := rdA_x hf
          refine va_iald hx hb hK hP 9 0 rfl rfl hi10 dX6_put_57 ?_
          refine lv_ren ey11 ?_
          obtain ⟨j13, hj13, hf⟩ := lj_e hf
          have Hj13 : ∀ (k12 : Int32) (H : Heap) (locs : List Loc) (ls : Array Slot), va_P D vwCl (oMM C e0 e1 e2 e3 e4 e5 e6 e7 e8 e9 e10 e11 e12 e13 e14 e15 m_s m_held m_aside m_before m_isHeld m_tape m_taped m_token m_from m_to m_value m_isWrong m_due m_firsts m_rows m_rowN m_sortOf m_sizeOf m_numbers m_holdsWhat m_holdsWhich m_holdsMany m_bodies m_ran m_actKind m_actN m_actA m_isParted []) H → va_D A (oMM C e0 e1 e2 e3 e4 e5 e6 e7 e8 e9 e10 e11 e12 e13 e14 e15 m_s m_held m_aside m_before m_isHeld m_tape m_taped m_token m_from m_to m_value m_isWrong m_due m_firsts m_rows m_rowN m_sortOf m_sizeOf m_numbers m_holdsWhat m_holdsWhich m_holdsMany m_bodies m_ran m_actKind m_actN m_actA m_isParted []) → va_S A s.heap H locs → lv_has ls 4 [] → j13 k12 = some (r, m_numbers') → W p l e (headSpec wsX6_put (rmX6_put)).room s m (List.toArray [Value.ref e0, Value.int x0, Value.int x1, Value.int x2]) below meth c H locs 0 0 Q (F0 m 82 ls [.int k12, .int ((40 * x0) + x1), .ref e11]) := by
            intro k12 H locs ls hP hD hS hl hf
            rw [hj13] at hf
            obtain ⟨hi14, hf⟩ := ckA_e hf
            refine va_iast hx hb hK hP hD hS 11 0 rfl rfl hi14 dX6_put_82 (fun H locs hP hD hS => ?_)
            obtain ⟨v15, ev15, hf⟩ := lj_e hf
            have hP : va_P D vwCl (oMM C e0 e1 e2 e3 e4 e5 e6 e7 e8 e9 e10 e11 e12 e13 e14 e15 m_s m_held m_aside m_before m_isHeld m_tape m_taped m_token m_from m_to m_value m_isWrong m_due m_firsts m_rows m_rowN m_sortOf m_sizeOf v15 m_holdsWhat m_holdsWhich m_holdsMany m_bodies m_ran m_actKind m_actN m_actA m_isParted []) H := by rw [ev15]; exact hP
            have hD : va_D A (oMM C e0 e1 e2 e3 e4 e5 e6 e7 e8 e9 e10 e11 e12 e13 e14 e15 m_s m_held m_aside m_before m_isHeld m_tape m_taped m_token m_from m_to m_value m_isWrong m_due m_firsts m_rows m_rowN m_sortOf m_sizeOf v15 m_holdsWhat m_holdsWhich m_holdsMany m_bodies m_ran m_actKind m_actN m_actA m_isParted []) := by rw [ev15]; exact hD
            refine lv_iconst (v := 1) hx hb dX6_put_83 rfl ?_
            cases hf
            exact kri hQ hAe hx hb hr hlocks hP hD hK hS dX6_put_84
          refine lv_if_ne (tgt := 66) hx hb dX6_put_58 (by decide) (fun c16 => ?_) (fun c16 => ?_)
          · replace hf := if_fe c16 hf
            refine lv_aload_n hx hb dX6_put_66 rfl (lv_at hl 0 rfl) ?_
            refine va_get (D := D) (ci := 6) (v := .ref e9) (C := RX6) (T := TX6) (N := 28) hx hb hts hi_RX6 hown hK hP 0 rfl rfl 16 (by decide) (hts (.fieldLink RX6 34 "TravelMarksModel" "sortOf" "[I") (List.mem_of_getElem? (i := 1) rfl)) (fun _ h9 => h9) rfl dX6_put_67 ?_
            refine lv_iload_n hx hb dX6_put_70 rfl (lv_at hl 1 rfl) ?_
            obtain ⟨y18, ey18, hi17, hf⟩ := rdA_x hf
            refine va_iald hx hb hK hP 9 0 rfl rfl hi17 dX6_put_71 ?_
            refine lv_ren ey18 ?_
            refine lv_iconst (v := 1) hx hb dX6_put_72 rfl ?_
            refine lv_icmp_ne (tgt := 81) hx hb dX6_put_73 (by decide) (fun c19 => ?_) (fun c19 => ?_)
            · replace hf := if_fe c19 hf
              refine lv_iload_n hx hb dX6_put_81 rfl (lv_at hl 3 rfl) ?_
              exact Hj13 x2 H locs ls hP hD hS (lv_sub hl [] rfl) hf
            · replace hf := if_te c19 hf
              refine lv_iload_n hx hb dX6_put_76 rfl (lv_at hl 3 rfl) ?_
              refine lv_i2s hx hb dX6_put_77 rfl ?_
              refine lv_goto (tgt := 82) hx hb dX6_put_78 (by decide) ?_
              exact Hj13 ((Int32.toInt16 x2).toInt32) H locs ls hP hD hS (lv_sub hl [] rfl) hf
          · replace hf := if_te c16 hf
            refine lv_iload_n hx hb dX6_put_61 rfl (lv_at hl 3 rfl) ?_
            refine lv_i2b hx hb dX6_put_62 rfl ?_
            refine lv_goto (tgt := 82) hx hb dX6_put_63 (by decide) ?_
            exact Hj13 ((Int32.toInt8 x2).toInt32) H locs ls hP hD hS (lv_sub hl [] rfl) hf
        · replace hf := if_te c9 hf
          refine lv_bipush (v := (-12)) hx hb dX6_put_39 rfl ?_
          cases hf
          exact kri hQ hAe hx hb hr hlocks hP hD hK hS dX6_put_41
      · replace hf := if_fe c5 hf
        refine lv_bipush (v := (-11)) hx hb dX6_put_18 rfl ?_
        cases hf
        exact kri hQ hAe hx hb hr hlocks hP hD hK hS dX6_put_20
    · replace hf := if_te c2 hf
      refine lv_iconst (v := (-1)) hx hb dX6_put_7 rfl ?_
      cases hf
      exact kri hQ hAe hx hb hr hlocks hP hD hK hS dX6_put_8
  exact main _ _ hP hD hS

def rmX6_lacks : Room := { frames := 0, cells := 0, slots := 0, locals := 0 }
theorem hdX6_lacks : yX6_lacks.cls = RX6 ∧ yX6_lacks.cls ≠ "java/lang/invoke/MethodHandle" ∧ yX6_lacks.cls ≠ "java/lang/invoke/VarHandle" ∧ (parseMethodDescriptor yX6_lacks.desc).map (fun d => d.parameters.length) = some 2 := by decide +kernel
set_option maxHeartbeats 40000000 in
set_option maxRecDepth 100000 in
theorem c_X6_lacks (l : Launch) (E : Nat → Nat) (D : va_G) (C : Nat → ClassId) (e0 e1 e2 e3 e4 e5 e6 e7 e8 e9 e10 e11 e12 e13 e14 e15 : Nat) (sz : Nat) (m_s : Nat → Int32) (m_held : Nat → Int32) (m_aside : Nat → Int32) (m_before : Nat → Int32) (m_isHeld : Int32) (m_tape : Nat → Int32) (m_taped : Int32) (m_token : Int32) (m_from : Int32) (m_to : Int32) (m_value : Int32) (m_isWrong : Int32) (m_due : Nat → Int32) (m_firsts : Nat → Int32) (m_rows : Nat → Int32) (m_rowN : Int32) (m_sortOf : Nat → Int32) (m_sizeOf : Nat → Int32) (m_numbers : Nat → Int32) (m_holdsWhat : Nat → Int32) (m_holdsWhich : Nat → Int32) (m_holdsMany : Nat → Int32) (m_bodies : Nat → Int32) (m_ran : Int32) (m_actKind : Int32) (m_actN : Int32) (m_actA : Int32) (m_isParted : Int32) (x0 : Int32) (x1 : Int32) (r : Int32) (hf : f_X6_lacks m_sortOf x0 x1 = some r) : Met l yX6_lacks wsX6_lacks rmX6_lacks (PC E D C [.ref e0, .int x0, .int x1] (oMM C e0 e1 e2 e3 e4 e5 e6 e7 e8 e9 e10 e11 e12 e13 e14 e15 m_s m_held m_aside m_before m_isHeld m_tape m_taped m_token m_from m_to m_value m_isWrong m_due m_firsts m_rows m_rowN m_sortOf m_sizeOf m_numbers m_holdsWhat m_holdsWhich m_holdsMany m_bodies m_ran m_actKind m_actN m_actA m_isParted []) sz) (QI D C (oMM C e0 e1 e2 e3 e4 e5 e6 e7 e8 e9 e10 e11 e12 e13 e14 e15 m_s m_held m_aside m_before m_isHeld m_tape m_taped m_token m_from m_to m_value m_isWrong m_due m_firsts m_rows m_rowN m_sortOf m_sizeOf m_numbers m_holdsWhat m_holdsWhich m_holdsMany m_bodies m_ran m_actKind m_actN m_actA m_isParted []) (oMM C e0 e1 e2 e3 e4 e5 e6 e7 e8 e9 e10 e11 e12 e13 e14 e15 m_s m_held m_aside m_before m_isHeld m_tape m_taped m_token m_from m_to m_value m_isWrong m_due m_firsts m_rows m_rowN m_sortOf m_sizeOf m_numbers m_holdsWhat m_holdsWhich m_holdsMany m_bodies m_ran m_actKind m_actN m_actA m_isParted []) sz r) 0 0 (va_A (oMM C e0 e1 e2 e3 e4 e5 e6 e7 e8 e9 e10 e11 e12 e13 e14 e15 m_s m_held m_aside m_before m_isHeld m_tape m_taped m_token m_from m_to m_value m_isWrong m_due m_firsts m_rows m_rowN m_sortOf m_sizeOf m_numbers m_holdsWhat m_holdsWhich m_holdsMany m_bodies m_ran m_actKind m_actN m_actA m_isParted []) sz) := by
  refine Met.ofW (cc := cX6_lacks) (maxL := 3) (ret := (some .int)) (by decide) rfl ?_
  intro p e s m args below meth c s₁ B hml hv
  obtain ⟨rfl, hsz, hP, hK, hD0, hE⟩ := hv
  have hx := B.exec
  have hb := B.bytes
  have hr := B.returns
  have hts := atoms_spec (ws := wsX6_lacks) B.pre
  have hown : s.vm.findClass RX6 = some m.cls := findClass_of_methodNamed B.named
  have hlocks := B.notSynchronized
  subst hsz
  have hi_RX6 : ∀ w ∈ wsX60, w ∈ wsX6_lacks := fun _ h => List.mem_cons_of_mem _ (List.mem_append_right _ h)
  have hD := hD0.self (sz := s.heap.size)
  obtain ⟨A, hAe⟩ := nm_ex (va_A (oMM C e0 e1 e2 e3 e4 e5 e6 e7 e8 e9 e10 e11 e12 e13 e14 e15 m_s m_held m_aside m_before m_isHeld m_tape m_taped m_token m_from m_to m_value m_isWrong m_due m_firsts m_rows m_rowN m_sortOf m_sizeOf m_numbers m_holdsWhat m_holdsWhich m_holdsMany m_bodies m_ran m_actKind m_actN m_actA m_isParted []) s.heap.size)
  rw [← hAe] at hD hE ⊢
  have hA : ∀ q : Nat, s.heap.size ≤ q → A q := fun q h => by rw [hAe]; exact Or.inr h
  have hS : va_S A s.heap s.heap [] := va_S.rf
  have hl := lv_entry ([.ref e0, .int x0, .int x1]) (n := 3) (Nat.le_of_ble_eq_true rfl)
  rw [lg_entry_eq]
  generalize (lg_sl ([.ref e0, .int x0, .int x1]) ++ List.replicate (3 - (lg_sl ([.ref e0, .int x0, .int x1])).length) Slot.unset).toArray = ls at hl ⊢
  have hl : lv_has ls 3 [(0, .ref e0), (1, .int x0), (2, .int x1)] := hl
  obtain ⟨Q, hQ⟩ := nm_ex (MQ below (QI D C (oMM C e0 e1 e2 e3 e4 e5 e6 e7 e8 e9 e10 e11 e12 e13 e14 e15 m_s m_held m_aside m_before m_isHeld m_tape m_taped m_token m_from m_to m_value m_isWrong m_due m_firsts m_rows m_rowN m_sortOf m_sizeOf m_numbers m_holdsWhat m_holdsWhich m_holdsMany m_bodies m_ran m_actKind m_actN m_actA m_isParted []) (oMM C e0 e1 e2 e3 e4 e5 e6 e7 e8 e9 e10 e11 e12 e13 e14 e15 m_s m_held m_aside m_before m_isHeld m_tape m_taped m_token m_from m_to m_value m_isWrong m_due m_firsts m_rows m_rowN m_sortOf m_sizeOf m_numbers m_holdsWhat m_holdsWhich m_holdsMany m_bodies m_ran m_actKind m_actN m_actA m_isParted []) s.heap.size r) (List.toArray [Value.ref e0, Value.int x0, Value.int x1]) s 0 0 A)
  show W p l e (headSpec wsX6_lacks (rmX6_lacks)).room s m (List.toArray [Value.ref e0, Value.int x0, Value.int x1]) below meth c s.heap [] 0 0 (MQ below (QI D C (oMM C e0 e1 e2 e3 e4 e5 e6 e7 e8 e9 e10 e11 e12 e13 e14 e15 m_s m_held m_aside m_before m_isHeld m_tape m_taped m_token m_from m_to m_value m_isWrong m_due m_firsts m_rows m_rowN m_sortOf m_sizeOf m_numbers m_holdsWhat m_holdsWhich m_holdsMany m_bodies m_ran m_actKind m_actN m_actA m_isParted []) (oMM C e0 e1 e2 e3 e4 e5 e6 e7 e8 e9 e10 e11 e12 e13 e14 e15 m_s m_held m_aside m_before m_isHeld m_tape m_taped m_token m_from m_to m_value m_isWrong m_due m_firsts m_rows m_rowN m_sortOf m_sizeOf m_numbers m_holdsWhat m_holdsWhich m_holdsMany m_bodies m_ran m_actKind m_actN m_actA m_isParted []) s.heap.size r) (List.toArray [Value.ref e0, Value.int x0, Value.int x1]) s 0 0 A) _
  rw [← hQ]
  unfold f_X6_lacks at hf
  have main : ∀ (H : Heap) (locs : List Loc), va_P D vwCl (oMM C e0 e1 e2 e3 e4 e5 e6 e7 e8 e9 e10 e11 e12 e13 e14 e15 m_s m_held m_aside m_before m_isHeld m_tape m_taped m_token m_from m_to m_value m_isWrong m_due m_firsts m_rows m_rowN m_sortOf m_sizeOf m_numbers m_holdsWhat m_holdsWhich m_holdsMany m_bodies m_ran m_actKind m_actN m_actA m_isParted []) H → va_D A (oMM C e0 e1 e2 e3 e4 e5 e6 e7 e8 e9 e10 e11 e12 e13 e14 e15 m_s m_held m_aside m_before m_isHeld m_tape m_taped m_token m_from m_to m_value m_isWrong m_due m_firsts m_rows m_rowN m_sortOf m_sizeOf m_numbers m_holdsWhat m_holdsWhich m_holdsMany m_bodies m_ran m_actKind m_actN m_actA m_isParted []) → va_S A s.heap H locs → W p l e (headSpec wsX6_lacks (rmX6_lacks)).room s m (List.toArray [Value.ref e0, Value.int x0, Value.int x1]) below meth c H locs 0 0 Q (F0 m 0 ls []) := by
    intro H locs hP hD hS
    refine lv_aload_n hx hb dX6_lacks_0 rfl (lv_at hl 0 rfl) ?_
    refine va_get (D := D) (ci := 6) (v := .ref e9) (C := RX6) (T := TX6) (N := 28) hx hb hts hi_RX6 hown hK hP 0 rfl rfl 16 (by decide) (hts (.fieldLink RX6 34 "TravelMarksModel" "sortOf" "[I") (List.mem_of_getElem? (i := 1) rfl)) (fun _ h9 => h9) rfl dX6_lacks_1 ?_
    refine lv_iload_n hx hb dX6_lacks_4 rfl (lv_at hl 1 rfl) ?_
    obtain ⟨y2, ey2, hi1, hf⟩ := rdA_x hf
    refine va_iald hx hb hK hP 9 0 rfl rfl hi1 dX6_lacks_5 ?_
    refine lv_ren ey2 ?_
    refine lv_if_ge (tgt := 14) hx hb dX6_lacks_6 (by decide) (fun c3 => ?_) (fun c3 => ?_)
    · replace hf := if_te c3 hf
      refine lv_aload_n hx hb dX6_lacks_14 rfl (lv_at hl 0 rfl) ?_
      refine va_get (D := D) (ci := 6) (v := .ref e9) (C := RX6) (T := TX6) (N := 28) hx hb hts hi_RX6 hown hK hP 0 rfl rfl 16 (by decide) (hts (.fieldLink RX6 34 "TravelMarksModel" "sortOf" "[I") (List.mem_of_getElem? (i := 1) rfl)) (fun _ h9 => h9) rfl dX6_lacks_15 ?_
      refine lv_iload_n hx hb dX6_lacks_18 rfl (lv_at hl 1 rfl) ?_
      obtain ⟨y5, ey5, hi4, hf⟩ := rdA_x hf
      refine va_iald hx hb hK hP 9 0 rfl rfl hi4 dX6_lacks_19 ?_
      refine lv_ren ey5 ?_
      refine lv_iload_n hx hb dX6_lacks_20 rfl (lv_at hl 2 rfl) ?_
      refine lv_icmp_eq (tgt := 29) hx hb dX6_lacks_21 (by decide) (fun c6 => ?_) (fun c6 => ?_)
      · replace hf := if_te c6 hf
        refine lv_iconst (v := 0) hx hb dX6_lacks_29 rfl ?_
        cases hf
        exact kri hQ hAe hx hb hr hlocks hP hD hK hS dX6_lacks_30
      · replace hf := if_fe c6 hf
        refine lv_bipush (v := (-13)) hx hb dX6_lacks_24 rfl ?_
        refine lv_goto (tgt := 30) hx hb dX6_lacks_26 (by decide) ?_
        cases hf
        exact kri hQ hAe hx hb hr hlocks hP hD hK hS dX6_lacks_30
    · replace hf := if_fe c3 hf
      refine lv_bipush (v := (-11)) hx hb dX6_lacks_9 rfl ?_
      refine lv_goto (tgt := 30) hx hb dX6_lacks_11 (by decide) ?_
      cases hf
      exact kri hQ hAe hx hb hr hlocks hP hD hK hS dX6_lacks_30
  exact main _ _ hP hD hS

def rmX6_item : Room := { frames := 2, cells := 0, slots := 0, locals := 45 }
theorem hdX6_item : yX6_item.cls = RX6 ∧ yX6_item.cls ≠ "java/lang/invoke/MethodHandle" ∧ yX6_item.cls ≠ "java/lang/invoke/VarHandle" ∧ (parseMethodDescriptor yX6_item.desc).map (fun d => d.parameters.length) = some 3 := by decide +kernel
set_option maxHeartbeats 40000000 in
set_option maxRecDepth 100000 in
theorem c_X6_item (l : Launch) (E : Nat → Nat) (D : va_G) (C : Nat → ClassId) (e0 e1 e2 e3 e4 e5 e6 e7 e8 e9 e10 e11 e12 e13 e14 e15 : Nat) (sz : Nat) (m_s : Nat → Int32) (m_held : Nat → Int32) (m_aside : Nat → Int32) (m_before : Nat → Int32) (m_isHeld : Int32) (m_tape : Nat → Int32) (m_taped : Int32) (m_token : Int32) (m_from : Int32) (m_to : Int32) (m_value : Int32) (m_isWrong : Int32) (m_due : Nat → Int32) (m_firsts : Nat → Int32) (m_rows : Nat → Int32) (m_rowN : Int32) (m_sortOf : Nat → Int32) (m_sizeOf : Nat → Int32) (m_numbers : Nat → Int32) (m_holdsWhat : Nat → Int32) (m_holdsWhich : Nat → Int32) (m_holdsMany : Nat → Int32) (m_bodies : Nat → Int32) (m_ran : Int32) (m_actKind : Int32) (m_actN : Int32) (m_actA : Int32) (m_isParted : Int32) (x0 : Int32) (x1 : Int32) (x2 : Int32) (r : Int32) (hf : f_X6_item m_sortOf m_sizeOf m_numbers x0 x1 x2 = some r) : Met l yX6_item wsX6_item rmX6_item (PC E D C [.ref e0, .int x0, .int x1, .int x2] (oMM C e0 e1 e2 e3 e4 e5 e6 e7 e8 e9 e10 e11 e12 e13 e14 e15 m_s m_held m_aside m_before m_isHeld m_tape m_taped m_token m_from m_to m_value m_isWrong m_due m_firsts m_rows m_rowN m_sortOf m_sizeOf m_numbers m_holdsWhat m_holdsWhich m_holdsMany m_bodies m_ran m_actKind m_actN m_actA m_isParted []) sz) (QI D C (oMM C e0 e1 e2 e3 e4 e5 e6 e7 e8 e9 e10 e11 e12 e13 e14 e15 m_s m_held m_aside m_before m_isHeld m_tape m_taped m_token m_from m_to m_value m_isWrong m_due m_firsts m_rows m_rowN m_sortOf m_sizeOf m_numbers m_holdsWhat m_holdsWhich m_holdsMany m_bodies m_ran m_actKind m_actN m_actA m_isParted []) (oMM C e0 e1 e2 e3 e4 e5 e6 e7 e8 e9 e10 e11 e12 e13 e14 e15 m_s m_held m_aside m_before m_isHeld m_tape m_taped m_token m_from m_to m_value m_isWrong m_due m_firsts m_rows m_rowN m_sortOf m_sizeOf m_numbers m_holdsWhat m_holdsWhich m_holdsMany m_bodies m_ran m_actKind m_actN m_actA m_isParted []) sz r) 0 0 (va_A (oMM C e0 e1 e2 e3 e4 e5 e6 e7 e8 e9 e10 e11 e12 e13 e14 e15 m_s m_held m_aside m_before m_isHeld m_tape m_taped m_token m_from m_to m_value m_isWrong m_due m_firsts m_rows m_rowN m_sortOf m_sizeOf m_numbers m_holdsWhat m_holdsWhich m_holdsMany m_bodies m_ran m_actKind m_actN m_actA m_isParted []) sz) := by
  refine Met.ofW (cc := cX6_item) (maxL := 4) (ret := (some .int)) (by decide) rfl ?_
  intro p e s m args below meth c s₁ B hml hv
  obtain ⟨rfl, hsz, hP, hK, hD0, hE⟩ := hv
  have hx := B.exec
  have hb := B.bytes
  have hr := B.returns
  have hts := atoms_spec (ws := wsX6_item) B.pre
  have hown : s.vm.findClass RX6 = some m.cls := findClass_of_methodNamed B.named
  have hlocks := B.notSynchronized
  subst hsz
  have hi_RX6 : ∀ w ∈ wsX60, w ∈ wsX6_item := fun _ h => List.mem_cons_of_mem _ (List.mem_append_right _ h)
  have hD := hD0.self (sz := s.heap.size)
  obtain ⟨A, hAe⟩ := nm_ex (va_A (oMM C e0 e1 e2 e3 e4 e5 e6 e7 e8 e9 e10 e11 e12 e13 e14 e15 m_s m_held m_aside m_before m_isHeld m_tape m_taped m_token m_from m_to m_value m_isWrong m_due m_firsts m_rows m_rowN m_sortOf m_sizeOf m_numbers m_holdsWhat m_holdsWhich m_holdsMany m_bodies m_ran m_actKind m_actN m_actA m_isParted []) s.heap.size)
  rw [← hAe] at hD hE ⊢
  have hA : ∀ q : Nat, s.heap.size ≤ q → A q := fun q h => by rw [hAe]; exact Or.inr h
  have hS : va_S A s.heap s.heap [] := va_S.rf
  have hl := lv_entry ([.ref e0, .int x0, .int x1, .int x2]) (n := 4) (Nat.le_of_ble_eq_true rfl)
  rw [lg_entry_eq]
  generalize (lg_sl ([.ref e0, .int x0, .int x1, .int x2]) ++ List.replicate (4 - (lg_sl ([.ref e0, .int x0, .int x1, .int x2])).length) Slot.unset).toArray = ls at hl ⊢
  have hl : lv_has ls 4 [(0, .ref e0), (1, .int x0), (2, .int x1), (3, .int x2)] := hl
  obtain ⟨Q, hQ⟩ := nm_ex (MQ below (QI D C (oMM C e0 e1 e2 e3 e4 e5 e6 e7 e8 e9 e10 e11 e12 e13 e14 e15 m_s m_held m_aside m_before m_isHeld m_tape m_taped m_token m_from m_to m_value m_isWrong m_due m_firsts m_rows m_rowN m_sortOf m_sizeOf m_numbers m_holdsWhat m_holdsWhich m_holdsMany m_bodies m_ran m_actKind m_actN m_actA m_isParted []) (oMM C e0 e1 e2 e3 e4 e5 e6 e7 e8 e9 e10 e11 e12 e13 e14 e15 m_s m_held m_aside m_before m_isHeld m_tape m_taped m_token m_from m_to m_value m_isWrong m_due m_firsts m_rows m_rowN m_sortOf m_sizeOf m_numbers m_holdsWhat m_holdsWhich m_holdsMany m_bodies m_ran m_actKind m_actN m_actA m_isParted []) s.heap.size r) (List.toArray [Value.ref e0, Value.int x0, Value.int x1, Value.int x2]) s 0 0 A)
  show W p l e (headSpec wsX6_item (rmX6_item)).room s m (List.toArray [Value.ref e0, Value.int x0, Value.int x1, Value.int x2]) below meth c s.heap [] 0 0 (MQ below (QI D C (oMM C e0 e1 e2 e3 e4 e5 e6 e7 e8 e9 e10 e11 e12 e13 e14 e15 m_s m_held m_aside m_before m_isHeld m_tape m_taped m_token m_from m_to m_value m_isWrong m_due m_firsts m_rows m_rowN m_sortOf m_sizeOf m_numbers m_holdsWhat m_holdsWhich m_holdsMany m_bodies m_ran m_actKind m_actN m_actA m_isParted []) (oMM C e0 e1 e2 e3 e4 e5 e6 e7 e8 e9 e10 e11 e12 e13 e14 e15 m_s m_held m_aside m_before m_isHeld m_tape m_taped m_token m_from m_to m_value m_isWrong m_due m_firsts m_rows m_rowN m_sortOf m_sizeOf m_numbers m_holdsWhat m_holdsWhich m_holdsMany m_bodies m_ran m_actKind m_actN m_actA m_isParted []) s.heap.size r) (List.toArray [Value.ref e0, Value.int x0, Value.int x1, Value.int x2]) s 0 0 A) _
  rw [← hQ]
  unfold f_X6_item at hf
  have main : ∀ (H : Heap) (locs : List Loc), va_P D vwCl (oMM C e0 e1 e2 e3 e4 e5 e6 e7 e8 e9 e10 e11 e12 e13 e14 e15 m_s m_held m_aside m_before m_isHeld m_tape m_taped m_token m_from m_to m_value m_isWrong m_due m_firsts m_rows m_rowN m_sortOf m_sizeOf m_numbers m_holdsWhat m_holdsWhich m_holdsMany m_bodies m_ran m_actKind m_actN m_actA m_isParted []) H → va_D A (oMM C e0 e1 e2 e3 e4 e5 e6 e7 e8 e9 e10 e11 e12 e13 e14 e15 m_s m_held m_aside m_before m_isHeld m_tape m_taped m_token m_from m_to m_value m_isWrong m_due m_firsts m_rows m_rowN m_sortOf m_sizeOf m_numbers m_holdsWhat m_holdsWhich m_holdsMany m_bodies m_ran m_actKind m_actN m_actA m_isParted []) → va_S A s.heap H locs → W p l e (headSpec wsX6_item (rmX6_item)).room s m (List.toArray [Value.ref e0, Value.int x0, Value.int x1, Value.int x2]) below meth c H locs 0 0 Q (F0 m 0 ls []) := by
    intro H locs hP hD hS
    refine lv_iload_n hx hb dX6_item_0 rfl (lv_at hl 1 rfl) ?_
    refine kcz (Wx := (oMM C e0 e1 e2 e3 e4 e5 e6 e7 e8 e9 e10 e11 e12 e13 e14 e15 m_s m_held m_aside m_before m_isHeld m_tape m_taped m_token m_from m_to m_value m_isWrong m_due m_firsts m_rows m_rowN m_sortOf m_sizeOf m_numbers m_holdsWhat m_holdsWhich m_holdsMany m_bodies m_ran m_actKind m_actN m_actA m_isParted [])) (va_runS (As := [.int x0]) (rest := []) ⟨hx, hb, hml, hown, hts⟩ (c_X6_isSheet l E D C H.size x0 _ rfl) (va_cwS 1 hts gX6_item_X6_isSheet rfl rfl rfl hdX6_isSheet ⟨Nat.le_of_ble_eq_true rfl, Nat.le_of_ble_eq_true rfl⟩) (kpre hP hD hK hS hE hA [] rfl rfl) rfl rfl hl.1 rfl (lv_room (Nat.le_of_ble_eq_true rfl)) dX6_item_1 ⟨Nat.zero_le _, Nat.zero_le _⟩) hP hD hS hA [] rfl rfl rfl (fun H locs hz1 hP hD hS => ?_)
    refine lv_if_eq (tgt := 19) hx hb dX6_item_4 (by decide) (fun c2 => ?_) (fun c2 => ?_)
    · replace hf := if_te c2 hf
      refine lv_iconst (v := (-1)) hx hb dX6_item_19 rfl ?_
      cases hf
      exact kri hQ hAe hx hb hr hlocks hP hD hK hS dX6_item_20
    · replace hf := if_fe c2 hf
      refine lv_iload_n hx hb dX6_item_7 rfl (lv_at hl 2 rfl) ?_
      refine lv_i2l hx hb dX6_item_8 rfl ?_
      refine lv_lconst (v := 0) hx hb dX6_item_9 rfl ?_
      refine lv_ldc2 (v := 3) hx hb hown (hts (.constantLong RX6 156 (3)) (List.mem_of_getElem? (i := 1) rfl)) dX6_item_10 ?_
      refine kcz (Wx := (oMM C e0 e1 e2 e3 e4 e5 e6 e7 e8 e9 e10 e11 e12 e13 e14 e15 m_s m_held m_aside m_before m_isHeld m_tape m_taped m_token m_from m_to m_value m_isWrong m_due m_firsts m_rows m_rowN m_sortOf m_sizeOf m_numbers m_holdsWhat m_holdsWhich m_holdsMany m_bodies m_ran m_actKind m_actN m_actA m_isParted [])) (va_runS (As := [.long (Int32.toInt64 x1), .long 0, .long 3]) (rest := []) ⟨hx, hb, hml, hown, hts⟩ (c_X6_isIn l E D C H.size (Int32.toInt64 x1) 0 3 _ rfl) (va_cwS 3 hts gX6_item_X6_isIn rfl rfl rfl hdX6_isIn ⟨Nat.le_of_ble_eq_true rfl, Nat.le_of_ble_eq_true rfl⟩) (kpre hP hD hK hS hE hA [] rfl rfl) rfl rfl hl.1 rfl (lv_room (Nat.le_of_ble_eq_true rfl)) dX6_item_13 ⟨Nat.zero_le _, Nat.zero_le _⟩) hP hD hS hA [] rfl rfl rfl (fun H locs hz3 hP hD hS => ?_)
      refine lv_if_ne (tgt := 21) hx hb dX6_item_16 (by decide) (fun c4 => ?_) (fun c4 => ?_)
      · replace hf := if_fe c4 hf
        refine lv_aload_n hx hb dX6_item_21 rfl (lv_at hl 0 rfl) ?_
        refine lv_iload_n hx hb dX6_item_22 rfl (lv_at hl 1 rfl) ?_
        refine lv_iload_n hx hb dX6_item_23 rfl (lv_at hl 2 rfl) ?_
        obtain ⟨r5, h6, hf⟩ := ob1_e hf
        refine kci (Wx := (oMM C e0 e1 e2 e3 e4 e5 e6 e7 e8 e9 e10 e11 e12 e13 e14 e15 m_s m_held m_aside m_before m_isHeld m_tape m_taped m_token m_from m_to m_value m_isWrong m_due m_firsts m_rows m_rowN m_sortOf m_sizeOf m_numbers m_holdsWhat m_holdsWhich m_holdsMany m_bodies m_ran m_actKind m_actN m_actA m_isParted [])) (va_runV (As := [.int x0, .int x1]) (rest := []) ⟨hx, hb, hml, hown, hts⟩ (c_X6_lacks l E D C e0 e1 e2 e3 e4 e5 e6 e7 e8 e9 e10 e11 e12 e13 e14 e15 H.size m_s m_held m_aside m_before m_isHeld m_tape m_taped m_token m_from m_to m_value m_isWrong m_due m_firsts m_rows m_rowN m_sortOf m_sizeOf m_numbers m_holdsWhat m_holdsWhich m_holdsMany m_bodies m_ran m_actKind m_actN m_actA m_isParted x0 x1 r5 h6) (cwV 2 hts gX6_item_X6_lacks rfl rfl rfl hdX6_lacks ⟨Nat.le_of_ble_eq_true rfl, Nat.le_of_ble_eq_true rfl⟩) (kpreV hP hD hK hS hE hA [0, 1, 2, 3, 4, 5, 6, 7, 8, 9, 10, 11, 12, 13, 14, 15] rfl rfl 0 rfl rfl rfl) rfl rfl hl.1 rfl (lv_room (Nat.le_of_ble_eq_true rfl)) dX6_item_24 ⟨Nat.zero_le _, Nat.zero_le _⟩) hP hD hS hA [0, 1, 2, 3, 4, 5, 6, 7, 8, 9, 10, 11, 12, 13, 14, 15] rfl rfl rfl (fun H locs hP hD hS => ?_)
        refine lv_if_eq (tgt := 37) hx hb dX6_item_27 (by decide) (fun c7 => ?_) (fun c7 => ?_)
        · replace hf := if_te c7 hf
          refine lv_iload_n hx hb dX6_item_37 rfl (lv_at hl 3 rfl) ?_
          refine lv_i2l hx hb dX6_item_38 rfl ?_
          refine lv_lconst (v := 0) hx hb dX6_item_39 rfl ?_
          refine lv_aload_n hx hb dX6_item_40 rfl (lv_at hl 0 rfl) ?_
          refine va_get (D := D) (ci := 6) (v := .ref e10) (C := RX6) (T := TX6) (N := 28) hx hb hts hi_RX6 hown hK hP 0 rfl rfl 17 (by decide) (hts (.fieldLink RX6 37 "TravelMarksModel" "sizeOf" "[I") (List.mem_of_getElem? (i := 2) rfl)) (fun _ h9 => h9) rfl dX6_item_41 ?_
          refine lv_iload_n hx hb dX6_item_44 rfl (lv_at hl 1 rfl) ?_
          obtain ⟨y9, ey9, hi8, hf⟩ := rdA_x hf
          refine va_iald hx hb hK hP 10 0 rfl rfl hi8 dX6_item_45 ?_
          refine lv_ren ey9 ?_
          refine lv_iconst (v := 1) hx hb dX6_item_46 rfl ?_
          refine lv_isub hx hb dX6_item_47 ?_
          refine lv_i2l hx hb dX6_item_48 rfl ?_
          refine kcz (Wx := (oMM C e0 e1 e2 e3 e4 e5 e6 e7 e8 e9 e10 e11 e12 e13 e14 e15 m_s m_held m_aside m_before m_isHeld m_tape m_taped m_token m_from m_to m_value m_isWrong m_due m_firsts m_rows m_rowN m_sortOf m_sizeOf m_numbers m_holdsWhat m_holdsWhich m_holdsMany m_bodies m_ran m_actKind m_actN m_actA m_isParted [])) (va_runS (As := [.long (Int32.toInt64 x2), .long 0, .long (Int32.toInt64 (y9 - 1))]) (rest := []) ⟨hx, hb, hml, hown, hts⟩ (c_X6_isIn l E D C H.size (Int32.toInt64 x2) 0 (Int32.toInt64 (y9 - 1)) _ rfl) (va_cwS 3 hts gX6_item_X6_isIn rfl rfl rfl hdX6_isIn ⟨Nat.le_of_ble_eq_true rfl, Nat.le_of_ble_eq_true rfl⟩) (kpre hP hD hK hS hE hA [] rfl rfl) rfl rfl hl.1 rfl (lv_room (Nat.le_of_ble_eq_true rfl)) dX6_item_49 ⟨Nat.zero_le _, Nat.zero_le _⟩) hP hD hS hA [] rfl rfl rfl (fun H locs hz10 hP hD hS => ?_)
          refine lv_if_eq (tgt := 69) hx hb dX6_item_52 (by decide) (fun c11 => ?_) (fun c11 => ?_)
          · replace hf := if_te c11 hf
            refine lv_bipush (v := (-12)) hx hb dX6_item_69 rfl ?_
            cases hf
            exact kri hQ hAe hx hb hr hlocks hP hD hK hS dX6_item_71
          · replace hf := if_fe c11 hf
            refine lv_aload_n hx hb dX6_item_55 rfl (lv_at hl 0 rfl) ?_
            refine va_get (D := D) (ci := 6) (v := .ref e11) (C := RX6) (T := TX6) (N := 28) hx hb hts hi_RX6 hown hK hP 0 rfl rfl 18 (by decide) (hts (.fieldLink RX6 40 "TravelMarksModel" "numbers" "[I") (List.mem_of_getElem? (i := 3) rfl)) (fun _ h9 => h9) rfl dX6_item_56 ?_
            refine lv_bipush (v := 40) hx hb dX6_item_59 rfl ?_
            refine lv_iload_n hx hb dX6_item_61 rfl (lv_at hl 1 rfl) ?_
            refine lv_imul hx hb dX6_item_62 ?_
            refine lv_iload_n hx hb dX6_item_63 rfl (lv_at hl 3 rfl) ?_
            refine lv_iadd hx hb dX6_item_64 ?_
            obtain ⟨y13, ey13, hi12, hf⟩ := rdA_x hf
            refine va_iald hx hb hK hP 11 0 rfl rfl hi12 dX6_item_65 ?_
            refine lv_ren ey13 ?_
            refine lv_goto (tgt := 71) hx hb dX6_item_66 (by decide) ?_
            cases hf
            exact kri hQ hAe hx hb hr hlocks hP hD hK hS dX6_item_71
        · replace hf := if_fe c7 hf
          refine lv_aload_n hx hb dX6_item_30 rfl (lv_at hl 0 rfl) ?_
          refine lv_iload_n hx hb dX6_item_31 rfl (lv_at hl 1 rfl) ?_
          refine lv_iload_n hx hb dX6_item_32 rfl (lv_at hl 2 rfl) ?_
          obtain ⟨r14, h15, hf⟩ := ob1_e hf
          refine kci (Wx := (oMM C e0 e1 e2 e3 e4 e5 e6 e7 e8 e9 e10 e11 e12 e13 e14 e15 m_s m_held m_aside m_before m_isHeld m_tape m_taped m_token m_from m_to m_value m_isWrong m_due m_firsts m_rows m_rowN m_sortOf m_sizeOf m_numbers m_holdsWhat m_holdsWhich m_holdsMany m_bodies m_ran m_actKind m_actN m_actA m_isParted [])) (va_runV (As := [.int x0, .int x1]) (rest := []) ⟨hx, hb, hml, hown, hts⟩ (c_X6_lacks l E D C e0 e1 e2 e3 e4 e5 e6 e7 e8 e9 e10 e11 e12 e13 e14 e15 H.size m_s m_held m_aside m_before m_isHeld m_tape m_taped m_token m_from m_to m_value m_isWrong m_due m_firsts m_rows m_rowN m_sortOf m_sizeOf m_numbers m_holdsWhat m_holdsWhich m_holdsMany m_bodies m_ran m_actKind m_actN m_actA m_isParted x0 x1 r14 h15) (cwV 2 hts gX6_item_X6_lacks rfl rfl rfl hdX6_lacks ⟨Nat.le_of_ble_eq_true rfl, Nat.le_of_ble_eq_true rfl⟩) (kpreV hP hD hK hS hE hA [0, 1, 2, 3, 4, 5, 6, 7, 8, 9, 10, 11, 12, 13, 14, 15] rfl rfl 0 rfl rfl rfl) rfl rfl hl.1 rfl (lv_room (Nat.le_of_ble_eq_true rfl)) dX6_item_33 ⟨Nat.zero_le _, Nat.zero_le _⟩) hP hD hS hA [0, 1, 2, 3, 4, 5, 6, 7, 8, 9, 10, 11, 12, 13, 14, 15] rfl rfl rfl (fun H locs hP hD hS => ?_)
          cases hf
          exact kri hQ hAe hx hb hr hlocks hP hD hK hS dX6_item_36
      · replace hf := if_te c4 hf
        refine lv_iconst (v := (-1)) hx hb dX6_item_19 rfl ?_
        cases hf
        exact kri hQ hAe hx hb hr hlocks hP hD hK hS dX6_item_20
  exact main _ _ hP hD hS

def rmX6_minds : Room := { frames := 2, cells := 0, slots := 0, locals := 45 }
theorem hdX6_minds : yX6_minds.cls = RX6 ∧ yX6_minds.cls ≠ "java/lang/invoke/MethodHandle" ∧ yX6_minds.cls ≠ "java/lang/invoke/VarHandle" ∧ (parseMethodDescriptor yX6_minds.desc).map (fun d => d.parameters.length) = some 4 := by decide +kernel
set_option maxHeartbeats 40000000 in
set_option maxRecDepth 100000 in
theorem c_X6_minds (l : Launch) (E : Nat → Nat) (D : va_G) (C : Nat → ClassId) (e0 e1 e2 e3 e4 e5 e6 e7 e8 e9 e10 e11 e12 e13 e14 e15 : Nat) (sz : Nat) (N : Nat) (m_s : Nat → Int32) (m_held : Nat → Int32) (m_aside : Nat → Int32) (m_before : Nat → Int32) (m_isHeld : Int32) (m_tape : Nat → Int32) (m_taped : Int32) (m_token : Int32) (m_from : Int32) (m_to : Int32) (m_value : Int32) (m_isWrong : Int32) (m_due : Nat → Int32) (m_firsts : Nat → Int32) (m_rows : Nat → Int32) (m_rowN : Int32) (m_sortOf : Nat → Int32) (m_sizeOf : Nat → Int32) (m_numbers : Nat → Int32) (m_holdsWhat : Nat → Int32) (m_holdsWhich : Nat → Int32) (m_holdsMany : Nat → Int32) (m_bodies : Nat → Int32) (m_ran : Int32) (m_actKind : Int32) (m_actN : Int32) (m_actA : Int32) (m_isParted : Int32) (x0 : Int32) (x1 : Int32) (x2 : Int32) (x3 : Int32) (r : Int32) (m_s' : Nat → Int32) (hf : f_X6_minds N m_s m_sortOf m_sizeOf m_numbers x0 x1 x2 x3 = some (r, m_s')) : Met l yX6_minds wsX6_minds rmX6_minds (PC E D C [.ref e0, .int x0, .int x1, .int x2, .int x3] (oMM C e0 e1 e2 e3 e4 e5 e6 e7 e8 e9 e10 e11 e12 e13 e14 e15 m_s m_held m_aside m_before m_isHeld m_tape m_taped m_token m_from m_to m_value m_isWrong m_due m_firsts m_rows m_rowN m_sortOf m_sizeOf m_numbers m_holdsWhat m_holdsWhich m_holdsMany m_bodies m_ran m_actKind m_actN m_actA m_isParted []) sz) (QI D C (oMM C e0 e1 e2 e3 e4 e5 e6 e7 e8 e9 e10 e11 e12 e13 e14 e15 m_s m_held m_aside m_before m_isHeld m_tape m_taped m_token m_from m_to m_value m_isWrong m_due m_firsts m_rows m_rowN m_sortOf m_sizeOf m_numbers m_holdsWhat m_holdsWhich m_holdsMany m_bodies m_ran m_actKind m_actN m_actA m_isParted []) (oMM C e0 e1 e2 e3 e4 e5 e6 e7 e8 e9 e10 e11 e12 e13 e14 e15 (m_s') m_held m_aside m_before m_isHeld m_tape m_taped m_token m_from m_to m_value m_isWrong m_due m_firsts m_rows m_rowN m_sortOf m_sizeOf m_numbers m_holdsWhat m_holdsWhich m_holdsMany m_bodies m_ran m_actKind m_actN m_actA m_isParted []) sz r) 0 0 (va_A (oMM C e0 e1 e2 e3 e4 e5 e6 e7 e8 e9 e10 e11 e12 e13 e14 e15 m_s m_held m_aside m_before m_isHeld m_tape m_taped m_token m_from m_to m_value m_isWrong m_due m_firsts m_rows m_rowN m_sortOf m_sizeOf m_numbers m_holdsWhat m_holdsWhich m_holdsMany m_bodies m_ran m_actKind m_actN m_actA m_isParted []) sz) := by
  refine Met.ofW (cc := cX6_minds) (maxL := 6) (ret := (some .int)) (by decide) rfl ?_
  intro p e s m args below meth c s₁ B hml hv
  obtain ⟨rfl, hsz, hP, hK, hD0, hE⟩ := hv
  have hx := B.exec
  have hb := B.bytes
  have hr := B.returns
  have hts := atoms_spec (ws := wsX6_minds) B.pre
  have hown : s.vm.findClass RX6 = some m.cls := findClass_of_methodNamed B.named
  have hlocks := B.notSynchronized
  subst hsz
  have hi_RX6 : ∀ w ∈ wsX60, w ∈ wsX6_minds := fun _ h => List.mem_cons_of_mem _ (List.mem_append_right _ h)
  have hD := hD0.self (sz := s.heap.size)
  obtain ⟨A, hAe⟩ := nm_ex (va_A (oMM C e0 e1 e2 e3 e4 e5 e6 e7 e8 e9 e10 e11 e12 e13 e14 e15 m_s m_held m_aside m_before m_isHeld m_tape m_taped m_token m_from m_to m_value m_isWrong m_due m_firsts m_rows m_rowN m_sortOf m_sizeOf m_numbers m_holdsWhat m_holdsWhich m_holdsMany m_bodies m_ran m_actKind m_actN m_actA m_isParted []) s.heap.size)
  rw [← hAe] at hD hE ⊢
  have hA : ∀ q : Nat, s.heap.size ≤ q → A q := fun q h => by rw [hAe]; exact Or.inr h
  have hS : va_S A s.heap s.heap [] := va_S.rf
  have hl := lv_entry ([.ref e0, .int x0, .int x1, .int x2, .int x3]) (n := 6) (Nat.le_of_ble_eq_true rfl)
  rw [lg_entry_eq]
  generalize (lg_sl ([.ref e0, .int x0, .int x1, .int x2, .int x3]) ++ List.replicate (6 - (lg_sl ([.ref e0, .int x0, .int x1, .int x2, .int x3])).length) Slot.unset).toArray = ls at hl ⊢
  have hl : lv_has ls 6 [(0, .ref e0), (1, .int x0), (2, .int x1), (3, .int x2), (4, .int x3)] := hl
  obtain ⟨Q, hQ⟩ := nm_ex (MQ below (QI D C (oMM C e0 e1 e2 e3 e4 e5 e6 e7 e8 e9 e10 e11 e12 e13 e14 e15 m_s m_held m_aside m_before m_isHeld m_tape m_taped m_token m_from m_to m_value m_isWrong m_due m_firsts m_rows m_rowN m_sortOf m_sizeOf m_numbers m_holdsWhat m_holdsWhich m_holdsMany m_bodies m_ran m_actKind m_actN m_actA m_isParted []) (oMM C e0 e1 e2 e3 e4 e5 e6 e7 e8 e9 e10 e11 e12 e13 e14 e15 (m_s') m_held m_aside m_before m_isHeld m_tape m_taped m_token m_from m_to m_value m_isWrong m_due m_firsts m_rows m_rowN m_sortOf m_sizeOf m_numbers m_holdsWhat m_holdsWhich m_holdsMany m_bodies m_ran m_actKind m_actN m_actA m_isParted []) s.heap.size r) (List.toArray [Value.ref e0, Value.int x0, Value.int x1, Value.int x2, Value.int x3]) s 0 0 A)
  show W p l e (headSpec wsX6_minds (rmX6_minds)).room s m (List.toArray [Value.ref e0, Value.int x0, Value.int x1, Value.int x2, Value.int x3]) below meth c s.heap [] 0 0 (MQ below (QI D C (oMM C e0 e1 e2 e3 e4 e5 e6 e7 e8 e9 e10 e11 e12 e13 e14 e15 m_s m_held m_aside m_before m_isHeld m_tape m_taped m_token m_from m_to m_value m_isWrong m_due m_firsts m_rows m_rowN m_sortOf m_sizeOf m_numbers m_holdsWhat m_holdsWhich m_holdsMany m_bodies m_ran m_actKind m_actN m_actA m_isParted []) (oMM C e0 e1 e2 e3 e4 e5 e6 e7 e8 e9 e10 e11 e12 e13 e14 e15 (m_s') m_held m_aside m_before m_isHeld m_tape m_taped m_token m_from m_to m_value m_isWrong m_due m_firsts m_rows m_rowN m_sortOf m_sizeOf m_numbers m_holdsWhat m_holdsWhich m_holdsMany m_bodies m_ran m_actKind m_actN m_actA m_isParted []) s.heap.size r) (List.toArray [Value.ref e0, Value.int x0, Value.int x1, Value.int x2, Value.int x3]) s 0 0 A) _
  rw [← hQ]
  unfold f_X6_minds at hf
  have main : ∀ (H : Heap) (locs : List Loc), va_P D vwCl (oMM C e0 e1 e2 e3 e4 e5 e6 e7 e8 e9 e10 e11 e12 e13 e14 e15 m_s m_held m_aside m_before m_isHeld m_tape m_taped m_token m_from m_to m_value m_isWrong m_due m_firsts m_rows m_rowN m_sortOf m_sizeOf m_numbers m_holdsWhat m_holdsWhich m_holdsMany m_bodies m_ran m_actKind m_actN m_actA m_isParted []) H → va_D A (oMM C e0 e1 e2 e3 e4 e5 e6 e7 e8 e9 e10 e11 e12 e13 e14 e15 m_s m_held m_aside m_before m_isHeld m_tape m_taped m_token m_from m_to m_value m_isWrong m_due m_firsts m_rows m_rowN m_sortOf m_sizeOf m_numbers m_holdsWhat m_holdsWhich m_holdsMany m_bodies m_ran m_actKind m_actN m_actA m_isParted []) → va_S A s.heap H locs → W p l e (headSpec wsX6_minds (rmX6_minds)).room s m (List.toArray [Value.ref e0, Value.int x0, Value.int x1, Value.int x2, Value.int x3]) below meth c H locs 0 0 Q (F0 m 0 ls []) := by
    intro H locs hP hD hS
    refine lv_iload_n hx hb dX6_minds_0 rfl (lv_at hl 1 rfl) ?_
    refine kcz (Wx := (oMM C e0 e1 e2 e3 e4 e5 e6 e7 e8 e9 e10 e11 e12 e13 e14 e15 m_s m_held m_aside m_before m_isHeld m_tape m_taped m_token m_from m_to m_value m_isWrong m_due m_firsts m_rows m_rowN m_sortOf m_sizeOf m_numbers m_holdsWhat m_holdsWhich m_holdsMany m_bodies m_ran m_actKind m_actN m_actA m_isParted [])) (va_runS (As := [.int x0]) (rest := []) ⟨hx, hb, hml, hown, hts⟩ (c_X6_isSheet l E D C H.size x0 _ rfl) (va_cwS 1 hts gX6_minds_X6_isSheet rfl rfl rfl hdX6_isSheet ⟨Nat.le_of_ble_eq_true rfl, Nat.le_of_ble_eq_true rfl⟩) (kpre hP hD hK hS hE hA [] rfl rfl) rfl rfl hl.1 rfl (lv_room (Nat.le_of_ble_eq_true rfl)) dX6_minds_1 ⟨Nat.zero_le _, Nat.zero_le _⟩) hP hD hS hA [] rfl rfl rfl (fun H locs hz1 hP hD hS => ?_)
    refine lv_if_eq (tgt := 41) hx hb dX6_minds_4 (by decide) (fun c2 => ?_) (fun c2 => ?_)
    · replace hf := if_te c2 hf
      refine lv_iconst (v := (-1)) hx hb dX6_minds_41 rfl ?_
      cases hf
      exact kri hQ hAe hx hb hr hlocks hP hD hK hS dX6_minds_42
    · replace hf := if_fe c2 hf
      refine lv_aload_n hx hb dX6_minds_7 rfl (lv_at hl 0 rfl) ?_
      refine lv_iload_n hx hb dX6_minds_8 rfl (lv_at hl 3 rfl) ?_
      refine kcz (Wx := (oMM C e0 e1 e2 e3 e4 e5 e6 e7 e8 e9 e10 e11 e12 e13 e14 e15 m_s m_held m_aside m_before m_isHeld m_tape m_taped m_token m_from m_to m_value m_isWrong m_due m_firsts m_rows m_rowN m_sortOf m_sizeOf m_numbers m_holdsWhat m_holdsWhich m_holdsMany m_bodies m_ran m_actKind m_actN m_actA m_isParted [])) (va_runV (As := [.int x2]) (rest := []) ⟨hx, hb, hml, hown, hts⟩ (c_X6_isOne l E D C e0 e1 e2 e3 e4 e5 e6 e7 e8 e9 e10 e11 e12 e13 e14 e15 H.size m_s m_held m_aside m_before m_isHeld m_tape m_taped m_token m_from m_to m_value m_isWrong m_due m_firsts m_rows m_rowN m_sortOf m_sizeOf m_numbers m_holdsWhat m_holdsWhich m_holdsMany m_bodies m_ran m_actKind m_actN m_actA m_isParted x2 _ rfl) (cwV 1 hts gX6_minds_X6_isOne rfl rfl rfl hdX6_isOne ⟨Nat.le_of_ble_eq_true rfl, Nat.le_of_ble_eq_true rfl⟩) (kpreV hP hD hK hS hE hA [0, 1, 2, 3, 4, 5, 6, 7, 8, 9, 10, 11, 12, 13, 14, 15] rfl rfl 0 rfl rfl rfl) rfl rfl hl.1 rfl (lv_room (Nat.le_of_ble_eq_true rfl)) dX6_minds_9 ⟨Nat.zero_le _, Nat.zero_le _⟩) hP hD hS hA [0, 1, 2, 3, 4, 5, 6, 7, 8, 9, 10, 11, 12, 13, 14, 15] rfl rfl rfl (fun H locs hz3 hP hD hS => ?_)
      refine lv_if_eq (tgt := 41) hx hb dX6_minds_12 (by decide) (fun c4 => ?_) (fun c4 => ?_)
      · replace hf := if_te c4 hf
        refine lv_iconst (v := (-1)) hx hb dX6_minds_41 rfl ?_
        cases hf
        exact kri hQ hAe hx hb hr hlocks hP hD hK hS dX6_minds_42
      · replace hf := if_fe c4 hf
        refine lv_iload hx hb dX6_minds_15 (lv_at hl 4 rfl) ?_
        refine lv_i2l hx hb dX6_minds_17 rfl ?_
        refine lv_lconst (v := 0) hx hb dX6_minds_18 rfl ?_
        refine lv_ldc2 (v := 8) hx hb hown (hts (.constantLong RX6 58 (8)) (List.mem_of_getElem? (i := 1) rfl)) dX6_minds_19 ?_
        refine kcz (Wx := (oMM C e0 e1 e2 e3 e4 e5 e6 e7 e8 e9 e10 e11 e12 e13 e14 e15 m_s m_held m_aside m_before m_isHeld m_tape m_taped m_token m_from m_to m_value m_isWrong m_due m_firsts m_rows m_rowN m_sortOf m_sizeOf m_numbers m_holdsWhat m_holdsWhich m_holdsMany m_bodies m_ran m_actKind m_actN m_actA m_isParted [])) (va_runS (As := [.long (Int32.toInt64 x3), .long 0, .long 8]) (rest := []) ⟨hx, hb, hml, hown, hts⟩ (c_X6_isIn l E D C H.size (Int32.toInt64 x3) 0 8 _ rfl) (va_cwS 3 hts gX6_minds_X6_isIn rfl rfl rfl hdX6_isIn ⟨Nat.le_of_ble_eq_true rfl, Nat.le_of_ble_eq_true rfl⟩) (kpre hP hD hK hS hE hA [] rfl rfl) rfl rfl hl.1 rfl (lv_room (Nat.le_of_ble_eq_true rfl)) dX6_minds_22 ⟨Nat.zero_le _, Nat.zero_le _⟩) hP hD hS hA [] rfl rfl rfl (fun H locs hz5 hP hD hS => ?_)
        refine lv_if_eq (tgt := 41) hx hb dX6_minds_25 (by decide) (fun c6 => ?_) (fun c6 => ?_)
        · replace hf := if_te c6 hf
          refine lv_iconst (v := (-1)) hx hb dX6_minds_41 rfl ?_
          cases hf
          exact kri hQ hAe hx hb hr hlocks hP hD hK hS dX6_minds_42
        · replace hf := if_fe c6 hf
          refine lv_iload_n hx hb dX6_minds_28 rfl (lv_at hl 3 rfl) ?_
          refine lv_iload hx hb dX6_minds_29 (lv_at hl 4 rfl) ?_
          refine lv_iadd hx hb dX6_minds_31 ?_
          refine lv_aload_n hx hb dX6_minds_32 rfl (lv_at hl 0 rfl) ?_
          refine va_get (D := D) (ci := 6) (v := .ref e1) (C := RX6) (T := TX6) (N := 28) hx hb hts hi_RX6 hown hK hP 0 rfl rfl 0 (by decide) (hts (.fieldLink RX6 7 "TravelMarksModel" "s" "[I") (List.mem_of_getElem? (i := 2) rfl)) (fun _ h9 => h9) rfl dX6_minds_33 ?_
          refine lv_iconst (v := 0) hx hb dX6_minds_36 rfl ?_
          refine va_iald hx hb hK hP 1 0 rfl rfl (i := 0) (vin (by decide)) dX6_minds_37 ?_
          refine lv_ren (show (m_s 0) = m_s (Int32.toNatClampNeg 0) from rfl) ?_
          refine lv_icmp_le (tgt := 43) hx hb dX6_minds_38 (by decide) (fun c7 => ?_) (fun c7 => ?_)
          · replace hf := if_te c7 hf
            refine lv_aload_n hx hb dX6_minds_43 rfl (lv_at hl 0 rfl) ?_
            refine lv_iload_n hx hb dX6_minds_44 rfl (lv_at hl 1 rfl) ?_
            refine lv_iconst (v := 0) hx hb dX6_minds_45 rfl ?_
            obtain ⟨r8, h9, hf⟩ := ob1_e hf
            refine kci (Wx := (oMM C e0 e1 e2 e3 e4 e5 e6 e7 e8 e9 e10 e11 e12 e13 e14 e15 m_s m_held m_aside m_before m_isHeld m_tape m_taped m_token m_from m_to m_value m_isWrong m_due m_firsts m_rows m_rowN m_sortOf m_sizeOf m_numbers m_holdsWhat m_holdsWhich m_holdsMany m_bodies m_ran m_actKind m_actN m_actA m_isParted [])) (va_runV (As := [.int x0, .int 0]) (rest := []) ⟨hx, hb, hml, hown, hts⟩ (c_X6_lacks l E D C e0 e1 e2 e3 e4 e5 e6 e7 e8 e9 e10 e11 e12 e13 e14 e15 H.size m_s m_held m_aside m_before m_isHeld m_tape m_taped m_token m_from m_to m_value m_isWrong m_due m_firsts m_rows m_rowN m_sortOf m_sizeOf m_numbers m_holdsWhat m_holdsWhich m_holdsMany m_bodies m_ran m_actKind m_actN m_actA m_isParted x0 0 r8 h9) (cwV 2 hts gX6_minds_X6_lacks rfl rfl rfl hdX6_lacks ⟨Nat.le_of_ble_eq_true rfl, Nat.le_of_ble_eq_true rfl⟩) (kpreV hP hD hK hS hE hA [0, 1, 2, 3, 4, 5, 6, 7, 8, 9, 10, 11, 12, 13, 14, 15] rfl rfl 0 rfl rfl rfl) rfl rfl hl.1 rfl (lv_room (Nat.le_of_ble_eq_true rfl)) dX6_minds_46 ⟨Nat.zero_le _, Nat.zero_le _⟩) hP hD hS hA [0, 1, 2, 3, 4, 5, 6, 7, 8, 9, 10, 11, 12, 13, 14, 15] rfl rfl rfl (fun H locs hP hD hS => ?_)
            refine lv_if_eq (tgt := 59) hx hb dX6_minds_49 (by decide) (fun c10 => ?_) (fun c10 => ?_)
            · replace hf := if_te c10 hf
              refine lv_iload_n hx hb dX6_minds_59 rfl (lv_at hl 2 rfl) ?_
              refine lv_i2l hx hb dX6_minds_60 rfl ?_
              refine lv_lconst (v := 0) hx hb dX6_minds_61 rfl ?_
              refine lv_aload_n hx hb dX6_minds_62 rfl (lv_at hl 0 rfl) ?_
              refine va_get (D := D) (ci := 6) (v := .ref e10) (C := RX6) (T := TX6) (N := 28) hx hb hts hi_RX6 hown hK hP 0 rfl rfl 17 (by decide) (hts (.fieldLink RX6 37 "TravelMarksModel" "sizeOf" "[I") (List.mem_of_getElem? (i := 3) rfl)) (fun _ h9 => h9) rfl dX6_minds_63 ?_
              refine lv_iload_n hx hb dX6_minds_66 rfl (lv_at hl 1 rfl) ?_
              obtain ⟨y12, ey12, hi11, hf⟩ := rdA_x hf
              refine va_iald hx hb hK hP 10 0 rfl rfl hi11 dX6_minds_67 ?_
              refine lv_ren ey12 ?_
              refine lv_i2l hx hb dX6_minds_68 rfl ?_
              refine kcz (Wx := (oMM C e0 e1 e2 e3 e4 e5 e6 e7 e8 e9 e10 e11 e12 e13 e14 e15 m_s m_held m_aside m_before m_isHeld m_tape m_taped m_token m_from m_to m_value m_isWrong m_due m_firsts m_rows m_rowN m_sortOf m_sizeOf m_numbers m_holdsWhat m_holdsWhich m_holdsMany m_bodies m_ran m_actKind m_actN m_actA m_isParted [])) (va_runS (As := [.long (Int32.toInt64 x1), .long 0, .long (Int32.toInt64 y12)]) (rest := []) ⟨hx, hb, hml, hown, hts⟩ (c_X6_isIn l E D C H.size (Int32.toInt64 x1) 0 (Int32.toInt64 y12) _ rfl) (va_cwS 3 hts gX6_minds_X6_isIn rfl rfl rfl hdX6_isIn ⟨Nat.le_of_ble_eq_true rfl, Nat.le_of_ble_eq_true rfl⟩) (kpre hP hD hK hS hE hA [] rfl rfl) rfl rfl hl.1 rfl (lv_room (Nat.le_of_ble_eq_true rfl)) dX6_minds_69 ⟨Nat.zero_le _, Nat.zero_le _⟩) hP hD hS hA [] rfl rfl rfl (fun H locs hz13 hP hD hS => ?_)
              refine lv_if_eq (tgt := 92) hx hb dX6_minds_72 (by decide) (fun c14 => ?_) (fun c14 => ?_)
              · replace hf := if_te c14 hf
                refine lv_bipush (v := (-12)) hx hb dX6_minds_92 rfl ?_
                cases hf
                exact kri hQ hAe hx hb hr hlocks hP hD hK hS dX6_minds_94
              · replace hf := if_fe c14 hf
                refine lv_iload_n hx hb dX6_minds_75 rfl (lv_at hl 2 rfl) ?_
                refine lv_i2l hx hb dX6_minds_76 rfl ?_
                refine lv_iload hx hb dX6_minds_77 (lv_at hl 4 rfl) ?_
                refine lv_i2l hx hb dX6_minds_79 rfl ?_
                refine lv_ladd hx hb dX6_minds_80 ?_
                refine lv_aload_n hx hb dX6_minds_81 rfl (lv_at hl 0 rfl) ?_
                refine va_get (D := D) (ci := 6) (v := .ref e10) (C := RX6) (T := TX6) (N := 28) hx hb hts hi_RX6 hown hK hP 0 rfl rfl 17 (by decide) (hts (.fieldLink RX6 37 "TravelMarksModel" "sizeOf" "[I") (List.mem_of_getElem? (i := 3) rfl)) (fun _ h9 => h9) rfl dX6_minds_82 ?_
                refine lv_iload_n hx hb dX6_minds_85 rfl (lv_at hl 1 rfl) ?_
                obtain ⟨y16, ey16, hi15, hf⟩ := rdA_x hf
                refine va_iald hx hb hK hP 10 0 rfl rfl hi15 dX6_minds_86 ?_
                refine lv_ren ey16 ?_
                refine lv_i2l hx hb dX6_minds_87 rfl ?_
                refine W.lcmp hx hb dX6_minds_88 ?_
                refine lv_if_le (tgt := 95) hx hb dX6_minds_89 (by decide) (fun c17 => ?_) (fun c17 => ?_)
                · replace hf := if_te c17 hf
                  refine lv_iconst (v := 0) hx hb dX6_minds_95 rfl ?_
                  refine lv_istore (lv' := [(5, .int 0), (0, .ref e0), (1, .int x0), (2, .int x1), (3, .int x2), (4, .int x3)]) hx hb dX6_minds_96 hl (by decide) rfl (fun ls hl => ?_)
                  have hL98 : ∀ (n : Nat) (i18 : Int32) (v19 : Nat → Int32) (H : Heap) (locs : List Loc) (ls : Array Slot), va_P D vwCl (oMM C e0 e1 e2 e3 e4 e5 e6 e7 e8 e9 e10 e11 e12 e13 e14 e15 v19 m_held m_aside m_before m_isHeld m_tape m_taped m_token m_from m_to m_value m_isWrong m_due m_firsts m_rows m_rowN m_sortOf m_sizeOf m_numbers m_holdsWhat m_holdsWhich m_holdsMany m_bodies m_ran m_actKind m_actN m_actA m_isParted []) H → va_D A (oMM C e0 e1 e2 e3 e4 e5 e6 e7 e8 e9 e10 e11 e12 e13 e14 e15 v19 m_held m_aside m_before m_isHeld m_tape m_taped m_token m_from m_to m_value m_isWrong m_due m_firsts m_rows m_rowN m_sortOf m_sizeOf m_numbers m_holdsWhat m_holdsWhich m_holdsMany m_bodies m_ran m_actKind m_actN m_actA m_isParted []) → va_S A s.heap H locs → lv_has ls 6 [(5, .int i18), (0, .ref e0), (1, .int x0), (2, .int x1), (3, .int x2), (4, .int x3)] → f_X6_minds_L98 m_numbers x0 x1 x2 x3 n i18 v19 = some (r, m_s') → W p l e (headSpec wsX6_minds (rmX6_minds)).room s m (List.toArray [Value.ref e0, Value.int x0, Value.int x1, Value.int x2, Value.int x3]) below meth c H locs 0 0 Q (F0 m 98 ls []) := by
                    intro n
                    induction n with
                    | zero =>
                      intro i18 v19 H locs ls hP hD hS hl hf
                      exact absurd hf (fun h => by cases h)
                    | succ n ih =>
                      intro i18 v19 H locs ls hP hD hS hl hf
                      rw [f_X6_minds_L98] at hf
                      refine lv_iload hx hb dX6_minds_98 (lv_at hl 0 rfl) ?_
                      refine lv_iload hx hb dX6_minds_100 (lv_at hl 5 rfl) ?_
                      refine lv_icmp_ge (tgt := 144) hx hb dX6_minds_102 (by decide) (fun c20 => ?_) (fun c20 => ?_)
                      · replace hf := if_te c20 hf
                        refine lv_iload hx hb dX6_minds_144 (lv_at hl 5 rfl) ?_
                        cases hf
                        exact kri hQ hAe hx hb hr hlocks hP hD hK hS dX6_minds_146
                      · replace hf := if_fe c20 hf
                        refine lv_aload_n hx hb dX6_minds_105 rfl (lv_at hl 1 rfl) ?_
                        refine va_get (D := D) (ci := 6) (v := .ref e1) (C := RX6) (T := TX6) (N := 28) hx hb hts hi_RX6 hown hK hP 0 rfl rfl 0 (by decide) (hts (.fieldLink RX6 7 "TravelMarksModel" "s" "[I") (List.mem_of_getElem? (i := 2) rfl)) (fun _ h9 => h9) rfl dX6_minds_106 ?_
                        refine lv_bipush (v := 19) hx hb dX6_minds_109 rfl ?_
                        refine lv_iconst (v := 3) hx hb dX6_minds_111 rfl ?_
                        refine lv_iload_n hx hb dX6_minds_112 rfl (lv_at hl 4 rfl) ?_
                        refine lv_iload hx hb dX6_minds_113 (lv_at hl 0 rfl) ?_
                        refine lv_iadd hx hb dX6_minds_115 ?_
                        refine lv_imul hx hb dX6_minds_116 ?_
                        refine lv_iadd hx hb dX6_minds_117 ?_
                        refine lv_iconst (v := 1) hx hb dX6_minds_118 rfl ?_
                        refine lv_iadd hx hb dX6_minds_119 ?_
                        refine lv_aload_n hx hb dX6_minds_120 rfl (lv_at hl 1 rfl) ?_
                        refine va_get (D := D) (ci := 6) (v := .ref e11) (C := RX6) (T := TX6) (N := 28) hx hb hts hi_RX6 hown hK hP 0 rfl rfl 18 (by decide) (hts (.fieldLink RX6 40 "TravelMarksModel" "numbers" "[I") (List.mem_of_getElem? (i := 4) rfl)) (fun _ h9 => h9) rfl dX6_minds_121 ?_
                        refine lv_bipush (v := 40) hx hb dX6_minds_124 rfl ?_
                        refine lv_iload_n hx hb dX6_minds_126 rfl (lv_at hl 2 rfl) ?_
                        refine lv_imul hx hb dX6_minds_127 ?_
                        refine lv_iload_n hx hb dX6_minds_128 rfl (lv_at hl 3 rfl) ?_
                        refine lv_iadd hx hb dX6_minds_129 ?_
                        refine lv_iload hx hb dX6_minds_130 (lv_at hl 0 rfl) ?_
                        refine lv_iadd hx hb dX6_minds_132 ?_
                        obtain ⟨y22, ey22, hi21, hf⟩ := rdA_x hf
                        refine va_iald hx hb hK hP 11 0 rfl rfl hi21 dX6_minds_133 ?_
                        refine lv_ren ey22 ?_
                        refine kci (Wx := (oMM C e0 e1 e2 e3 e4 e5 e6 e7 e8 e9 e10 e11 e12 e13 e14 e15 v19 m_held m_aside m_before m_isHeld m_tape m_taped m_token m_from m_to m_value m_isWrong m_due m_firsts m_rows m_rowN m_sortOf m_sizeOf m_numbers m_holdsWhat m_holdsWhich m_holdsMany m_bodies m_ran m_actKind m_actN m_actA m_isParted [])) (va_runS (As := [.int y22]) (rest := [.int ((19 + (3 * (x2 + i18))) + 1), .ref e1]) ⟨hx, hb, hml, hown, hts⟩ (c_X6_within l E D C H.size y22 _ rfl) (va_cwS 1 hts gX6_minds_X6_within rfl rfl rfl hdX6_within ⟨Nat.le_of_ble_eq_true rfl, Nat.le_of_ble_eq_true rfl⟩) (kpre hP hD hK hS hE hA [] rfl rfl) rfl rfl hl.1 rfl (lv_room (Nat.le_of_ble_eq_true rfl)) dX6_minds_134 ⟨Nat.zero_le _, Nat.zero_le _⟩) hP hD hS hA [] rfl rfl rfl (fun H locs hP hD hS => ?_)
                        obtain ⟨t23, et23, hf⟩ := lj_e hf
                        refine lv_ren et23 ?_
                        obtain ⟨hi24, hf⟩ := ckA_e hf
                        refine va_iast hx hb hK hP hD hS 1 0 rfl rfl hi24 dX6_minds_137 (fun H locs hP hD hS => ?_)
                        obtain ⟨v25, ev25, hf⟩ := lj_e hf
                        have hP : va_P D vwCl (oMM C e0 e1 e2 e3 e4 e5 e6 e7 e8 e9 e10 e11 e12 e13 e14 e15 v25 m_held m_aside m_before m_isHeld m_tape m_taped m_token m_from m_to m_value m_isWrong m_due m_firsts m_rows m_rowN m_sortOf m_sizeOf m_numbers m_holdsWhat m_holdsWhich m_holdsMany m_bodies m_ran m_actKind m_actN m_actA m_isParted []) H := by rw [ev25]; exact hP
                        have hD : va_D A (oMM C e0 e1 e2 e3 e4 e5 e6 e7 e8 e9 e10 e11 e12 e13 e14 e15 v25 m_held m_aside m_before m_isHeld m_tape m_taped m_token m_from m_to m_value m_isWrong m_due m_firsts m_rows m_rowN m_sortOf m_sizeOf m_numbers m_holdsWhat m_holdsWhich m_holdsMany m_bodies m_ran m_actKind m_actN m_actA m_isParted []) := by rw [ev25]; exact hD
                        obtain ⟨t26, et26, hf⟩ := lj_e hf
                        refine lv_iinc (v := t26) (lv' := [(5, .int t26), (0, .ref e0), (1, .int x0), (2, .int x1), (3, .int x2), (4, .int x3)]) hx hb dX6_minds_138 hl (k := 0) rfl (by rw [et26]; rfl) (by decide) rfl (fun ls hl => ?_)
                        refine lv_goto (tgt := 98) hx hb dX6_minds_141 (by decide) ?_
                        exact ih t26 v25 H locs ls hP hD hS (lv_sub hl [0, 1, 2, 3, 4, 5] rfl) hf
                  exact hL98 N 0 m_s H locs ls hP hD hS (lv_sub hl [0, 1, 2, 3, 4, 5] rfl) hf
                · replace hf := if_fe c17 hf
                  refine lv_bipush (v := (-12)) hx hb dX6_minds_92 rfl ?_
                  cases hf
                  exact kri hQ hAe hx hb hr hlocks hP hD hK hS dX6_minds_94
            · replace hf := if_fe c10 hf
              refine lv_aload_n hx hb dX6_minds_52 rfl (lv_at hl 0 rfl) ?_
              refine lv_iload_n hx hb dX6_minds_53 rfl (lv_at hl 1 rfl) ?_
              refine lv_iconst (v := 0) hx hb dX6_minds_54 rfl ?_
              obtain ⟨r27, h28, hf⟩ := ob1_e hf
              refine kci (Wx := (oMM C e0 e1 e2 e3 e4 e5 e6 e7 e8 e9 e10 e11 e12 e13 e14 e15 m_s m_held m_aside m_before m_isHeld m_tape m_taped m_token m_from m_to m_value m_isWrong m_due m_firsts m_rows m_rowN m_sortOf m_sizeOf m_numbers m_holdsWhat m_holdsWhich m_holdsMany m_bodies m_ran m_actKind m_actN m_actA m_isParted [])) (va_runV (As := [.int x0, .int 0]) (rest := []) ⟨hx, hb, hml, hown, hts⟩ (c_X6_lacks l E D C e0 e1 e2 e3 e4 e5 e6 e7 e8 e9 e10 e11 e12 e13 e14 e15 H.size m_s m_held m_aside m_before m_isHeld m_tape m_taped m_token m_from m_to m_value m_isWrong m_due m_firsts m_rows m_rowN m_sortOf m_sizeOf m_numbers m_holdsWhat m_holdsWhich m_holdsMany m_bodies m_ran m_actKind m_actN m_actA m_isParted x0 0 r27 h28) (cwV 2 hts gX6_minds_X6_lacks rfl rfl rfl hdX6_lacks ⟨Nat.le_of_ble_eq_true rfl, Nat.le_of_ble_eq_true rfl⟩) (kpreV hP hD hK hS hE hA [0, 1, 2, 3, 4, 5, 6, 7, 8, 9, 10, 11, 12, 13, 14, 15] rfl rfl 0 rfl rfl rfl) rfl rfl hl.1 rfl (lv_room (Nat.le_of_ble_eq_true rfl)) dX6_minds_55 ⟨Nat.zero_le _, Nat.zero_le _⟩) hP hD hS hA [0, 1, 2, 3, 4, 5, 6, 7, 8, 9, 10, 11, 12, 13, 14, 15] rfl rfl rfl (fun H locs hP hD hS => ?_)
              cases hf
              exact kri hQ hAe hx hb hr hlocks hP hD hK hS dX6_minds_58
          · replace hf := if_fe c7 hf
            refine lv_iconst (v := (-1)) hx hb dX6_minds_41 rfl ?_
            cases hf
            exact kri hQ hAe hx hb hr hlocks hP hD hK hS dX6_minds_42
  exact main _ _ hP hD hS

def rmX6_shelf : Room := { frames := 2, cells := 0, slots := 0, locals := 45 }
theorem hdX6_shelf : yX6_shelf.cls = RX6 ∧ yX6_shelf.cls ≠ "java/lang/invoke/MethodHandle" ∧ yX6_shelf.cls ≠ "java/lang/invoke/VarHandle" ∧ (parseMethodDescriptor yX6_shelf.desc).map (fun d => d.parameters.length) = some 3 := by decide +kernel
set_option maxHeartbeats 40000000 in
set_option maxRecDepth 100000 in
theorem c_X6_shelf (l : Launch) (E : Nat → Nat) (D : va_G) (C : Nat → ClassId) (e0 e1 e2 e3 e4 e5 e6 e7 e8 e9 e10 e11 e12 e13 e14 e15 : Nat) (sz : Nat) (m_s : Nat → Int32) (m_held : Nat → Int32) (m_aside : Nat → Int32) (m_before : Nat → Int32) (m_isHeld : Int32) (m_tape : Nat → Int32) (m_taped : Int32) (m_token : Int32) (m_from : Int32) (m_to : Int32) (m_value : Int32) (m_isWrong : Int32) (m_due : Nat → Int32) (m_firsts : Nat → Int32) (m_rows : Nat → Int32) (m_rowN : Int32) (m_sortOf : Nat → Int32) (m_sizeOf : Nat → Int32) (m_numbers : Nat → Int32) (m_holdsWhat : Nat → Int32) (m_holdsWhich : Nat → Int32) (m_holdsMany : Nat → Int32) (m_bodies : Nat → Int32) (m_ran : Int32) (m_actKind : Int32) (m_actN : Int32) (m_actA : Int32) (m_isParted : Int32) (x0 : Int32) (x1 : Int32) (x2 : Int32) (r : Int32) (m_holdsWhat' : Nat → Int32) (m_holdsWhich' : Nat → Int32) (m_holdsMany' : Nat → Int32) (hf : f_X6_shelf m_s m_sortOf m_sizeOf m_holdsWhat m_holdsWhich m_holdsMany x0 x1 x2 = some (r, m_holdsWhat', m_holdsWhich', m_holdsMany')) : Met l yX6_shelf wsX6_shelf rmX6_shelf (PC E D C [.ref e0, .int x0, .int x1, .int x2] (oMM C e0 e1 e2 e3 e4 e5 e6 e7 e8 e9 e10 e11 e12 e13 e14 e15 m_s m_held m_aside m_before m_isHeld m_tape m_taped m_token m_from m_to m_value m_isWrong m_due m_firsts m_rows m_rowN m_sortOf m_sizeOf m_numbers m_holdsWhat m_holdsWhich m_holdsMany m_bodies m_ran m_actKind m_actN m_actA m_isParted []) sz) (QI D C (oMM C e0 e1 e2 e3 e4 e5 e6 e7 e8 e9 e10 e11 e12 e13 e14 e15 m_s m_held m_aside m_before m_isHeld m_tape m_taped m_token m_from m_to m_value m_isWrong m_due m_firsts m_rows m_rowN m_sortOf m_sizeOf m_numbers m_holdsWhat m_holdsWhich m_holdsMany m_bodies m_ran m_actKind m_actN m_actA m_isParted []) (oMM C e0 e1 e2 e3 e4 e5 e6 e7 e8 e9 e10 e11 e12 e13 e14 e15 m_s m_held m_aside m_before m_isHeld m_tape m_taped m_token m_from m_to m_value m_isWrong m_due m_firsts m_rows m_rowN m_sortOf m_sizeOf m_numbers (m_holdsWhat') (m_holdsWhich') (m_holdsMany') m_bodies m_ran m_actKind m_actN m_actA m_isParted []) sz r) 0 0 (va_A (oMM C e0 e1 e2 e3 e4 e5 e6 e7 e8 e9 e10 e11 e12 e13 e14 e15 m_s m_held m_aside m_before m_isHeld m_tape m_taped m_token m_from m_to m_value m_isWrong m_due m_firsts m_rows m_rowN m_sortOf m_sizeOf m_numbers m_holdsWhat m_holdsWhich m_holdsMany m_bodies m_ran m_actKind m_actN m_actA m_isParted []) sz) := by
  refine Met.ofW (cc := cX6_shelf) (maxL := 5) (ret := (some .int)) (by decide) rfl ?_
  intro p e s m args below meth c s₁ B hml hv
  obtain ⟨rfl, hsz, hP, hK, hD0, hE⟩ := hv
  have hx := B.exec
  have hb := B.bytes
  have hr := B.returns
  have hts := atoms_spec (ws := wsX6_shelf) B.pre
  have hown : s.vm.findClass RX6 = some m.cls := findClass_of_methodNamed B.named
  have hlocks := B.notSynchronized
  subst hsz
  have hi_RX6 : ∀ w ∈ wsX60, w ∈ wsX6_shelf := fun _ h => List.mem_cons_of_mem _ (List.mem_append_right _ h)
  have hD := hD0.self (sz := s.heap.size)
  obtain ⟨A, hAe⟩ := nm_ex (va_A (oMM C e0 e1 e2 e3 e4 e5 e6 e7 e8 e9 e10 e11 e12 e13 e14 e15 m_s m_held m_aside m_before m_isHeld m_tape m_taped m_token m_from m_to m_value m_isWrong m_due m_firsts m_rows m_rowN m_sortOf m_sizeOf m_numbers m_holdsWhat m_holdsWhich m_holdsMany m_bodies m_ran m_actKind m_actN m_actA m_isParted []) s.heap.size)
  rw [← hAe] at hD hE ⊢
  have hA : ∀ q : Nat, s.heap.size ≤ q → A q := fun q h => by rw [hAe]; exact Or.inr h
  have hS : va_S A s.heap s.heap [] := va_S.rf
  have hl := lv_entry ([.ref e0, .int x0, .int x1, .int x2]) (n := 5) (Nat.le_of_ble_eq_true rfl)
  rw [lg_entry_eq]
  generalize (lg_sl ([.ref e0, .int x0, .int x1, .int x2]) ++ List.replicate (5 - (lg_sl ([.ref e0, .int x0, .int x1, .int x2])).length) Slot.unset).toArray = ls at hl ⊢
  have hl : lv_has ls 5 [(0, .ref e0), (1, .int x0), (2, .int x1), (3, .int x2)] := hl
  obtain ⟨Q, hQ⟩ := nm_ex (MQ below (QI D C (oMM C e0 e1 e2 e3 e4 e5 e6 e7 e8 e9 e10 e11 e12 e13 e14 e15 m_s m_held m_aside m_before m_isHeld m_tape m_taped m_token m_from m_to m_value m_isWrong m_due m_firsts m_rows m_rowN m_sortOf m_sizeOf m_numbers m_holdsWhat m_holdsWhich m_holdsMany m_bodies m_ran m_actKind m_actN m_actA m_isParted []) (oMM C e0 e1 e2 e3 e4 e5 e6 e7 e8 e9 e10 e11 e12 e13 e14 e15 m_s m_held m_aside m_before m_isHeld m_tape m_taped m_token m_from m_to m_value m_isWrong m_due m_firsts m_rows m_rowN m_sortOf m_sizeOf m_numbers (m_holdsWhat') (m_holdsWhich') (m_holdsMany') m_bodies m_ran m_actKind m_actN m_actA m_isParted []) s.heap.size r) (List.toArray [Value.ref e0, Value.int x0, Value.int x1, Value.int x2]) s 0 0 A)
  show W p l e (headSpec wsX6_shelf (rmX6_shelf)).room s m (List.toArray [Value.ref e0, Value.int x0, Value.int x1, Value.int x2]) below meth c s.heap [] 0 0 (MQ below (QI D C (oMM C e0 e1 e2 e3 e4 e5 e6 e7 e8 e9 e10 e11 e12 e13 e14 e15 m_s m_held m_aside m_before m_isHeld m_tape m_taped m_token m_from m_to m_value m_isWrong m_due m_firsts m_rows m_rowN m_sortOf m_sizeOf m_numbers m_holdsWhat m_holdsWhich m_holdsMany m_bodies m_ran m_actKind m_actN m_actA m_isParted []) (oMM C e0 e1 e2 e3 e4 e5 e6 e7 e8 e9 e10 e11 e12 e13 e14 e15 m_s m_held m_aside m_before m_isHeld m_tape m_taped m_token m_from m_to m_value m_isWrong m_due m_firsts m_rows m_rowN m_sortOf m_sizeOf m_numbers (m_holdsWhat') (m_holdsWhich') (m_holdsMany') m_bodies m_ran m_actKind m_actN m_actA m_isParted []) s.heap.size r) (List.toArray [Value.ref e0, Value.int x0, Value.int x1, Value.int x2]) s 0 0 A) _
  rw [← hQ]
  unfold f_X6_shelf at hf
  have main : ∀ (H : Heap) (locs : List Loc), va_P D vwCl (oMM C e0 e1 e2 e3 e4 e5 e6 e7 e8 e9 e10 e11 e12 e13 e14 e15 m_s m_held m_aside m_before m_isHeld m_tape m_taped m_token m_from m_to m_value m_isWrong m_due m_firsts m_rows m_rowN m_sortOf m_sizeOf m_numbers m_holdsWhat m_holdsWhich m_holdsMany m_bodies m_ran m_actKind m_actN m_actA m_isParted []) H → va_D A (oMM C e0 e1 e2 e3 e4 e5 e6 e7 e8 e9 e10 e11 e12 e13 e14 e15 m_s m_held m_aside m_before m_isHeld m_tape m_taped m_token m_from m_to m_value m_isWrong m_due m_firsts m_rows m_rowN m_sortOf m_sizeOf m_numbers m_holdsWhat m_holdsWhich m_holdsMany m_bodies m_ran m_actKind m_actN m_actA m_isParted []) → va_S A s.heap H locs → W p l e (headSpec wsX6_shelf (rmX6_shelf)).room s m (List.toArray [Value.ref e0, Value.int x0, Value.int x1, Value.int x2]) below meth c H locs 0 0 Q (F0 m 0 ls []) := by
    intro H locs hP hD hS
    refine lv_iload_n hx hb dX6_shelf_0 rfl (lv_at hl 1 rfl) ?_
    refine kcz (Wx := (oMM C e0 e1 e2 e3 e4 e5 e6 e7 e8 e9 e10 e11 e12 e13 e14 e15 m_s m_held m_aside m_before m_isHeld m_tape m_taped m_token m_from m_to m_value m_isWrong m_due m_firsts m_rows m_rowN m_sortOf m_sizeOf m_numbers m_holdsWhat m_holdsWhich m_holdsMany m_bodies m_ran m_actKind m_actN m_actA m_isParted [])) (va_runS (As := [.int x0]) (rest := []) ⟨hx, hb, hml, hown, hts⟩ (c_X6_isShelf l E D C H.size x0 _ rfl) (va_cwS 1 hts gX6_shelf_X6_isShelf rfl rfl rfl hdX6_isShelf ⟨Nat.le_of_ble_eq_true rfl, Nat.le_of_ble_eq_true rfl⟩) (kpre hP hD hK hS hE hA [] rfl rfl) rfl rfl hl.1 rfl (lv_room (Nat.le_of_ble_eq_true rfl)) dX6_shelf_1 ⟨Nat.zero_le _, Nat.zero_le _⟩) hP hD hS hA [] rfl rfl rfl (fun H locs hz1 hP hD hS => ?_)
    refine lv_if_eq (tgt := 43) hx hb dX6_shelf_4 (by decide) (fun c2 => ?_) (fun c2 => ?_)
    · replace hf := if_te c2 hf
      refine lv_iconst (v := (-1)) hx hb dX6_shelf_43 rfl ?_
      cases hf
      exact kri hQ hAe hx hb hr hlocks hP hD hK hS dX6_shelf_44
    · replace hf := if_fe c2 hf
      refine lv_iload_n hx hb dX6_shelf_7 rfl (lv_at hl 2 rfl) ?_
      refine lv_i2l hx hb dX6_shelf_8 rfl ?_
      refine lv_lconst (v := 0) hx hb dX6_shelf_9 rfl ?_
      refine lv_ldc2 (v := 2) hx hb hown (hts (.constantLong RX6 276 (2)) (List.mem_of_getElem? (i := 1) rfl)) dX6_shelf_10 ?_
      refine kcz (Wx := (oMM C e0 e1 e2 e3 e4 e5 e6 e7 e8 e9 e10 e11 e12 e13 e14 e15 m_s m_held m_aside m_before m_isHeld m_tape m_taped m_token m_from m_to m_value m_isWrong m_due m_firsts m_rows m_rowN m_sortOf m_sizeOf m_numbers m_holdsWhat m_holdsWhich m_holdsMany m_bodies m_ran m_actKind m_actN m_actA m_isParted [])) (va_runS (As := [.long (Int32.toInt64 x1), .long 0, .long 2]) (rest := []) ⟨hx, hb, hml, hown, hts⟩ (c_X6_isIn l E D C H.size (Int32.toInt64 x1) 0 2 _ rfl) (va_cwS 3 hts gX6_shelf_X6_isIn rfl rfl rfl hdX6_isIn ⟨Nat.le_of_ble_eq_true rfl, Nat.le_of_ble_eq_true rfl⟩) (kpre hP hD hK hS hE hA [] rfl rfl) rfl rfl hl.1 rfl (lv_room (Nat.le_of_ble_eq_true rfl)) dX6_shelf_13 ⟨Nat.zero_le _, Nat.zero_le _⟩) hP hD hS hA [] rfl rfl rfl (fun H locs hz3 hP hD hS => ?_)
      refine lv_if_eq (tgt := 43) hx hb dX6_shelf_16 (by decide) (fun c4 => ?_) (fun c4 => ?_)
      · replace hf := if_te c4 hf
        refine lv_iconst (v := (-1)) hx hb dX6_shelf_43 rfl ?_
        cases hf
        exact kri hQ hAe hx hb hr hlocks hP hD hK hS dX6_shelf_44
      · replace hf := if_fe c4 hf
        refine lv_iload_n hx hb dX6_shelf_19 rfl (lv_at hl 2 rfl) ?_
        obtain ⟨j5, hj5, hf⟩ := lj_e hf
        have Hj5 : ∀ (H : Heap) (locs : List Loc) (ls : Array Slot), va_P D vwCl (oMM C e0 e1 e2 e3 e4 e5 e6 e7 e8 e9 e10 e11 e12 e13 e14 e15 m_s m_held m_aside m_before m_isHeld m_tape m_taped m_token m_from m_to m_value m_isWrong m_due m_firsts m_rows m_rowN m_sortOf m_sizeOf m_numbers m_holdsWhat m_holdsWhich m_holdsMany m_bodies m_ran m_actKind m_actN m_actA m_isParted []) H → va_D A (oMM C e0 e1 e2 e3 e4 e5 e6 e7 e8 e9 e10 e11 e12 e13 e14 e15 m_s m_held m_aside m_before m_isHeld m_tape m_taped m_token m_from m_to m_value m_isWrong m_due m_firsts m_rows m_rowN m_sortOf m_sizeOf m_numbers m_holdsWhat m_holdsWhich m_holdsMany m_bodies m_ran m_actKind m_actN m_actA m_isParted []) → va_S A s.heap H locs → lv_has ls 5 [(0, .ref e0), (1, .int x0), (2, .int x1), (3, .int x2)] → j5 = some (r, m_holdsWhat', m_holdsWhich', m_holdsMany') → W p l e (headSpec wsX6_shelf (rmX6_shelf)).room s m (List.toArray [Value.ref e0, Value.int x0, Value.int x1, Value.int x2]) below meth c H locs 0 0 Q (F0 m 31 ls []) := by
          intro H locs ls hP hD hS hl hf
          rw [hj5] at hf
          refine lv_iload_n hx hb dX6_shelf_31 rfl (lv_at hl 2 rfl) ?_
          refine lv_iconst (v := 1) hx hb dX6_shelf_32 rfl ?_
          obtain ⟨j6, hj6, hf⟩ := lj_e hf
          have Hj6 : ∀ (H : Heap) (locs : List Loc) (ls : Array Slot), va_P D vwCl (oMM C e0 e1 e2 e3 e4 e5 e6 e7 e8 e9 e10 e11 e12 e13 e14 e15 m_s m_held m_aside m_before m_isHeld m_tape m_taped m_token m_from m_to m_value m_isWrong m_due m_firsts m_rows m_rowN m_sortOf m_sizeOf m_numbers m_holdsWhat m_holdsWhich m_holdsMany m_bodies m_ran m_actKind m_actN m_actA m_isParted []) H → va_D A (oMM C e0 e1 e2 e3 e4 e5 e6 e7 e8 e9 e10 e11 e12 e13 e14 e15 m_s m_held m_aside m_before m_isHeld m_tape m_taped m_token m_from m_to m_value m_isWrong m_due m_firsts m_rows m_rowN m_sortOf m_sizeOf m_numbers m_holdsWhat m_holdsWhich m_holdsMany m_bodies m_ran m_actKind m_actN m_actA m_isParted []) → va_S A s.heap H locs → lv_has ls 5 [(0, .ref e0), (1, .int x0), (2, .int x1), (3, .int x2)] → j6 = some (r, m_holdsWhat', m_holdsWhich', m_holdsMany') → W p l e (headSpec wsX6_shelf (rmX6_shelf)).room s m (List.toArray [Value.ref e0, Value.int x0, Value.int x1, Value.int x2]) below meth c H locs 0 0 Q (F0 m 45 ls []) := by
            intro H locs ls hP hD hS hl hf
            rw [hj6] at hf
            refine lv_iload_n hx hb dX6_shelf_45 rfl (lv_at hl 2 rfl) ?_
            refine lv_iconst (v := 1) hx hb dX6_shelf_46 rfl ?_
            obtain ⟨j8, hj8, hf⟩ := lj_e hf
            have Hj8 : ∀ (k7 : Int32) (H : Heap) (locs : List Loc) (ls : Array Slot), va_P D vwCl (oMM C e0 e1 e2 e3 e4 e5 e6 e7 e8 e9 e10 e11 e12 e13 e14 e15 m_s m_held m_aside m_before m_isHeld m_tape m_taped m_token m_from m_to m_value m_isWrong m_due m_firsts m_rows m_rowN m_sortOf m_sizeOf m_numbers m_holdsWhat m_holdsWhich m_holdsMany m_bodies m_ran m_actKind m_actN m_actA m_isParted []) H → va_D A (oMM C e0 e1 e2 e3 e4 e5 e6 e7 e8 e9 e10 e11 e12 e13 e14 e15 m_s m_held m_aside m_before m_isHeld m_tape m_taped m_token m_from m_to m_value m_isWrong m_due m_firsts m_rows m_rowN m_sortOf m_sizeOf m_numbers m_holdsWhat m_holdsWhich m_holdsMany m_bodies m_ran m_actKind m_actN m_actA m_isParted []) → va_S A s.heap H locs → lv_has ls 5 [(0, .ref e0), (1, .int x0), (2, .int x1), (3, .int x2)] → j8 k7 = some (r, m_holdsWhat', m_holdsWhich', m_holdsMany') → W p l e (headSpec wsX6_shelf (rmX6_shelf)).room s m (List.toArray [Value.ref e0, Value.int x0, Value.int x1, Value.int x2]) below meth c H locs 0 0 Q (F0 m 64 ls [.int k7]) := by
              intro k7 H locs ls hP hD hS hl hf
              rw [hj8] at hf
              refine lv_istore (lv' := [(4, .int k7), (0, .ref e0), (1, .int x0), (2, .int x1), (3, .int x2)]) hx hb dX6_shelf_64 hl (by decide) rfl (fun ls hl => ?_)
              refine lv_aload_n hx hb dX6_shelf_66 rfl (lv_at hl 1 rfl) ?_
              refine va_get (D := D) (ci := 6) (v := .ref e12) (C := RX6) (T := TX6) (N := 28) hx hb hts hi_RX6 hown hK hP 0 rfl rfl 19 (by decide) (hts (.fieldLink RX6 43 "TravelMarksModel" "holdsWhat" "[I") (List.mem_of_getElem? (i := 3) rfl)) (fun _ h9 => h9) rfl dX6_shelf_67 ?_
              refine lv_iload_n hx hb dX6_shelf_70 rfl (lv_at hl 2 rfl) ?_
              refine lv_iload_n hx hb dX6_shelf_71 rfl (lv_at hl 3 rfl) ?_
              obtain ⟨j10, hj10, hf⟩ := lj_e hf
              have Hj10 : ∀ (k9 : Int32) (H : Heap) (locs : List Loc) (ls : Array Slot), va_P D vwCl (oMM C e0 e1 e2 e3 e4 e5 e6 e7 e8 e9 e10 e11 e12 e13 e14 e15 m_s m_held m_aside m_before m_isHeld m_tape m_taped m_token m_from m_to m_value m_isWrong m_due m_firsts m_rows m_rowN m_sortOf m_sizeOf m_numbers m_holdsWhat m_holdsWhich m_holdsMany m_bodies m_ran m_actKind m_actN m_actA m_isParted []) H → va_D A (oMM C e0 e1 e2 e3 e4 e5 e6 e7 e8 e9 e10 e11 e12 e13 e14 e15 m_s m_held m_aside m_before m_isHeld m_tape m_taped m_token m_from m_to m_value m_isWrong m_due m_firsts m_rows m_rowN m_sortOf m_sizeOf m_numbers m_holdsWhat m_holdsWhich m_holdsMany m_bodies m_ran m_actKind m_actN m_actA m_isParted []) → va_S A s.heap H locs → lv_has ls 5 [(4, .int k7), (0, .ref e0), (1, .int x0), (2, .int x1), (3, .int x2)] → j10 k9 = some (r, m_holdsWhat', m_holdsWhich', m_holdsMany') → W p l e (headSpec wsX6_shelf (rmX6_shelf)).room s m (List.toArray [Value.ref e0, Value.int x0, Value.int x1, Value.int x2]) below meth c H locs 0 0 Q (F0 m 89 ls [.int k9, .int x0, .ref e12]) := by
                intro k9 H locs ls hP hD hS hl hf
                rw [hj10] at hf
                obtain ⟨hi11, hf⟩ := ckA_e hf
                refine va_iast hx hb hK hP hD hS 12 0 rfl rfl hi11 dX6_shelf_89 (fun H locs hP hD hS => ?_)
                obtain ⟨v12, ev12, hf⟩ := lj_e hf
                have hP : va_P D vwCl (oMM C e0 e1 e2 e3 e4 e5 e6 e7 e8 e9 e10 e11 e12 e13 e14 e15 m_s m_held m_aside m_before m_isHeld m_tape m_taped m_token m_from m_to m_value m_isWrong m_due m_firsts m_rows m_rowN m_sortOf m_sizeOf m_numbers v12 m_holdsWhich m_holdsMany m_bodies m_ran m_actKind m_actN m_actA m_isParted []) H := by rw [ev12]; exact hP
                have hD : va_D A (oMM C e0 e1 e2 e3 e4 e5 e6 e7 e8 e9 e10 e11 e12 e13 e14 e15 m_s m_held m_aside m_before m_isHeld m_tape m_taped m_token m_from m_to m_value m_isWrong m_due m_firsts m_rows m_rowN m_sortOf m_sizeOf m_numbers v12 m_holdsWhich m_holdsMany m_bodies m_ran m_actKind m_actN m_actA m_isParted []) := by rw [ev12]; exact hD
                refine lv_aload_n hx hb dX6_shelf_90 rfl (lv_at hl 1 rfl) ?_
                refine va_get (D := D) (ci := 6) (v := .ref e13) (C := RX6) (T := TX6) (N := 28) hx hb hts hi_RX6 hown hK hP 0 rfl rfl 20 (by decide) (hts (.fieldLink RX6 46 "TravelMarksModel" "holdsWhich" "[I") (List.mem_of_getElem? (i := 4) rfl)) (fun _ h9 => h9) rfl dX6_shelf_91 ?_
                refine lv_iload_n hx hb dX6_shelf_94 rfl (lv_at hl 2 rfl) ?_
                refine lv_iload_n hx hb dX6_shelf_95 rfl (lv_at hl 3 rfl) ?_
                obtain ⟨j14, hj14, hf⟩ := lj_e hf
                have Hj14 : ∀ (k13 : Int32) (H : Heap) (locs : List Loc) (ls : Array Slot), va_P D vwCl (oMM C e0 e1 e2 e3 e4 e5 e6 e7 e8 e9 e10 e11 e12 e13 e14 e15 m_s m_held m_aside m_before m_isHeld m_tape m_taped m_token m_from m_to m_value m_isWrong m_due m_firsts m_rows m_rowN m_sortOf m_sizeOf m_numbers v12 m_holdsWhich m_holdsMany m_bodies m_ran m_actKind m_actN m_actA m_isParted []) H → va_D A (oMM C e0 e1 e2 e3 e4 e5 e6 e7 e8 e9 e10 e11 e12 e13 e14 e15 m_s m_held m_aside m_before m_isHeld m_tape m_taped m_token m_from m_to m_value m_isWrong m_due m_firsts m_rows m_rowN m_sortOf m_sizeOf m_numbers v12 m_holdsWhich m_holdsMany m_bodies m_ran m_actKind m_actN m_actA m_isParted []) → va_S A s.heap H locs → lv_has ls 5 [(4, .int k7), (0, .ref e0), (1, .int x0), (3, .int x2)] → j14 k13 = some (r, m_holdsWhat', m_holdsWhich', m_holdsMany') → W p l e (headSpec wsX6_shelf (rmX6_shelf)).room s m (List.toArray [Value.ref e0, Value.int x0, Value.int x1, Value.int x2]) below meth c H locs 0 0 Q (F0 m 118 ls [.int k13, .int x0, .ref e13]) := by
                  intro k13 H locs ls hP hD hS hl hf
                  rw [hj14] at hf
                  obtain ⟨hi15, hf⟩ := ckA_e hf
                  refine va_iast hx hb hK hP hD hS 13 0 rfl rfl hi15 dX6_shelf_118 (fun H locs hP hD hS => ?_)
                  obtain ⟨v16, ev16, hf⟩ := lj_e hf
                  have hP : va_P D vwCl (oMM C e0 e1 e2 e3 e4 e5 e6 e7 e8 e9 e10 e11 e12 e13 e14 e15 m_s m_held m_aside m_before m_isHeld m_tape m_taped m_token m_from m_to m_value m_isWrong m_due m_firsts m_rows m_rowN m_sortOf m_sizeOf m_numbers v12 v16 m_holdsMany m_bodies m_ran m_actKind m_actN m_actA m_isParted []) H := by rw [ev16]; exact hP
                  have hD : va_D A (oMM C e0 e1 e2 e3 e4 e5 e6 e7 e8 e9 e10 e11 e12 e13 e14 e15 m_s m_held m_aside m_before m_isHeld m_tape m_taped m_token m_from m_to m_value m_isWrong m_due m_firsts m_rows m_rowN m_sortOf m_sizeOf m_numbers v12 v16 m_holdsMany m_bodies m_ran m_actKind m_actN m_actA m_isParted []) := by rw [ev16]; exact hD
                  refine lv_aload_n hx hb dX6_shelf_119 rfl (lv_at hl 1 rfl) ?_
                  refine va_get (D := D) (ci := 6) (v := .ref e14) (C := RX6) (T := TX6) (N := 28) hx hb hts hi_RX6 hown hK hP 0 rfl rfl 21 (by decide) (hts (.fieldLink RX6 49 "TravelMarksModel" "holdsMany" "[I") (List.mem_of_getElem? (i := 5) rfl)) (fun _ h9 => h9) rfl dX6_shelf_120 ?_
                  refine lv_iload_n hx hb dX6_shelf_123 rfl (lv_at hl 2 rfl) ?_
                  refine lv_iload hx hb dX6_shelf_124 (lv_at hl 0 rfl) ?_
                  obtain ⟨j18, hj18, hf⟩ := lj_e hf
                  have Hj18 : ∀ (k17 : Int32) (H : Heap) (locs : List Loc) (ls : Array Slot), va_P D vwCl (oMM C e0 e1 e2 e3 e4 e5 e6 e7 e8 e9 e10 e11 e12 e13 e14 e15 m_s m_held m_aside m_before m_isHeld m_tape m_taped m_token m_from m_to m_value m_isWrong m_due m_firsts m_rows m_rowN m_sortOf m_sizeOf m_numbers v12 v16 m_holdsMany m_bodies m_ran m_actKind m_actN m_actA m_isParted []) H → va_D A (oMM C e0 e1 e2 e3 e4 e5 e6 e7 e8 e9 e10 e11 e12 e13 e14 e15 m_s m_held m_aside m_before m_isHeld m_tape m_taped m_token m_from m_to m_value m_isWrong m_due m_firsts m_rows m_rowN m_sortOf m_sizeOf m_numbers v12 v16 m_holdsMany m_bodies m_ran m_actKind m_actN m_actA m_isParted []) → va_S A s.heap H locs → lv_has ls 5 [] → j18 k17 = some (r, m_holdsWhat', m_holdsWhich', m_holdsMany') → W p l e (headSpec wsX6_shelf (rmX6_shelf)).room s m (List.toArray [Value.ref e0, Value.int x0, Value.int x1, Value.int x2]) below meth c H locs 0 0 Q (F0 m 139 ls [.int k17, .int x0, .ref e14]) := by
                    intro k17 H locs ls hP hD hS hl hf
                    rw [hj18] at hf
                    obtain ⟨hi19, hf⟩ := ckA_e hf
                    refine va_iast hx hb hK hP hD hS 14 0 rfl rfl hi19 dX6_shelf_139 (fun H locs hP hD hS => ?_)
                    obtain ⟨v20, ev20, hf⟩ := lj_e hf
                    have hP : va_P D vwCl (oMM C e0 e1 e2 e3 e4 e5 e6 e7 e8 e9 e10 e11 e12 e13 e14 e15 m_s m_held m_aside m_before m_isHeld m_tape m_taped m_token m_from m_to m_value m_isWrong m_due m_firsts m_rows m_rowN m_sortOf m_sizeOf m_numbers v12 v16 v20 m_bodies m_ran m_actKind m_actN m_actA m_isParted []) H := by rw [ev20]; exact hP
                    have hD : va_D A (oMM C e0 e1 e2 e3 e4 e5 e6 e7 e8 e9 e10 e11 e12 e13 e14 e15 m_s m_held m_aside m_before m_isHeld m_tape m_taped m_token m_from m_to m_value m_isWrong m_due m_firsts m_rows m_rowN m_sortOf m_sizeOf m_numbers v12 v16 v20 m_bodies m_ran m_actKind m_actN m_actA m_isParted []) := by rw [ev20]; exact hD
                    refine lv_iconst (v := 1) hx hb dX6_shelf_140 rfl ?_
                    cases hf
                    exact kri hQ hAe hx hb hr hlocks hP hD hK hS dX6_shelf_141
                  refine lv_if_eq (tgt := 138) hx hb dX6_shelf_126 (by decide) (fun c21 => ?_) (fun c21 => ?_)
                  · replace hf := if_te c21 hf
                    refine lv_iconst (v := 0) hx hb dX6_shelf_138 rfl ?_
                    exact Hj18 0 H locs ls hP hD hS (lv_sub hl [] rfl) hf
                  · replace hf := if_fe c21 hf
                    refine lv_aload_n hx hb dX6_shelf_129 rfl (lv_at hl 1 rfl) ?_
                    refine va_get (D := D) (ci := 6) (v := .ref e10) (C := RX6) (T := TX6) (N := 28) hx hb hts hi_RX6 hown hK hP 0 rfl rfl 17 (by decide) (hts (.fieldLink RX6 37 "TravelMarksModel" "sizeOf" "[I") (List.mem_of_getElem? (i := 6) rfl)) (fun _ h9 => h9) rfl dX6_shelf_130 ?_
                    refine lv_iload_n hx hb dX6_shelf_133 rfl (lv_at hl 3 rfl) ?_
                    obtain ⟨y23, ey23, hi22, hf⟩ := rdA_x hf
                    refine va_iald hx hb hK hP 10 0 rfl rfl hi22 dX6_shelf_134 ?_
                    refine lv_ren ey23 ?_
                    refine lv_goto (tgt := 139) hx hb dX6_shelf_135 (by decide) ?_
                    exact Hj18 y23 H locs ls hP hD hS (lv_sub hl [] rfl) hf
                refine lv_if_ne (tgt := 103) hx hb dX6_shelf_96 (by decide) (fun c24 => ?_) (fun c24 => ?_)
                · replace hf := if_fe c24 hf
                  refine lv_iload hx hb dX6_shelf_103 (lv_at hl 0 rfl) ?_
                  refine lv_if_eq (tgt := 117) hx hb dX6_shelf_105 (by decide) (fun c25 => ?_) (fun c25 => ?_)
                  · replace hf := if_te c25 hf
                    refine lv_iconst (v := 0) hx hb dX6_shelf_117 rfl ?_
                    exact Hj14 0 H locs ls hP hD hS (lv_sub hl [0, 1, 2, 4] rfl) hf
                  · replace hf := if_fe c25 hf
                    refine lv_aload_n hx hb dX6_shelf_108 rfl (lv_at hl 1 rfl) ?_
                    refine va_get (D := D) (ci := 6) (v := .ref e9) (C := RX6) (T := TX6) (N := 28) hx hb hts hi_RX6 hown hK hP 0 rfl rfl 16 (by decide) (hts (.fieldLink RX6 34 "TravelMarksModel" "sortOf" "[I") (List.mem_of_getElem? (i := 2) rfl)) (fun _ h9 => h9) rfl dX6_shelf_109 ?_
                    refine lv_iload_n hx hb dX6_shelf_112 rfl (lv_at hl 4 rfl) ?_
                    obtain ⟨y27, ey27, hi26, hf⟩ := rdA_x hf
                    refine va_iald hx hb hK hP 9 0 rfl rfl hi26 dX6_shelf_113 ?_
                    refine lv_ren ey27 ?_
                    refine lv_goto (tgt := 118) hx hb dX6_shelf_114 (by decide) ?_
                    exact Hj14 y27 H locs ls hP hD hS (lv_sub hl [0, 1, 2, 4] rfl) hf
                · replace hf := if_te c24 hf
                  refine lv_iload_n hx hb dX6_shelf_99 rfl (lv_at hl 4 rfl) ?_
                  refine lv_goto (tgt := 118) hx hb dX6_shelf_100 (by decide) ?_
                  exact Hj14 x2 H locs ls hP hD hS (lv_sub hl [0, 1, 2, 4] rfl) hf
              refine lv_if_ne (tgt := 79) hx hb dX6_shelf_72 (by decide) (fun c28 => ?_) (fun c28 => ?_)
              · replace hf := if_fe c28 hf
                refine lv_iload hx hb dX6_shelf_79 (lv_at hl 0 rfl) ?_
                refine lv_if_eq (tgt := 88) hx hb dX6_shelf_81 (by decide) (fun c29 => ?_) (fun c29 => ?_)
                · replace hf := if_te c29 hf
                  refine lv_iconst (v := 0) hx hb dX6_shelf_88 rfl ?_
                  exact Hj10 0 H locs ls hP hD hS (lv_sub hl [0, 1, 2, 3, 4] rfl) hf
                · replace hf := if_fe c29 hf
                  refine lv_iconst (v := 2) hx hb dX6_shelf_84 rfl ?_
                  refine lv_goto (tgt := 89) hx hb dX6_shelf_85 (by decide) ?_
                  exact Hj10 2 H locs ls hP hD hS (lv_sub hl [0, 1, 2, 3, 4] rfl) hf
              · replace hf := if_te c28 hf
                refine lv_iconst (v := 1) hx hb dX6_shelf_75 rfl ?_
                refine lv_goto (tgt := 89) hx hb dX6_shelf_76 (by decide) ?_
                exact Hj10 1 H locs ls hP hD hS (lv_sub hl [0, 1, 2, 3, 4] rfl) hf
            obtain ⟨j30, hj30, hf⟩ := lj_e hf
            have Hj30 : ∀ (H : Heap) (locs : List Loc) (ls : Array Slot), va_P D vwCl (oMM C e0 e1 e2 e3 e4 e5 e6 e7 e8 e9 e10 e11 e12 e13 e14 e15 m_s m_held m_aside m_before m_isHeld m_tape m_taped m_token m_from m_to m_value m_isWrong m_due m_firsts m_rows m_rowN m_sortOf m_sizeOf m_numbers m_holdsWhat m_holdsWhich m_holdsMany m_bodies m_ran m_actKind m_actN m_actA m_isParted []) H → va_D A (oMM C e0 e1 e2 e3 e4 e5 e6 e7 e8 e9 e10 e11 e12 e13 e14 e15 m_s m_held m_aside m_before m_isHeld m_tape m_taped m_token m_from m_to m_value m_isWrong m_due m_firsts m_rows m_rowN m_sortOf m_sizeOf m_numbers m_holdsWhat m_holdsWhich m_holdsMany m_bodies m_ran m_actKind m_actN m_actA m_isParted []) → va_S A s.heap H locs → lv_has ls 5 [(0, .ref e0), (1, .int x0), (2, .int x1), (3, .int x2)] → j30 = some (r, m_holdsWhat', m_holdsWhich', m_holdsMany') → W p l e (headSpec wsX6_shelf (rmX6_shelf)).room s m (List.toArray [Value.ref e0, Value.int x0, Value.int x1, Value.int x2]) below meth c H locs 0 0 Q (F0 m 63 ls []) := by
              intro H locs ls hP hD hS hl hf
              rw [hj30] at hf
              refine lv_iconst (v := 0) hx hb dX6_shelf_63 rfl ?_
              exact Hj8 0 H locs ls hP hD hS (lv_sub hl [0, 1, 2, 3] rfl) hf
            refine lv_icmp_ne (tgt := 63) hx hb dX6_shelf_47 (by decide) (fun c31 => ?_) (fun c31 => ?_)
            · replace hf := if_fe c31 hf
              exact Hj30 H locs ls hP hD hS (lv_sub hl [0, 1, 2, 3] rfl) hf
            · replace hf := if_te c31 hf
              refine lv_aload_n hx hb dX6_shelf_50 rfl (lv_at hl 0 rfl) ?_
              refine va_get (D := D) (ci := 6) (v := .ref e9) (C := RX6) (T := TX6) (N := 28) hx hb hts hi_RX6 hown hK hP 0 rfl rfl 16 (by decide) (hts (.fieldLink RX6 34 "TravelMarksModel" "sortOf" "[I") (List.mem_of_getElem? (i := 2) rfl)) (fun _ h9 => h9) rfl dX6_shelf_51 ?_
              refine lv_iload_n hx hb dX6_shelf_54 rfl (lv_at hl 3 rfl) ?_
              obtain ⟨y33, ey33, hi32, hf⟩ := rdA_x hf
              refine va_iald hx hb hK hP 9 0 rfl rfl hi32 dX6_shelf_55 ?_
              refine lv_ren ey33 ?_
              refine lv_if_lt (tgt := 63) hx hb dX6_shelf_56 (by decide) (fun c34 => ?_) (fun c34 => ?_)
              · replace hf := if_te c34 hf
                exact Hj30 H locs ls hP hD hS (lv_sub hl [0, 1, 2, 3] rfl) hf
              · replace hf := if_fe c34 hf
                refine lv_iconst (v := 1) hx hb dX6_shelf_59 rfl ?_
                refine lv_goto (tgt := 64) hx hb dX6_shelf_60 (by decide) ?_
                exact Hj8 1 H locs ls hP hD hS (lv_sub hl [0, 1, 2, 3] rfl) hf
          refine lv_icmp_ne (tgt := 45) hx hb dX6_shelf_33 (by decide) (fun c35 => ?_) (fun c35 => ?_)
          · replace hf := if_fe c35 hf
            exact Hj6 H locs ls hP hD hS (lv_sub hl [0, 1, 2, 3] rfl) hf
          · replace hf := if_te c35 hf
            refine lv_iload_n hx hb dX6_shelf_36 rfl (lv_at hl 3 rfl) ?_
            refine kcz (Wx := (oMM C e0 e1 e2 e3 e4 e5 e6 e7 e8 e9 e10 e11 e12 e13 e14 e15 m_s m_held m_aside m_before m_isHeld m_tape m_taped m_token m_from m_to m_value m_isWrong m_due m_firsts m_rows m_rowN m_sortOf m_sizeOf m_numbers m_holdsWhat m_holdsWhich m_holdsMany m_bodies m_ran m_actKind m_actN m_actA m_isParted [])) (va_runS (As := [.int x2]) (rest := []) ⟨hx, hb, hml, hown, hts⟩ (c_X6_isSheet l E D C H.size x2 _ rfl) (va_cwS 1 hts gX6_shelf_X6_isSheet rfl rfl rfl hdX6_isSheet ⟨Nat.le_of_ble_eq_true rfl, Nat.le_of_ble_eq_true rfl⟩) (kpre hP hD hK hS hE hA [] rfl rfl) rfl rfl hl.1 rfl (lv_room (Nat.le_of_ble_eq_true rfl)) dX6_shelf_37 ⟨Nat.zero_le _, Nat.zero_le _⟩) hP hD hS hA [] rfl rfl rfl (fun H locs hz36 hP hD hS => ?_)
            refine lv_if_ne (tgt := 45) hx hb dX6_shelf_40 (by decide) (fun c37 => ?_) (fun c37 => ?_)
            · replace hf := if_fe c37 hf
              exact Hj6 H locs ls hP hD hS (lv_sub hl [0, 1, 2, 3] rfl) hf
            · replace hf := if_te c37 hf
              refine lv_iconst (v := (-1)) hx hb dX6_shelf_43 rfl ?_
              cases hf
              exact kri hQ hAe hx hb hr hlocks hP hD hK hS dX6_shelf_44
        refine lv_if_ne (tgt := 31) hx hb dX6_shelf_20 (by decide) (fun c38 => ?_) (fun c38 => ?_)
        · replace hf := if_fe c38 hf
          exact Hj5 H locs ls hP hD hS (lv_sub hl [0, 1, 2, 3] rfl) hf
        · replace hf := if_te c38 hf
          refine lv_aload_n hx hb dX6_shelf_23 rfl (lv_at hl 0 rfl) ?_
          refine lv_iload_n hx hb dX6_shelf_24 rfl (lv_at hl 3 rfl) ?_
          refine kcz (Wx := (oMM C e0 e1 e2 e3 e4 e5 e6 e7 e8 e9 e10 e11 e12 e13 e14 e15 m_s m_held m_aside m_before m_isHeld m_tape m_taped m_token m_from m_to m_value m_isWrong m_due m_firsts m_rows m_rowN m_sortOf m_sizeOf m_numbers m_holdsWhat m_holdsWhich m_holdsMany m_bodies m_ran m_actKind m_actN m_actA m_isParted [])) (va_runV (As := [.int x2]) (rest := []) ⟨hx, hb, hml, hown, hts⟩ (c_X6_isOne l E D C e0 e1 e2 e3 e4 e5 e6 e7 e8 e9 e10 e11 e12 e13 e14 e15 H.size m_s m_held m_aside m_before m_isHeld m_tape m_taped m_token m_from m_to m_value m_isWrong m_due m_firsts m_rows m_rowN m_sortOf m_sizeOf m_numbers m_holdsWhat m_holdsWhich m_holdsMany m_bodies m_ran m_actKind m_actN m_actA m_isParted x2 _ rfl) (cwV 1 hts gX6_shelf_X6_isOne rfl rfl rfl hdX6_isOne ⟨Nat.le_of_ble_eq_true rfl, Nat.le_of_ble_eq_true rfl⟩) (kpreV hP hD hK hS hE hA [0, 1, 2, 3, 4, 5, 6, 7, 8, 9, 10, 11, 12, 13, 14, 15] rfl rfl 0 rfl rfl rfl) rfl rfl hl.1 rfl (lv_room (Nat.le_of_ble_eq_true rfl)) dX6_shelf_25 ⟨Nat.zero_le _, Nat.zero_le _⟩) hP hD hS hA [0, 1, 2, 3, 4, 5, 6, 7, 8, 9, 10, 11, 12, 13, 14, 15] rfl rfl rfl (fun H locs hz39 hP hD hS => ?_)
          refine lv_if_eq (tgt := 43) hx hb dX6_shelf_28 (by decide) (fun c40 => ?_) (fun c40 => ?_)
          · replace hf := if_te c40 hf
            refine lv_iconst (v := (-1)) hx hb dX6_shelf_43 rfl ?_
            cases hf
            exact kri hQ hAe hx hb hr hlocks hP hD hK hS dX6_shelf_44
          · replace hf := if_fe c40 hf
            exact Hj5 H locs ls hP hD hS (lv_sub hl [0, 1, 2, 3] rfl) hf
  exact main _ _ hP hD hS

def rmX6_heldOn : Room := { frames := 1, cells := 0, slots := 0, locals := 21 }
theorem hdX6_heldOn : yX6_heldOn.cls = RX6 ∧ yX6_heldOn.cls ≠ "java/lang/invoke/MethodHandle" ∧ yX6_heldOn.cls ≠ "java/lang/invoke/VarHandle" ∧ (parseMethodDescriptor yX6_heldOn.desc).map (fun d => d.parameters.length) = some 1 := by decide +kernel
set_option maxHeartbeats 40000000 in
set_option maxRecDepth 100000 in
theorem c_X6_heldOn (l : Launch) (E : Nat → Nat) (D : va_G) (C : Nat → ClassId) (e0 e1 e2 e3 e4 e5 e6 e7 e8 e9 e10 e11 e12 e13 e14 e15 : Nat) (sz : Nat) (m_s : Nat → Int32) (m_held : Nat → Int32) (m_aside : Nat → Int32) (m_before : Nat → Int32) (m_isHeld : Int32) (m_tape : Nat → Int32) (m_taped : Int32) (m_token : Int32) (m_from : Int32) (m_to : Int32) (m_value : Int32) (m_isWrong : Int32) (m_due : Nat → Int32) (m_firsts : Nat → Int32) (m_rows : Nat → Int32) (m_rowN : Int32) (m_sortOf : Nat → Int32) (m_sizeOf : Nat → Int32) (m_numbers : Nat → Int32) (m_holdsWhat : Nat → Int32) (m_holdsWhich : Nat → Int32) (m_holdsMany : Nat → Int32) (m_bodies : Nat → Int32) (m_ran : Int32) (m_actKind : Int32) (m_actN : Int32) (m_actA : Int32) (m_isParted : Int32) (x0 : Int32) (r : Int32) (hf : f_X6_heldOn m_s m_holdsWhat m_holdsWhich x0 = some r) : Met l yX6_heldOn wsX6_heldOn rmX6_heldOn (PC E D C [.ref e0, .int x0] (oMM C e0 e1 e2 e3 e4 e5 e6 e7 e8 e9 e10 e11 e12 e13 e14 e15 m_s m_held m_aside m_before m_isHeld m_tape m_taped m_token m_from m_to m_value m_isWrong m_due m_firsts m_rows m_rowN m_sortOf m_sizeOf m_numbers m_holdsWhat m_holdsWhich m_holdsMany m_bodies m_ran m_actKind m_actN m_actA m_isParted []) sz) (QI D C (oMM C e0 e1 e2 e3 e4 e5 e6 e7 e8 e9 e10 e11 e12 e13 e14 e15 m_s m_held m_aside m_before m_isHeld m_tape m_taped m_token m_from m_to m_value m_isWrong m_due m_firsts m_rows m_rowN m_sortOf m_sizeOf m_numbers m_holdsWhat m_holdsWhich m_holdsMany m_bodies m_ran m_actKind m_actN m_actA m_isParted []) (oMM C e0 e1 e2 e3 e4 e5 e6 e7 e8 e9 e10 e11 e12 e13 e14 e15 m_s m_held m_aside m_before m_isHeld m_tape m_taped m_token m_from m_to m_value m_isWrong m_due m_firsts m_rows m_rowN m_sortOf m_sizeOf m_numbers m_holdsWhat m_holdsWhich m_holdsMany m_bodies m_ran m_actKind m_actN m_actA m_isParted []) sz r) 0 0 (va_A (oMM C e0 e1 e2 e3 e4 e5 e6 e7 e8 e9 e10 e11 e12 e13 e14 e15 m_s m_held m_aside m_before m_isHeld m_tape m_taped m_token m_from m_to m_value m_isWrong m_due m_firsts m_rows m_rowN m_sortOf m_sizeOf m_numbers m_holdsWhat m_holdsWhich m_holdsMany m_bodies m_ran m_actKind m_actN m_actA m_isParted []) sz) := by
  refine Met.ofW (cc := cX6_heldOn) (maxL := 2) (ret := (some .int)) (by decide) rfl ?_
  intro p e s m args below meth c s₁ B hml hv
  obtain ⟨rfl, hsz, hP, hK, hD0, hE⟩ := hv
  have hx := B.exec
  have hb := B.bytes
  have hr := B.returns
  have hts := atoms_spec (ws := wsX6_heldOn) B.pre
  have hown : s.vm.findClass RX6 = some m.cls := findClass_of_methodNamed B.named
  have hlocks := B.notSynchronized
  subst hsz
  have hi_RX6 : ∀ w ∈ wsX60, w ∈ wsX6_heldOn := fun _ h => List.mem_cons_of_mem _ (List.mem_append_right _ h)
  have hD := hD0.self (sz := s.heap.size)
  obtain ⟨A, hAe⟩ := nm_ex (va_A (oMM C e0 e1 e2 e3 e4 e5 e6 e7 e8 e9 e10 e11 e12 e13 e14 e15 m_s m_held m_aside m_before m_isHeld m_tape m_taped m_token m_from m_to m_value m_isWrong m_due m_firsts m_rows m_rowN m_sortOf m_sizeOf m_numbers m_holdsWhat m_holdsWhich m_holdsMany m_bodies m_ran m_actKind m_actN m_actA m_isParted []) s.heap.size)
  rw [← hAe] at hD hE ⊢
  have hA : ∀ q : Nat, s.heap.size ≤ q → A q := fun q h => by rw [hAe]; exact Or.inr h
  have hS : va_S A s.heap s.heap [] := va_S.rf
  have hl := lv_entry ([.ref e0, .int x0]) (n := 2) (Nat.le_of_ble_eq_true rfl)
  rw [lg_entry_eq]
  generalize (lg_sl ([.ref e0, .int x0]) ++ List.replicate (2 - (lg_sl ([.ref e0, .int x0])).length) Slot.unset).toArray = ls at hl ⊢
  have hl : lv_has ls 2 [(0, .ref e0), (1, .int x0)] := hl
  obtain ⟨Q, hQ⟩ := nm_ex (MQ below (QI D C (oMM C e0 e1 e2 e3 e4 e5 e6 e7 e8 e9 e10 e11 e12 e13 e14 e15 m_s m_held m_aside m_before m_isHeld m_tape m_taped m_token m_from m_to m_value m_isWrong m_due m_firsts m_rows m_rowN m_sortOf m_sizeOf m_numbers m_holdsWhat m_holdsWhich m_holdsMany m_bodies m_ran m_actKind m_actN m_actA m_isParted []) (oMM C e0 e1 e2 e3 e4 e5 e6 e7 e8 e9 e10 e11 e12 e13 e14 e15 m_s m_held m_aside m_before m_isHeld m_tape m_taped m_token m_from m_to m_value m_isWrong m_due m_firsts m_rows m_rowN m_sortOf m_sizeOf m_numbers m_holdsWhat m_holdsWhich m_holdsMany m_bodies m_ran m_actKind m_actN m_actA m_isParted []) s.heap.size r) (List.toArray [Value.ref e0, Value.int x0]) s 0 0 A)
  show W p l e (headSpec wsX6_heldOn (rmX6_heldOn)).room s m (List.toArray [Value.ref e0, Value.int x0]) below meth c s.heap [] 0 0 (MQ below (QI D C (oMM C e0 e1 e2 e3 e4 e5 e6 e7 e8 e9 e10 e11 e12 e13 e14 e15 m_s m_held m_aside m_before m_isHeld m_tape m_taped m_token m_from m_to m_value m_isWrong m_due m_firsts m_rows m_rowN m_sortOf m_sizeOf m_numbers m_holdsWhat m_holdsWhich m_holdsMany m_bodies m_ran m_actKind m_actN m_actA m_isParted []) (oMM C e0 e1 e2 e3 e4 e5 e6 e7 e8 e9 e10 e11 e12 e13 e14 e15 m_s m_held m_aside m_before m_isHeld m_tape m_taped m_token m_from m_to m_value m_isWrong m_due m_firsts m_rows m_rowN m_sortOf m_sizeOf m_numbers m_holdsWhat m_holdsWhich m_holdsMany m_bodies m_ran m_actKind m_actN m_actA m_isParted []) s.heap.size r) (List.toArray [Value.ref e0, Value.int x0]) s 0 0 A) _
  rw [← hQ]
  unfold f_X6_heldOn at hf
  have main : ∀ (H : Heap) (locs : List Loc), va_P D vwCl (oMM C e0 e1 e2 e3 e4 e5 e6 e7 e8 e9 e10 e11 e12 e13 e14 e15 m_s m_held m_aside m_before m_isHeld m_tape m_taped m_token m_from m_to m_value m_isWrong m_due m_firsts m_rows m_rowN m_sortOf m_sizeOf m_numbers m_holdsWhat m_holdsWhich m_holdsMany m_bodies m_ran m_actKind m_actN m_actA m_isParted []) H → va_D A (oMM C e0 e1 e2 e3 e4 e5 e6 e7 e8 e9 e10 e11 e12 e13 e14 e15 m_s m_held m_aside m_before m_isHeld m_tape m_taped m_token m_from m_to m_value m_isWrong m_due m_firsts m_rows m_rowN m_sortOf m_sizeOf m_numbers m_holdsWhat m_holdsWhich m_holdsMany m_bodies m_ran m_actKind m_actN m_actA m_isParted []) → va_S A s.heap H locs → W p l e (headSpec wsX6_heldOn (rmX6_heldOn)).room s m (List.toArray [Value.ref e0, Value.int x0]) below meth c H locs 0 0 Q (F0 m 0 ls []) := by
    intro H locs hP hD hS
    refine lv_aload_n hx hb dX6_heldOn_0 rfl (lv_at hl 0 rfl) ?_
    refine va_get (D := D) (ci := 6) (v := .ref e12) (C := RX6) (T := TX6) (N := 28) hx hb hts hi_RX6 hown hK hP 0 rfl rfl 19 (by decide) (hts (.fieldLink RX6 43 "TravelMarksModel" "holdsWhat" "[I") (List.mem_of_getElem? (i := 1) rfl)) (fun _ h9 => h9) rfl dX6_heldOn_1 ?_
    refine lv_iload_n hx hb dX6_heldOn_4 rfl (lv_at hl 1 rfl) ?_
    obtain ⟨y2, ey2, hi1, hf⟩ := rdA_x hf
    refine va_iald hx hb hK hP 12 0 rfl rfl hi1 dX6_heldOn_5 ?_
    refine lv_ren ey2 ?_
    refine lv_iconst (v := 1) hx hb dX6_heldOn_6 rfl ?_
    obtain ⟨j3, hj3, hf⟩ := lj_e hf
    have Hj3 : ∀ (H : Heap) (locs : List Loc) (ls : Array Slot), va_P D vwCl (oMM C e0 e1 e2 e3 e4 e5 e6 e7 e8 e9 e10 e11 e12 e13 e14 e15 m_s m_held m_aside m_before m_isHeld m_tape m_taped m_token m_from m_to m_value m_isWrong m_due m_firsts m_rows m_rowN m_sortOf m_sizeOf m_numbers m_holdsWhat m_holdsWhich m_holdsMany m_bodies m_ran m_actKind m_actN m_actA m_isParted []) H → va_D A (oMM C e0 e1 e2 e3 e4 e5 e6 e7 e8 e9 e10 e11 e12 e13 e14 e15 m_s m_held m_aside m_before m_isHeld m_tape m_taped m_token m_from m_to m_value m_isWrong m_due m_firsts m_rows m_rowN m_sortOf m_sizeOf m_numbers m_holdsWhat m_holdsWhich m_holdsMany m_bodies m_ran m_actKind m_actN m_actA m_isParted []) → va_S A s.heap H locs → lv_has ls 2 [(0, .ref e0), (1, .int x0)] → j3 = some r → W p l e (headSpec wsX6_heldOn (rmX6_heldOn)).room s m (List.toArray [Value.ref e0, Value.int x0]) below meth c H locs 0 0 Q (F0 m 27 ls []) := by
      intro H locs ls hP hD hS hl hf
      rw [hj3] at hf
      refine lv_aload_n hx hb dX6_heldOn_27 rfl (lv_at hl 0 rfl) ?_
      refine va_get (D := D) (ci := 6) (v := .ref e12) (C := RX6) (T := TX6) (N := 28) hx hb hts hi_RX6 hown hK hP 0 rfl rfl 19 (by decide) (hts (.fieldLink RX6 43 "TravelMarksModel" "holdsWhat" "[I") (List.mem_of_getElem? (i := 1) rfl)) (fun _ h9 => h9) rfl dX6_heldOn_28 ?_
      refine lv_iload_n hx hb dX6_heldOn_31 rfl (lv_at hl 1 rfl) ?_
      obtain ⟨y5, ey5, hi4, hf⟩ := rdA_x hf
      refine va_iald hx hb hK hP 12 0 rfl rfl hi4 dX6_heldOn_32 ?_
      refine lv_ren ey5 ?_
      cases hf
      exact kri hQ hAe hx hb hr hlocks hP hD hK hS dX6_heldOn_33
    refine lv_icmp_ne (tgt := 27) hx hb dX6_heldOn_7 (by decide) (fun c6 => ?_) (fun c6 => ?_)
    · replace hf := if_fe c6 hf
      exact Hj3 H locs ls hP hD hS (lv_sub hl [0, 1] rfl) hf
    · replace hf := if_te c6 hf
      refine lv_aload_n hx hb dX6_heldOn_10 rfl (lv_at hl 0 rfl) ?_
      refine lv_aload_n hx hb dX6_heldOn_11 rfl (lv_at hl 0 rfl) ?_
      refine va_get (D := D) (ci := 6) (v := .ref e13) (C := RX6) (T := TX6) (N := 28) hx hb hts hi_RX6 hown hK hP 0 rfl rfl 20 (by decide) (hts (.fieldLink RX6 46 "TravelMarksModel" "holdsWhich" "[I") (List.mem_of_getElem? (i := 2) rfl)) (fun _ h9 => h9) rfl dX6_heldOn_12 ?_
      refine lv_iload_n hx hb dX6_heldOn_15 rfl (lv_at hl 1 rfl) ?_
      obtain ⟨y8, ey8, hi7, hf⟩ := rdA_x hf
      refine va_iald hx hb hK hP 13 0 rfl rfl hi7 dX6_heldOn_16 ?_
      refine lv_ren ey8 ?_
      refine kcz (Wx := (oMM C e0 e1 e2 e3 e4 e5 e6 e7 e8 e9 e10 e11 e12 e13 e14 e15 m_s m_held m_aside m_before m_isHeld m_tape m_taped m_token m_from m_to m_value m_isWrong m_due m_firsts m_rows m_rowN m_sortOf m_sizeOf m_numbers m_holdsWhat m_holdsWhich m_holdsMany m_bodies m_ran m_actKind m_actN m_actA m_isParted [])) (va_runV (As := [.int y8]) (rest := []) ⟨hx, hb, hml, hown, hts⟩ (c_X6_isOne l E D C e0 e1 e2 e3 e4 e5 e6 e7 e8 e9 e10 e11 e12 e13 e14 e15 H.size m_s m_held m_aside m_before m_isHeld m_tape m_taped m_token m_from m_to m_value m_isWrong m_due m_firsts m_rows m_rowN m_sortOf m_sizeOf m_numbers m_holdsWhat m_holdsWhich m_holdsMany m_bodies m_ran m_actKind m_actN m_actA m_isParted y8 _ rfl) (cwV 1 hts gX6_heldOn_X6_isOne rfl rfl rfl hdX6_isOne ⟨Nat.le_of_ble_eq_true rfl, Nat.le_of_ble_eq_true rfl⟩) (kpreV hP hD hK hS hE hA [0, 1, 2, 3, 4, 5, 6, 7, 8, 9, 10, 11, 12, 13, 14, 15] rfl rfl 0 rfl rfl rfl) rfl rfl hl.1 rfl (lv_room (Nat.le_of_ble_eq_true rfl)) dX6_heldOn_17 ⟨Nat.zero_le _, Nat.zero_le _⟩) hP hD hS hA [0, 1, 2, 3, 4, 5, 6, 7, 8, 9, 10, 11, 12, 13, 14, 15] rfl rfl rfl (fun H locs hz9 hP hD hS => ?_)
      refine lv_if_ne (tgt := 27) hx hb dX6_heldOn_20 (by decide) (fun c10 => ?_) (fun c10 => ?_)
      · replace hf := if_fe c10 hf
        exact Hj3 H locs ls hP hD hS (lv_sub hl [0, 1] rfl) hf
      · replace hf := if_te c10 hf
        refine lv_iconst (v := 0) hx hb dX6_heldOn_23 rfl ?_
        refine lv_goto (tgt := 33) hx hb dX6_heldOn_24 (by decide) ?_
        cases hf
        exact kri hQ hAe hx hb hr hlocks hP hD hK hS dX6_heldOn_33
  exact main _ _ hP hD hS

def rmX6_taken : Room := { frames := 2, cells := 0, slots := 0, locals := 45 }
theorem hdX6_taken : yX6_taken.cls = RX6 ∧ yX6_taken.cls ≠ "java/lang/invoke/MethodHandle" ∧ yX6_taken.cls ≠ "java/lang/invoke/VarHandle" ∧ (parseMethodDescriptor yX6_taken.desc).map (fun d => d.parameters.length) = some 2 := by decide +kernel
set_option maxHeartbeats 40000000 in
set_option maxRecDepth 100000 in
theorem c_X6_taken (l : Launch) (E : Nat → Nat) (D : va_G) (C : Nat → ClassId) (e0 e1 e2 e3 e4 e5 e6 e7 e8 e9 e10 e11 e12 e13 e14 e15 : Nat) (sz : Nat) (m_s : Nat → Int32) (m_held : Nat → Int32) (m_aside : Nat → Int32) (m_before : Nat → Int32) (m_isHeld : Int32) (m_tape : Nat → Int32) (m_taped : Int32) (m_token : Int32) (m_from : Int32) (m_to : Int32) (m_value : Int32) (m_isWrong : Int32) (m_due : Nat → Int32) (m_firsts : Nat → Int32) (m_rows : Nat → Int32) (m_rowN : Int32) (m_sortOf : Nat → Int32) (m_sizeOf : Nat → Int32) (m_numbers : Nat → Int32) (m_holdsWhat : Nat → Int32) (m_holdsWhich : Nat → Int32) (m_holdsMany : Nat → Int32) (m_bodies : Nat → Int32) (m_ran : Int32) (m_actKind : Int32) (m_actN : Int32) (m_actA : Int32) (m_isParted : Int32) (x0 : Int32) (x1 : Int32) (r : Int32) (hf : f_X6_taken m_s m_holdsWhat m_holdsWhich m_holdsMany x0 x1 = some r) : Met l yX6_taken wsX6_taken rmX6_taken (PC E D C [.ref e0, .int x0, .int x1] (oMM C e0 e1 e2 e3 e4 e5 e6 e7 e8 e9 e10 e11 e12 e13 e14 e15 m_s m_held m_aside m_before m_isHeld m_tape m_taped m_token m_from m_to m_value m_isWrong m_due m_firsts m_rows m_rowN m_sortOf m_sizeOf m_numbers m_holdsWhat m_holdsWhich m_holdsMany m_bodies m_ran m_actKind m_actN m_actA m_isParted []) sz) (QI D C (oMM C e0 e1 e2 e3 e4 e5 e6 e7 e8 e9 e10 e11 e12 e13 e14 e15 m_s m_held m_aside m_before m_isHeld m_tape m_taped m_token m_from m_to m_value m_isWrong m_due m_firsts m_rows m_rowN m_sortOf m_sizeOf m_numbers m_holdsWhat m_holdsWhich m_holdsMany m_bodies m_ran m_actKind m_actN m_actA m_isParted []) (oMM C e0 e1 e2 e3 e4 e5 e6 e7 e8 e9 e10 e11 e12 e13 e14 e15 m_s m_held m_aside m_before m_isHeld m_tape m_taped m_token m_from m_to m_value m_isWrong m_due m_firsts m_rows m_rowN m_sortOf m_sizeOf m_numbers m_holdsWhat m_holdsWhich m_holdsMany m_bodies m_ran m_actKind m_actN m_actA m_isParted []) sz r) 0 0 (va_A (oMM C e0 e1 e2 e3 e4 e5 e6 e7 e8 e9 e10 e11 e12 e13 e14 e15 m_s m_held m_aside m_before m_isHeld m_tape m_taped m_token m_from m_to m_value m_isWrong m_due m_firsts m_rows m_rowN m_sortOf m_sizeOf m_numbers m_holdsWhat m_holdsWhich m_holdsMany m_bodies m_ran m_actKind m_actN m_actA m_isParted []) sz) := by
  refine Met.ofW (cc := cX6_taken) (maxL := 4) (ret := (some .int)) (by decide) rfl ?_
  intro p e s m args below meth c s₁ B hml hv
  obtain ⟨rfl, hsz, hP, hK, hD0, hE⟩ := hv
  have hx := B.exec
  have hb := B.bytes
  have hr := B.returns
  have hts := atoms_spec (ws := wsX6_taken) B.pre
  have hown : s.vm.findClass RX6 = some m.cls := findClass_of_methodNamed B.named
  have hlocks := B.notSynchronized
  subst hsz
  have hi_RX6 : ∀ w ∈ wsX60, w ∈ wsX6_taken := fun _ h => List.mem_cons_of_mem _ (List.mem_append_right _ h)
  have hD := hD0.self (sz := s.heap.size)
  obtain ⟨A, hAe⟩ := nm_ex (va_A (oMM C e0 e1 e2 e3 e4 e5 e6 e7 e8 e9 e10 e11 e12 e13 e14 e15 m_s m_held m_aside m_before m_isHeld m_tape m_taped m_token m_from m_to m_value m_isWrong m_due m_firsts m_rows m_rowN m_sortOf m_sizeOf m_numbers m_holdsWhat m_holdsWhich m_holdsMany m_bodies m_ran m_actKind m_actN m_actA m_isParted []) s.heap.size)
  rw [← hAe] at hD hE ⊢
  have hA : ∀ q : Nat, s.heap.size ≤ q → A q := fun q h => by rw [hAe]; exact Or.inr h
  have hS : va_S A s.heap s.heap [] := va_S.rf
  have hl := lv_entry ([.ref e0, .int x0, .int x1]) (n := 4) (Nat.le_of_ble_eq_true rfl)
  rw [lg_entry_eq]
  generalize (lg_sl ([.ref e0, .int x0, .int x1]) ++ List.replicate (4 - (lg_sl ([.ref e0, .int x0, .int x1])).length) Slot.unset).toArray = ls at hl ⊢
  have hl : lv_has ls 4 [(0, .ref e0), (1, .int x0), (2, .int x1)] := hl
  obtain ⟨Q, hQ⟩ := nm_ex (MQ below (QI D C (oMM C e0 e1 e2 e3 e4 e5 e6 e7 e8 e9 e10 e11 e12 e13 e14 e15 m_s m_held m_aside m_before m_isHeld m_tape m_taped m_token m_from m_to m_value m_isWrong m_due m_firsts m_rows m_rowN m_sortOf m_sizeOf m_numbers m_holdsWhat m_holdsWhich m_holdsMany m_bodies m_ran m_actKind m_actN m_actA m_isParted []) (oMM C e0 e1 e2 e3 e4 e5 e6 e7 e8 e9 e10 e11 e12 e13 e14 e15 m_s m_held m_aside m_before m_isHeld m_tape m_taped m_token m_from m_to m_value m_isWrong m_due m_firsts m_rows m_rowN m_sortOf m_sizeOf m_numbers m_holdsWhat m_holdsWhich m_holdsMany m_bodies m_ran m_actKind m_actN m_actA m_isParted []) s.heap.size r) (List.toArray [Value.ref e0, Value.int x0, Value.int x1]) s 0 0 A)
  show W p l e (headSpec wsX6_taken (rmX6_taken)).room s m (List.toArray [Value.ref e0, Value.int x0, Value.int x1]) below meth c s.heap [] 0 0 (MQ below (QI D C (oMM C e0 e1 e2 e3 e4 e5 e6 e7 e8 e9 e10 e11 e12 e13 e14 e15 m_s m_held m_aside m_before m_isHeld m_tape m_taped m_token m_from m_to m_value m_isWrong m_due m_firsts m_rows m_rowN m_sortOf m_sizeOf m_numbers m_holdsWhat m_holdsWhich m_holdsMany m_bodies m_ran m_actKind m_actN m_actA m_isParted []) (oMM C e0 e1 e2 e3 e4 e5 e6 e7 e8 e9 e10 e11 e12 e13 e14 e15 m_s m_held m_aside m_before m_isHeld m_tape m_taped m_token m_from m_to m_value m_isWrong m_due m_firsts m_rows m_rowN m_sortOf m_sizeOf m_numbers m_holdsWhat m_holdsWhich m_holdsMany m_bodies m_ran m_actKind m_actN m_actA m_isParted []) s.heap.size r) (List.toArray [Value.ref e0, Value.int x0, Value.int x1]) s 0 0 A) _
  rw [← hQ]
  unfold f_X6_taken at hf
  have main : ∀ (H : Heap) (locs : List Loc), va_P D vwCl (oMM C e0 e1 e2 e3 e4 e5 e6 e7 e8 e9 e10 e11 e12 e13 e14 e15 m_s m_held m_aside m_before m_isHeld m_tape m_taped m_token m_from m_to m_value m_isWrong m_due m_firsts m_rows m_rowN m_sortOf m_sizeOf m_numbers m_holdsWhat m_holdsWhich m_holdsMany m_bodies m_ran m_actKind m_actN m_actA m_isParted []) H → va_D A (oMM C e0 e1 e2 e3 e4 e5 e6 e7 e8 e9 e10 e11 e12 e13 e14 e15 m_s m_held m_aside m_before m_isHeld m_tape m_taped m_token m_from m_to m_value m_isWrong m_due m_firsts m_rows m_rowN m_sortOf m_sizeOf m_numbers m_holdsWhat m_holdsWhich m_holdsMany m_bodies m_ran m_actKind m_actN m_actA m_isParted []) → va_S A s.heap H locs → W p l e (headSpec wsX6_taken (rmX6_taken)).room s m (List.toArray [Value.ref e0, Value.int x0, Value.int x1]) below meth c H locs 0 0 Q (F0 m 0 ls []) := by
    intro H locs hP hD hS
    refine lv_iload_n hx hb dX6_taken_0 rfl (lv_at hl 1 rfl) ?_
    refine kcz (Wx := (oMM C e0 e1 e2 e3 e4 e5 e6 e7 e8 e9 e10 e11 e12 e13 e14 e15 m_s m_held m_aside m_before m_isHeld m_tape m_taped m_token m_from m_to m_value m_isWrong m_due m_firsts m_rows m_rowN m_sortOf m_sizeOf m_numbers m_holdsWhat m_holdsWhich m_holdsMany m_bodies m_ran m_actKind m_actN m_actA m_isParted [])) (va_runS (As := [.int x0]) (rest := []) ⟨hx, hb, hml, hown, hts⟩ (c_X6_isShelf l E D C H.size x0 _ rfl) (va_cwS 1 hts gX6_taken_X6_isShelf rfl rfl rfl hdX6_isShelf ⟨Nat.le_of_ble_eq_true rfl, Nat.le_of_ble_eq_true rfl⟩) (kpre hP hD hK hS hE hA [] rfl rfl) rfl rfl hl.1 rfl (lv_room (Nat.le_of_ble_eq_true rfl)) dX6_taken_1 ⟨Nat.zero_le _, Nat.zero_le _⟩) hP hD hS hA [] rfl rfl rfl (fun H locs hz1 hP hD hS => ?_)
    refine lv_if_eq (tgt := 33) hx hb dX6_taken_4 (by decide) (fun c2 => ?_) (fun c2 => ?_)
    · replace hf := if_te c2 hf
      refine lv_iconst (v := (-1)) hx hb dX6_taken_33 rfl ?_
      cases hf
      exact kri hQ hAe hx hb hr hlocks hP hD hK hS dX6_taken_34
    · replace hf := if_fe c2 hf
      refine lv_iload_n hx hb dX6_taken_7 rfl (lv_at hl 2 rfl) ?_
      refine lv_i2l hx hb dX6_taken_8 rfl ?_
      refine lv_lconst (v := 0) hx hb dX6_taken_9 rfl ?_
      refine lv_ldc2 (v := 13) hx hb hown (hts (.constantLong RX6 287 (13)) (List.mem_of_getElem? (i := 1) rfl)) dX6_taken_10 ?_
      refine kcz (Wx := (oMM C e0 e1 e2 e3 e4 e5 e6 e7 e8 e9 e10 e11 e12 e13 e14 e15 m_s m_held m_aside m_before m_isHeld m_tape m_taped m_token m_from m_to m_value m_isWrong m_due m_firsts m_rows m_rowN m_sortOf m_sizeOf m_numbers m_holdsWhat m_holdsWhich m_holdsMany m_bodies m_ran m_actKind m_actN m_actA m_isParted [])) (va_runS (As := [.long (Int32.toInt64 x1), .long 0, .long 13]) (rest := []) ⟨hx, hb, hml, hown, hts⟩ (c_X6_isIn l E D C H.size (Int32.toInt64 x1) 0 13 _ rfl) (va_cwS 3 hts gX6_taken_X6_isIn rfl rfl rfl hdX6_isIn ⟨Nat.le_of_ble_eq_true rfl, Nat.le_of_ble_eq_true rfl⟩) (kpre hP hD hK hS hE hA [] rfl rfl) rfl rfl hl.1 rfl (lv_room (Nat.le_of_ble_eq_true rfl)) dX6_taken_13 ⟨Nat.zero_le _, Nat.zero_le _⟩) hP hD hS hA [] rfl rfl rfl (fun H locs hz3 hP hD hS => ?_)
      refine lv_if_eq (tgt := 33) hx hb dX6_taken_16 (by decide) (fun c4 => ?_) (fun c4 => ?_)
      · replace hf := if_te c4 hf
        refine lv_iconst (v := (-1)) hx hb dX6_taken_33 rfl ?_
        cases hf
        exact kri hQ hAe hx hb hr hlocks hP hD hK hS dX6_taken_34
      · replace hf := if_fe c4 hf
        refine lv_iload_n hx hb dX6_taken_19 rfl (lv_at hl 2 rfl) ?_
        refine lv_i2l hx hb dX6_taken_20 rfl ?_
        refine lv_ldc2 (v := 6) hx hb hown (hts (.constantLong RX6 289 (6)) (List.mem_of_getElem? (i := 2) rfl)) dX6_taken_21 ?_
        refine lv_ldc2 (v := 9) hx hb hown (hts (.constantLong RX6 291 (9)) (List.mem_of_getElem? (i := 3) rfl)) dX6_taken_24 ?_
        refine kcz (Wx := (oMM C e0 e1 e2 e3 e4 e5 e6 e7 e8 e9 e10 e11 e12 e13 e14 e15 m_s m_held m_aside m_before m_isHeld m_tape m_taped m_token m_from m_to m_value m_isWrong m_due m_firsts m_rows m_rowN m_sortOf m_sizeOf m_numbers m_holdsWhat m_holdsWhich m_holdsMany m_bodies m_ran m_actKind m_actN m_actA m_isParted [])) (va_runS (As := [.long (Int32.toInt64 x1), .long 6, .long 9]) (rest := []) ⟨hx, hb, hml, hown, hts⟩ (c_X6_isIn l E D C H.size (Int32.toInt64 x1) 6 9 _ rfl) (va_cwS 3 hts gX6_taken_X6_isIn rfl rfl rfl hdX6_isIn ⟨Nat.le_of_ble_eq_true rfl, Nat.le_of_ble_eq_true rfl⟩) (kpre hP hD hK hS hE hA [] rfl rfl) rfl rfl hl.1 rfl (lv_room (Nat.le_of_ble_eq_true rfl)) dX6_taken_27 ⟨Nat.zero_le _, Nat.zero_le _⟩) hP hD hS hA [] rfl rfl rfl (fun H locs hz5 hP hD hS => ?_)
        refine lv_if_eq (tgt := 35) hx hb dX6_taken_30 (by decide) (fun c6 => ?_) (fun c6 => ?_)
        · replace hf := if_te c6 hf
          refine lv_aload_n hx hb dX6_taken_35 rfl (lv_at hl 0 rfl) ?_
          refine lv_iload_n hx hb dX6_taken_36 rfl (lv_at hl 1 rfl) ?_
          obtain ⟨r7, h8, hf⟩ := ob1_e hf
          refine kci (Wx := (oMM C e0 e1 e2 e3 e4 e5 e6 e7 e8 e9 e10 e11 e12 e13 e14 e15 m_s m_held m_aside m_before m_isHeld m_tape m_taped m_token m_from m_to m_value m_isWrong m_due m_firsts m_rows m_rowN m_sortOf m_sizeOf m_numbers m_holdsWhat m_holdsWhich m_holdsMany m_bodies m_ran m_actKind m_actN m_actA m_isParted [])) (va_runV (As := [.int x0]) (rest := []) ⟨hx, hb, hml, hown, hts⟩ (c_X6_heldOn l E D C e0 e1 e2 e3 e4 e5 e6 e7 e8 e9 e10 e11 e12 e13 e14 e15 H.size m_s m_held m_aside m_before m_isHeld m_tape m_taped m_token m_from m_to m_value m_isWrong m_due m_firsts m_rows m_rowN m_sortOf m_sizeOf m_numbers m_holdsWhat m_holdsWhich m_holdsMany m_bodies m_ran m_actKind m_actN m_actA m_isParted x0 r7 h8) (cwV 1 hts gX6_taken_X6_heldOn rfl rfl rfl hdX6_heldOn ⟨Nat.le_of_ble_eq_true rfl, Nat.le_of_ble_eq_true rfl⟩) (kpreV hP hD hK hS hE hA [0, 1, 2, 3, 4, 5, 6, 7, 8, 9, 10, 11, 12, 13, 14, 15] rfl rfl 0 rfl rfl rfl) rfl rfl hl.1 rfl (lv_room (Nat.le_of_ble_eq_true rfl)) dX6_taken_37 ⟨Nat.zero_le _, Nat.zero_le _⟩) hP hD hS hA [0, 1, 2, 3, 4, 5, 6, 7, 8, 9, 10, 11, 12, 13, 14, 15] rfl rfl rfl (fun H locs hP hD hS => ?_)
          refine lv_istore_n (lv' := [(3, .int r7), (0, .ref e0), (1, .int x0), (2, .int x1)]) hx hb dX6_taken_40 rfl hl (by decide) rfl (fun ls hl => ?_)
          refine lv_iload_n hx hb dX6_taken_41 rfl (lv_at hl 0 rfl) ?_
          refine lv_if_ne (tgt := 48) hx hb dX6_taken_42 (by decide) (fun c9 => ?_) (fun c9 => ?_)
          · replace hf := if_fe c9 hf
            refine lv_iload_n hx hb dX6_taken_48 rfl (lv_at hl 3 rfl) ?_
            refine lv_bipush (v := 10) hx hb dX6_taken_49 rfl ?_
            refine lv_icmp_ge (tgt := 89) hx hb dX6_taken_51 (by decide) (fun c10 => ?_) (fun c10 => ?_)
            · replace hf := if_te c10 hf
              refine lv_iload_n hx hb dX6_taken_89 rfl (lv_at hl 0 rfl) ?_
              refine lv_iconst (v := 2) hx hb dX6_taken_90 rfl ?_
              refine lv_icmp_ne (tgt := 116) hx hb dX6_taken_91 (by decide) (fun c11 => ?_) (fun c11 => ?_)
              · replace hf := if_fe c11 hf
                refine lv_bipush (v := (-13)) hx hb dX6_taken_116 rfl ?_
                cases hf
                exact kri hQ hAe hx hb hr hlocks hP hD hK hS dX6_taken_118
              · replace hf := if_te c11 hf
                refine lv_aload_n hx hb dX6_taken_94 rfl (lv_at hl 1 rfl) ?_
                refine va_get (D := D) (ci := 6) (v := .ref e13) (C := RX6) (T := TX6) (N := 28) hx hb hts hi_RX6 hown hK hP 0 rfl rfl 20 (by decide) (hts (.fieldLink RX6 46 "TravelMarksModel" "holdsWhich" "[I") (List.mem_of_getElem? (i := 4) rfl)) (fun _ h9 => h9) rfl dX6_taken_95 ?_
                refine lv_iload_n hx hb dX6_taken_98 rfl (lv_at hl 2 rfl) ?_
                obtain ⟨y13, ey13, hi12, hf⟩ := rdA_x hf
                refine va_iald hx hb hK hP 13 0 rfl rfl hi12 dX6_taken_99 ?_
                refine lv_ren ey13 ?_
                refine lv_iload_n hx hb dX6_taken_100 rfl (lv_at hl 3 rfl) ?_
                refine lv_bipush (v := 10) hx hb dX6_taken_101 rfl ?_
                refine lv_isub hx hb dX6_taken_103 ?_
                refine lv_icmp_ne (tgt := 116) hx hb dX6_taken_104 (by decide) (fun c14 => ?_) (fun c14 => ?_)
                · replace hf := if_fe c14 hf
                  refine lv_bipush (v := (-13)) hx hb dX6_taken_116 rfl ?_
                  cases hf
                  exact kri hQ hAe hx hb hr hlocks hP hD hK hS dX6_taken_118
                · replace hf := if_te c14 hf
                  refine lv_aload_n hx hb dX6_taken_107 rfl (lv_at hl 1 rfl) ?_
                  refine va_get (D := D) (ci := 6) (v := .ref e14) (C := RX6) (T := TX6) (N := 28) hx hb hts hi_RX6 hown hK hP 0 rfl rfl 21 (by decide) (hts (.fieldLink RX6 49 "TravelMarksModel" "holdsMany" "[I") (List.mem_of_getElem? (i := 5) rfl)) (fun _ h9 => h9) rfl dX6_taken_108 ?_
                  refine lv_iload_n hx hb dX6_taken_111 rfl (lv_at hl 2 rfl) ?_
                  obtain ⟨y16, ey16, hi15, hf⟩ := rdA_x hf
                  refine va_iald hx hb hK hP 14 0 rfl rfl hi15 dX6_taken_112 ?_
                  refine lv_ren ey16 ?_
                  refine lv_goto (tgt := 118) hx hb dX6_taken_113 (by decide) ?_
                  cases hf
                  exact kri hQ hAe hx hb hr hlocks hP hD hK hS dX6_taken_118
            · replace hf := if_fe c10 hf
              refine lv_iload_n hx hb dX6_taken_54 rfl (lv_at hl 0 rfl) ?_
              refine lv_iconst (v := 1) hx hb dX6_taken_55 rfl ?_
              refine lv_icmp_ne (tgt := 86) hx hb dX6_taken_56 (by decide) (fun c17 => ?_) (fun c17 => ?_)
              · replace hf := if_fe c17 hf
                refine lv_bipush (v := (-13)) hx hb dX6_taken_86 rfl ?_
                cases hf
                exact kri hQ hAe hx hb hr hlocks hP hD hK hS dX6_taken_88
              · replace hf := if_te c17 hf
                refine lv_aload_n hx hb dX6_taken_59 rfl (lv_at hl 1 rfl) ?_
                refine lv_aload_n hx hb dX6_taken_60 rfl (lv_at hl 1 rfl) ?_
                refine va_get (D := D) (ci := 6) (v := .ref e13) (C := RX6) (T := TX6) (N := 28) hx hb hts hi_RX6 hown hK hP 0 rfl rfl 20 (by decide) (hts (.fieldLink RX6 46 "TravelMarksModel" "holdsWhich" "[I") (List.mem_of_getElem? (i := 4) rfl)) (fun _ h9 => h9) rfl dX6_taken_61 ?_
                refine lv_iload_n hx hb dX6_taken_64 rfl (lv_at hl 2 rfl) ?_
                obtain ⟨y19, ey19, hi18, hf⟩ := rdA_x hf
                refine va_iald hx hb hK hP 13 0 rfl rfl hi18 dX6_taken_65 ?_
                refine lv_ren ey19 ?_
                refine lv_iconst (v := 0) hx hb dX6_taken_66 rfl ?_
                obtain ⟨r20, h21, hf⟩ := ob1_e hf
                refine kci (Wx := (oMM C e0 e1 e2 e3 e4 e5 e6 e7 e8 e9 e10 e11 e12 e13 e14 e15 m_s m_held m_aside m_before m_isHeld m_tape m_taped m_token m_from m_to m_value m_isWrong m_due m_firsts m_rows m_rowN m_sortOf m_sizeOf m_numbers m_holdsWhat m_holdsWhich m_holdsMany m_bodies m_ran m_actKind m_actN m_actA m_isParted [])) (va_runV (As := [.int y19, .int 0]) (rest := []) ⟨hx, hb, hml, hown, hts⟩ (c_X6_its l E D C e0 e1 e2 e3 e4 e5 e6 e7 e8 e9 e10 e11 e12 e13 e14 e15 H.size m_s m_held m_aside m_before m_isHeld m_tape m_taped m_token m_from m_to m_value m_isWrong m_due m_firsts m_rows m_rowN m_sortOf m_sizeOf m_numbers m_holdsWhat m_holdsWhich m_holdsMany m_bodies m_ran m_actKind m_actN m_actA m_isParted y19 0 r20 h21) (cwV 2 hts gX6_taken_X6_its rfl rfl rfl hdX6_its ⟨Nat.le_of_ble_eq_true rfl, Nat.le_of_ble_eq_true rfl⟩) (kpreV hP hD hK hS hE hA [0, 1, 2, 3, 4, 5, 6, 7, 8, 9, 10, 11, 12, 13, 14, 15] rfl rfl 0 rfl rfl rfl) rfl rfl hl.1 rfl (lv_room (Nat.le_of_ble_eq_true rfl)) dX6_taken_67 ⟨Nat.zero_le _, Nat.zero_le _⟩) hP hD hS hA [0, 1, 2, 3, 4, 5, 6, 7, 8, 9, 10, 11, 12, 13, 14, 15] rfl rfl rfl (fun H locs hP hD hS => ?_)
                refine lv_iload_n hx hb dX6_taken_70 rfl (lv_at hl 3 rfl) ?_
                refine kcz (Wx := (oMM C e0 e1 e2 e3 e4 e5 e6 e7 e8 e9 e10 e11 e12 e13 e14 e15 m_s m_held m_aside m_before m_isHeld m_tape m_taped m_token m_from m_to m_value m_isWrong m_due m_firsts m_rows m_rowN m_sortOf m_sizeOf m_numbers m_holdsWhat m_holdsWhich m_holdsMany m_bodies m_ran m_actKind m_actN m_actA m_isParted [])) (va_runS (As := [.int r20, .int x1]) (rest := []) ⟨hx, hb, hml, hown, hts⟩ (c_X6_isUnder l E D C H.size r20 x1 _ rfl) (va_cwS 2 hts gX6_taken_X6_isUnder rfl rfl rfl hdX6_isUnder ⟨Nat.le_of_ble_eq_true rfl, Nat.le_of_ble_eq_true rfl⟩) (kpre hP hD hK hS hE hA [] rfl rfl) rfl rfl hl.1 rfl (lv_room (Nat.le_of_ble_eq_true rfl)) dX6_taken_71 ⟨Nat.zero_le _, Nat.zero_le _⟩) hP hD hS hA [] rfl rfl rfl (fun H locs hz22 hP hD hS => ?_)
                refine lv_if_eq (tgt := 86) hx hb dX6_taken_74 (by decide) (fun c23 => ?_) (fun c23 => ?_)
                · replace hf := if_te c23 hf
                  refine lv_bipush (v := (-13)) hx hb dX6_taken_86 rfl ?_
                  cases hf
                  exact kri hQ hAe hx hb hr hlocks hP hD hK hS dX6_taken_88
                · replace hf := if_fe c23 hf
                  refine lv_aload_n hx hb dX6_taken_77 rfl (lv_at hl 1 rfl) ?_
                  refine va_get (D := D) (ci := 6) (v := .ref e13) (C := RX6) (T := TX6) (N := 28) hx hb hts hi_RX6 hown hK hP 0 rfl rfl 20 (by decide) (hts (.fieldLink RX6 46 "TravelMarksModel" "holdsWhich" "[I") (List.mem_of_getElem? (i := 4) rfl)) (fun _ h9 => h9) rfl dX6_taken_78 ?_
                  refine lv_iload_n hx hb dX6_taken_81 rfl (lv_at hl 2 rfl) ?_
                  obtain ⟨y25, ey25, hi24, hf⟩ := rdA_x hf
                  refine va_iald hx hb hK hP 13 0 rfl rfl hi24 dX6_taken_82 ?_
                  refine lv_ren ey25 ?_
                  refine lv_goto (tgt := 88) hx hb dX6_taken_83 (by decide) ?_
                  cases hf
                  exact kri hQ hAe hx hb hr hlocks hP hD hK hS dX6_taken_88
          · replace hf := if_te c9 hf
            refine lv_bipush (v := (-11)) hx hb dX6_taken_45 rfl ?_
            cases hf
            exact kri hQ hAe hx hb hr hlocks hP hD hK hS dX6_taken_47
        · replace hf := if_fe c6 hf
          refine lv_iconst (v := (-1)) hx hb dX6_taken_33 rfl ?_
          cases hf
          exact kri hQ hAe hx hb hr hlocks hP hD hK hS dX6_taken_34
  exact main _ _ hP hD hS

def rmX6_runs : Room := { frames := 0, cells := 0, slots := 0, locals := 0 }
theorem hdX6_runs : yX6_runs.cls = RX6 ∧ yX6_runs.cls ≠ "java/lang/invoke/MethodHandle" ∧ yX6_runs.cls ≠ "java/lang/invoke/VarHandle" ∧ (parseMethodDescriptor yX6_runs.desc).map (fun d => d.parameters.length) = some 1 := by decide +kernel
set_option maxHeartbeats 40000000 in
set_option maxRecDepth 100000 in
theorem c_X6_runs (l : Launch) (E : Nat → Nat) (D : va_G) (C : Nat → ClassId) (e0 e1 e2 e3 e4 e5 e6 e7 e8 e9 e10 e11 e12 e13 e14 e15 : Nat) (sz : Nat) (m_s : Nat → Int32) (m_held : Nat → Int32) (m_aside : Nat → Int32) (m_before : Nat → Int32) (m_isHeld : Int32) (m_tape : Nat → Int32) (m_taped : Int32) (m_token : Int32) (m_from : Int32) (m_to : Int32) (m_value : Int32) (m_isWrong : Int32) (m_due : Nat → Int32) (m_firsts : Nat → Int32) (m_rows : Nat → Int32) (m_rowN : Int32) (m_sortOf : Nat → Int32) (m_sizeOf : Nat → Int32) (m_numbers : Nat → Int32) (m_holdsWhat : Nat → Int32) (m_holdsWhich : Nat → Int32) (m_holdsMany : Nat → Int32) (m_bodies : Nat → Int32) (m_ran : Int32) (m_actKind : Int32) (m_actN : Int32) (m_actA : Int32) (m_isParted : Int32) (x0 : Int32) (m_bodies' : Nat → Int32) (m_ran' : Int32) (hf : f_X6_runs m_bodies m_ran x0 = some (m_bodies', m_ran')) : Met l yX6_runs wsX6_runs rmX6_runs (PC E D C [.ref e0, .int x0] (oMM C e0 e1 e2 e3 e4 e5 e6 e7 e8 e9 e10 e11 e12 e13 e14 e15 m_s m_held m_aside m_before m_isHeld m_tape m_taped m_token m_from m_to m_value m_isWrong m_due m_firsts m_rows m_rowN m_sortOf m_sizeOf m_numbers m_holdsWhat m_holdsWhich m_holdsMany m_bodies m_ran m_actKind m_actN m_actA m_isParted []) sz) (QV D C (oMM C e0 e1 e2 e3 e4 e5 e6 e7 e8 e9 e10 e11 e12 e13 e14 e15 m_s m_held m_aside m_before m_isHeld m_tape m_taped m_token m_from m_to m_value m_isWrong m_due m_firsts m_rows m_rowN m_sortOf m_sizeOf m_numbers m_holdsWhat m_holdsWhich m_holdsMany m_bodies m_ran m_actKind m_actN m_actA m_isParted []) (oMM C e0 e1 e2 e3 e4 e5 e6 e7 e8 e9 e10 e11 e12 e13 e14 e15 m_s m_held m_aside m_before m_isHeld m_tape m_taped m_token m_from m_to m_value m_isWrong m_due m_firsts m_rows m_rowN m_sortOf m_sizeOf m_numbers m_holdsWhat m_holdsWhich m_holdsMany (m_bodies') (m_ran') m_actKind m_actN m_actA m_isParted []) sz) 0 0 (va_A (oMM C e0 e1 e2 e3 e4 e5 e6 e7 e8 e9 e10 e11 e12 e13 e14 e15 m_s m_held m_aside m_before m_isHeld m_tape m_taped m_token m_from m_to m_value m_isWrong m_due m_firsts m_rows m_rowN m_sortOf m_sizeOf m_numbers m_holdsWhat m_holdsWhich m_holdsMany m_bodies m_ran m_actKind m_actN m_actA m_isParted []) sz) := by
  refine Met.ofW (cc := cX6_runs) (maxL := 2) (ret := none) (by decide) rfl ?_
  intro p e s m args below meth c s₁ B hml hv
  obtain ⟨rfl, hsz, hP, hK, hD0, hE⟩ := hv
  have hx := B.exec
  have hb := B.bytes
  have hr := B.returns
  have hts := atoms_spec (ws := wsX6_runs) B.pre
  have hown : s.vm.findClass RX6 = some m.cls := findClass_of_methodNamed B.named
  have hlocks := B.notSynchronized
  subst hsz
  have hi_RX6 : ∀ w ∈ wsX60, w ∈ wsX6_runs := fun _ h => List.mem_cons_of_mem _ (List.mem_append_right _ h)
  have hD := hD0.self (sz := s.heap.size)
  obtain ⟨A, hAe⟩ := nm_ex (va_A (oMM C e0 e1 e2 e3 e4 e5 e6 e7 e8 e9 e10 e11 e12 e13 e14 e15 m_s m_held m_aside m_before m_isHeld m_tape m_taped m_token m_from m_to m_value m_isWrong m_due m_firsts m_rows m_rowN m_sortOf m_sizeOf m_numbers m_holdsWhat m_holdsWhich m_holdsMany m_bodies m_ran m_actKind m_actN m_actA m_isParted []) s.heap.size)
  rw [← hAe] at hD hE ⊢
  have hA : ∀ q : Nat, s.heap.size ≤ q → A q := fun q h => by rw [hAe]; exact Or.inr h
  have hS : va_S A s.heap s.heap [] := va_S.rf
  have hl := lv_entry ([.ref e0, .int x0]) (n := 2) (Nat.le_of_ble_eq_true rfl)
  rw [lg_entry_eq]
  generalize (lg_sl ([.ref e0, .int x0]) ++ List.replicate (2 - (lg_sl ([.ref e0, .int x0])).length) Slot.unset).toArray = ls at hl ⊢
  have hl : lv_has ls 2 [(0, .ref e0), (1, .int x0)] := hl
  obtain ⟨Q, hQ⟩ := nm_ex (MQ below (QV D C (oMM C e0 e1 e2 e3 e4 e5 e6 e7 e8 e9 e10 e11 e12 e13 e14 e15 m_s m_held m_aside m_before m_isHeld m_tape m_taped m_token m_from m_to m_value m_isWrong m_due m_firsts m_rows m_rowN m_sortOf m_sizeOf m_numbers m_holdsWhat m_holdsWhich m_holdsMany m_bodies m_ran m_actKind m_actN m_actA m_isParted []) (oMM C e0 e1 e2 e3 e4 e5 e6 e7 e8 e9 e10 e11 e12 e13 e14 e15 m_s m_held m_aside m_before m_isHeld m_tape m_taped m_token m_from m_to m_value m_isWrong m_due m_firsts m_rows m_rowN m_sortOf m_sizeOf m_numbers m_holdsWhat m_holdsWhich m_holdsMany (m_bodies') (m_ran') m_actKind m_actN m_actA m_isParted []) s.heap.size) (List.toArray [Value.ref e0, Value.int x0]) s 0 0 A)
  show W p l e (headSpec wsX6_runs (rmX6_runs)).room s m (List.toArray [Value.ref e0, Value.int x0]) below meth c s.heap [] 0 0 (MQ below (QV D C (oMM C e0 e1 e2 e3 e4 e5 e6 e7 e8 e9 e10 e11 e12 e13 e14 e15 m_s m_held m_aside m_before m_isHeld m_tape m_taped m_token m_from m_to m_value m_isWrong m_due m_firsts m_rows m_rowN m_sortOf m_sizeOf m_numbers m_holdsWhat m_holdsWhich m_holdsMany m_bodies m_ran m_actKind m_actN m_actA m_isParted []) (oMM C e0 e1 e2 e3 e4 e5 e6 e7 e8 e9 e10 e11 e12 e13 e14 e15 m_s m_held m_aside m_before m_isHeld m_tape m_taped m_token m_from m_to m_value m_isWrong m_due m_firsts m_rows m_rowN m_sortOf m_sizeOf m_numbers m_holdsWhat m_holdsWhich m_holdsMany (m_bodies') (m_ran') m_actKind m_actN m_actA m_isParted []) s.heap.size) (List.toArray [Value.ref e0, Value.int x0]) s 0 0 A) _
  rw [← hQ]
  unfold f_X6_runs at hf
  have main : ∀ (H : Heap) (locs : List Loc), va_P D vwCl (oMM C e0 e1 e2 e3 e4 e5 e6 e7 e8 e9 e10 e11 e12 e13 e14 e15 m_s m_held m_aside m_before m_isHeld m_tape m_taped m_token m_from m_to m_value m_isWrong m_due m_firsts m_rows m_rowN m_sortOf m_sizeOf m_numbers m_holdsWhat m_holdsWhich m_holdsMany m_bodies m_ran m_actKind m_actN m_actA m_isParted []) H → va_D A (oMM C e0 e1 e2 e3 e4 e5 e6 e7 e8 e9 e10 e11 e12 e13 e14 e15 m_s m_held m_aside m_before m_isHeld m_tape m_taped m_token m_from m_to m_value m_isWrong m_due m_firsts m_rows m_rowN m_sortOf m_sizeOf m_numbers m_holdsWhat m_holdsWhich m_holdsMany m_bodies m_ran m_actKind m_actN m_actA m_isParted []) → va_S A s.heap H locs → W p l e (headSpec wsX6_runs (rmX6_runs)).room s m (List.toArray [Value.ref e0, Value.int x0]) below meth c H locs 0 0 Q (F0 m 0 ls []) := by
    intro H locs hP hD hS
    refine lv_aload_n hx hb dX6_runs_0 rfl (lv_at hl 0 rfl) ?_
    refine va_get (D := D) (ci := 6) (v := .int m_ran) (C := RX6) (T := TX6) (N := 28) hx hb hts hi_RX6 hown hK hP 0 rfl rfl 23 (by decide) (hts (.fieldLink RX6 299 "TravelMarksModel" "ran" "I") (List.mem_of_getElem? (i := 1) rfl)) (fun _ h9 => h9) rfl dX6_runs_1 ?_
    refine lv_bipush (v := 30) hx hb dX6_runs_4 rfl ?_
    refine lv_icmp_ge (tgt := 29) hx hb dX6_runs_6 (by decide) (fun c1 => ?_) (fun c1 => ?_)
    · replace hf := if_te c1 hf
      cases hf
      exact krv hQ hAe hx hb hr hlocks hP hD hK hS dX6_runs_29
    · replace hf := if_fe c1 hf
      refine lv_aload_n hx hb dX6_runs_9 rfl (lv_at hl 0 rfl) ?_
      refine va_get (D := D) (ci := 6) (v := .ref e15) (C := RX6) (T := TX6) (N := 28) hx hb hts hi_RX6 hown hK hP 0 rfl rfl 22 (by decide) (hts (.fieldLink RX6 52 "TravelMarksModel" "bodies" "[I") (List.mem_of_getElem? (i := 2) rfl)) (fun _ h9 => h9) rfl dX6_runs_10 ?_
      refine lv_aload_n hx hb dX6_runs_13 rfl (lv_at hl 0 rfl) ?_
      refine va_get (D := D) (ci := 6) (v := .int m_ran) (C := RX6) (T := TX6) (N := 28) hx hb hts hi_RX6 hown hK hP 0 rfl rfl 23 (by decide) (hts (.fieldLink RX6 299 "TravelMarksModel" "ran" "I") (List.mem_of_getElem? (i := 1) rfl)) (fun _ h9 => h9) rfl dX6_runs_14 ?_
      refine lv_iload_n hx hb dX6_runs_17 rfl (lv_at hl 1 rfl) ?_
      obtain ⟨hi2, hf⟩ := ckA_e hf
      refine va_iast hx hb hK hP hD hS 15 0 rfl rfl hi2 dX6_runs_18 (fun H locs hP hD hS => ?_)
      obtain ⟨v3, ev3, hf⟩ := lj_e hf
      have hP : va_P D vwCl (oMM C e0 e1 e2 e3 e4 e5 e6 e7 e8 e9 e10 e11 e12 e13 e14 e15 m_s m_held m_aside m_before m_isHeld m_tape m_taped m_token m_from m_to m_value m_isWrong m_due m_firsts m_rows m_rowN m_sortOf m_sizeOf m_numbers m_holdsWhat m_holdsWhich m_holdsMany v3 m_ran m_actKind m_actN m_actA m_isParted []) H := by rw [ev3]; exact hP
      have hD : va_D A (oMM C e0 e1 e2 e3 e4 e5 e6 e7 e8 e9 e10 e11 e12 e13 e14 e15 m_s m_held m_aside m_before m_isHeld m_tape m_taped m_token m_from m_to m_value m_isWrong m_due m_firsts m_rows m_rowN m_sortOf m_sizeOf m_numbers m_holdsWhat m_holdsWhich m_holdsMany v3 m_ran m_actKind m_actN m_actA m_isParted []) := by rw [ev3]; exact hD
      refine lv_aload_n hx hb dX6_runs_19 rfl (lv_at hl 0 rfl) ?_
      refine lv_dup hx hb dX6_runs_20 rfl ?_
      refine va_get (D := D) (ci := 6) (v := .int m_ran) (C := RX6) (T := TX6) (N := 28) hx hb hts hi_RX6 hown hK hP 0 rfl rfl 23 (by decide) (hts (.fieldLink RX6 299 "TravelMarksModel" "ran" "I") (List.mem_of_getElem? (i := 1) rfl)) (fun _ h9 => h9) rfl dX6_runs_21 ?_
      refine lv_iconst (v := 1) hx hb dX6_runs_24 rfl ?_
      refine lv_iadd hx hb dX6_runs_25 ?_
      obtain ⟨t4, et4, hf⟩ := lj_e hf
      refine lv_ren et4 ?_
      refine va_put (D := D) (ci := 6) (v := .int t4) (ty := .int) (C := RX6) (T := TX6) (N := 28) hx hb hts hi_RX6 tyX6 tyX6_ok nmX6 hown hK hP hD hS 0 rfl rfl 23 (by decide) (hts (.fieldLink RX6 299 "TravelMarksModel" "ran" "I") (List.mem_of_getElem? (i := 1) rfl)) (fun _ h9 => h9) rfl (tyX6_ok 23 (by decide)) rfl rfl (Nat.le_of_ble_eq_true rfl) dX6_runs_26 (fun H locs hP hD hS => ?_)
      have hP : va_P D vwCl (oMM C e0 e1 e2 e3 e4 e5 e6 e7 e8 e9 e10 e11 e12 e13 e14 e15 m_s m_held m_aside m_before m_isHeld m_tape m_taped m_token m_from m_to m_value m_isWrong m_due m_firsts m_rows m_rowN m_sortOf m_sizeOf m_numbers m_holdsWhat m_holdsWhich m_holdsMany v3 t4 m_actKind m_actN m_actA m_isParted []) H := hP
      have hD : va_D A (oMM C e0 e1 e2 e3 e4 e5 e6 e7 e8 e9 e10 e11 e12 e13 e14 e15 m_s m_held m_aside m_before m_isHeld m_tape m_taped m_token m_from m_to m_value m_isWrong m_due m_firsts m_rows m_rowN m_sortOf m_sizeOf m_numbers m_holdsWhat m_holdsWhich m_holdsMany v3 t4 m_actKind m_actN m_actA m_isParted []) := hD
      cases hf
      exact krv hQ hAe hx hb hr hlocks hP hD hK hS dX6_runs_29
  exact main _ _ hP hD hS

def rmX6_itchesPlain : Room := { frames := 1, cells := 0, slots := 0, locals := 21 }
theorem hdX6_itchesPlain : yX6_itchesPlain.cls = RX6 ∧ yX6_itchesPlain.cls ≠ "java/lang/invoke/MethodHandle" ∧ yX6_itchesPlain.cls ≠ "java/lang/invoke/VarHandle" ∧ (parseMethodDescriptor yX6_itchesPlain.desc).map (fun d => d.parameters.length) = some 1 := by decide +kernel
set_option maxHeartbeats 40000000 in
set_option maxRecDepth 100000 in
theorem c_X6_itchesPlain (l : Launch) (E : Nat → Nat) (D : va_G) (C : Nat → ClassId) (e0 e1 e2 e3 e4 e5 e6 e7 e8 e9 e10 e11 e12 e13 e14 e15 : Nat) (sz : Nat) (m_s : Nat → Int32) (m_held : Nat → Int32) (m_aside : Nat → Int32) (m_before : Nat → Int32) (m_isHeld : Int32) (m_tape : Nat → Int32) (m_taped : Int32) (m_token : Int32) (m_from : Int32) (m_to : Int32) (m_value : Int32) (m_isWrong : Int32) (m_due : Nat → Int32) (m_firsts : Nat → Int32) (m_rows : Nat → Int32) (m_rowN : Int32) (m_sortOf : Nat → Int32) (m_sizeOf : Nat → Int32) (m_numbers : Nat → Int32) (m_holdsWhat : Nat → Int32) (m_holdsWhich : Nat → Int32) (m_holdsMany : Nat → Int32) (m_bodies : Nat → Int32) (m_ran : Int32) (m_actKind : Int32) (m_actN : Int32) (m_actA : Int32) (m_isParted : Int32) (x0 : Int32) (r : Int32) (m_bodies' : Nat → Int32) (m_ran' : Int32) (hf : f_X6_itchesPlain m_bodies m_ran m_actN x0 = some (r, m_bodies', m_ran')) : Met l yX6_itchesPlain wsX6_itchesPlain rmX6_itchesPlain (PC E D C [.ref e0, .int x0] (oMM C e0 e1 e2 e3 e4 e5 e6 e7 e8 e9 e10 e11 e12 e13 e14 e15 m_s m_held m_aside m_before m_isHeld m_tape m_taped m_token m_from m_to m_value m_isWrong m_due m_firsts m_rows m_rowN m_sortOf m_sizeOf m_numbers m_holdsWhat m_holdsWhich m_holdsMany m_bodies m_ran m_actKind m_actN m_actA m_isParted []) sz) (QI D C (oMM C e0 e1 e2 e3 e4 e5 e6 e7 e8 e9 e10 e11 e12 e13 e14 e15 m_s m_held m_aside m_before m_isHeld m_tape m_taped m_token m_from m_to m_value m_isWrong m_due m_firsts m_rows m_rowN m_sortOf m_sizeOf m_numbers m_holdsWhat m_holdsWhich m_holdsMany m_bodies m_ran m_actKind m_actN m_actA m_isParted []) (oMM C e0 e1 e2 e3 e4 e5 e6 e7 e8 e9 e10 e11 e12 e13 e14 e15 m_s m_held m_aside m_before m_isHeld m_tape m_taped m_token m_from m_to m_value m_isWrong m_due m_firsts m_rows m_rowN m_sortOf m_sizeOf m_numbers m_holdsWhat m_holdsWhich m_holdsMany (m_bodies') (m_ran') m_actKind m_actN m_actA m_isParted []) sz r) 0 0 (va_A (oMM C e0 e1 e2 e3 e4 e5 e6 e7 e8 e9 e10 e11 e12 e13 e14 e15 m_s m_held m_aside m_before m_isHeld m_tape m_taped m_token m_from m_to m_value m_isWrong m_due m_firsts m_rows m_rowN m_sortOf m_sizeOf m_numbers m_holdsWhat m_holdsWhich m_holdsMany m_bodies m_ran m_actKind m_actN m_actA m_isParted []) sz) := by
  refine Met.ofW (cc := cX6_itchesPlain) (maxL := 2) (ret := (some .int)) (by decide) rfl ?_
  intro p e s m args below meth c s₁ B hml hv
  obtain ⟨rfl, hsz, hP, hK, hD0, hE⟩ := hv
  have hx := B.exec
  have hb := B.bytes
  have hr := B.returns
  have hts := atoms_spec (ws := wsX6_itchesPlain) B.pre
  have hown : s.vm.findClass RX6 = some m.cls := findClass_of_methodNamed B.named
  have hlocks := B.notSynchronized
  subst hsz
  have hi_RX6 : ∀ w ∈ wsX60, w ∈ wsX6_itchesPlain := fun _ h => List.mem_cons_of_mem _ (List.mem_append_right _ h)
  have hD := hD0.self (sz := s.heap.size)
  obtain ⟨A, hAe⟩ := nm_ex (va_A (oMM C e0 e1 e2 e3 e4 e5 e6 e7 e8 e9 e10 e11 e12 e13 e14 e15 m_s m_held m_aside m_before m_isHeld m_tape m_taped m_token m_from m_to m_value m_isWrong m_due m_firsts m_rows m_rowN m_sortOf m_sizeOf m_numbers m_holdsWhat m_holdsWhich m_holdsMany m_bodies m_ran m_actKind m_actN m_actA m_isParted []) s.heap.size)
  rw [← hAe] at hD hE ⊢
  have hA : ∀ q : Nat, s.heap.size ≤ q → A q := fun q h => by rw [hAe]; exact Or.inr h
  have hS : va_S A s.heap s.heap [] := va_S.rf
  have hl := lv_entry ([.ref e0, .int x0]) (n := 2) (Nat.le_of_ble_eq_true rfl)
  rw [lg_entry_eq]
  generalize (lg_sl ([.ref e0, .int x0]) ++ List.replicate (2 - (lg_sl ([.ref e0, .int x0])).length) Slot.unset).toArray = ls at hl ⊢
  have hl : lv_has ls 2 [(0, .ref e0), (1, .int x0)] := hl
  obtain ⟨Q, hQ⟩ := nm_ex (MQ below (QI D C (oMM C e0 e1 e2 e3 e4 e5 e6 e7 e8 e9 e10 e11 e12 e13 e14 e15 m_s m_held m_aside m_before m_isHeld m_tape m_taped m_token m_from m_to m_value m_isWrong m_due m_firsts m_rows m_rowN m_sortOf m_sizeOf m_numbers m_holdsWhat m_holdsWhich m_holdsMany m_bodies m_ran m_actKind m_actN m_actA m_isParted []) (oMM C e0 e1 e2 e3 e4 e5 e6 e7 e8 e9 e10 e11 e12 e13 e14 e15 m_s m_held m_aside m_before m_isHeld m_tape m_taped m_token m_from m_to m_value m_isWrong m_due m_firsts m_rows m_rowN m_sortOf m_sizeOf m_numbers m_holdsWhat m_holdsWhich m_holdsMany (m_bodies') (m_ran') m_actKind m_actN m_actA m_isParted []) s.heap.size r) (List.toArray [Value.ref e0, Value.int x0]) s 0 0 A)
  show W p l e (headSpec wsX6_itchesPlain (rmX6_itchesPlain)).room s m (List.toArray [Value.ref e0, Value.int x0]) below meth c s.heap [] 0 0 (MQ below (QI D C (oMM C e0 e1 e2 e3 e4 e5 e6 e7 e8 e9 e10 e11 e12 e13 e14 e15 m_s m_held m_aside m_before m_isHeld m_tape m_taped m_token m_from m_to m_value m_isWrong m_due m_firsts m_rows m_rowN m_sortOf m_sizeOf m_numbers m_holdsWhat m_holdsWhich m_holdsMany m_bodies m_ran m_actKind m_actN m_actA m_isParted []) (oMM C e0 e1 e2 e3 e4 e5 e6 e7 e8 e9 e10 e11 e12 e13 e14 e15 m_s m_held m_aside m_before m_isHeld m_tape m_taped m_token m_from m_to m_value m_isWrong m_due m_firsts m_rows m_rowN m_sortOf m_sizeOf m_numbers m_holdsWhat m_holdsWhich m_holdsMany (m_bodies') (m_ran') m_actKind m_actN m_actA m_isParted []) s.heap.size r) (List.toArray [Value.ref e0, Value.int x0]) s 0 0 A) _
  rw [← hQ]
  unfold f_X6_itchesPlain at hf
  have main : ∀ (H : Heap) (locs : List Loc), va_P D vwCl (oMM C e0 e1 e2 e3 e4 e5 e6 e7 e8 e9 e10 e11 e12 e13 e14 e15 m_s m_held m_aside m_before m_isHeld m_tape m_taped m_token m_from m_to m_value m_isWrong m_due m_firsts m_rows m_rowN m_sortOf m_sizeOf m_numbers m_holdsWhat m_holdsWhich m_holdsMany m_bodies m_ran m_actKind m_actN m_actA m_isParted []) H → va_D A (oMM C e0 e1 e2 e3 e4 e5 e6 e7 e8 e9 e10 e11 e12 e13 e14 e15 m_s m_held m_aside m_before m_isHeld m_tape m_taped m_token m_from m_to m_value m_isWrong m_due m_firsts m_rows m_rowN m_sortOf m_sizeOf m_numbers m_holdsWhat m_holdsWhich m_holdsMany m_bodies m_ran m_actKind m_actN m_actA m_isParted []) → va_S A s.heap H locs → W p l e (headSpec wsX6_itchesPlain (rmX6_itchesPlain)).room s m (List.toArray [Value.ref e0, Value.int x0]) below meth c H locs 0 0 Q (F0 m 0 ls []) := by
    intro H locs hP hD hS
    refine lv_aload_n hx hb dX6_itchesPlain_0 rfl (lv_at hl 0 rfl) ?_
    refine lv_bipush (v := 10) hx hb dX6_itchesPlain_1 rfl ?_
    obtain ⟨v1, v2, h3, hf⟩ := ob2_e hf
    refine kcv (Wx := (oMM C e0 e1 e2 e3 e4 e5 e6 e7 e8 e9 e10 e11 e12 e13 e14 e15 m_s m_held m_aside m_before m_isHeld m_tape m_taped m_token m_from m_to m_value m_isWrong m_due m_firsts m_rows m_rowN m_sortOf m_sizeOf m_numbers m_holdsWhat m_holdsWhich m_holdsMany v1 v2 m_actKind m_actN m_actA m_isParted [])) (va_runV (As := [.int 10]) (rest := []) ⟨hx, hb, hml, hown, hts⟩ (c_X6_runs l E D C e0 e1 e2 e3 e4 e5 e6 e7 e8 e9 e10 e11 e12 e13 e14 e15 H.size m_s m_held m_aside m_before m_isHeld m_tape m_taped m_token m_from m_to m_value m_isWrong m_due m_firsts m_rows m_rowN m_sortOf m_sizeOf m_numbers m_holdsWhat m_holdsWhich m_holdsMany m_bodies m_ran m_actKind m_actN m_actA m_isParted 10 v1 v2 h3) (cwV 1 hts gX6_itchesPlain_X6_runs rfl rfl rfl hdX6_runs ⟨Nat.le_of_ble_eq_true rfl, Nat.le_of_ble_eq_true rfl⟩) (kpreV hP hD hK hS hE hA [0, 1, 2, 3, 4, 5, 6, 7, 8, 9, 10, 11, 12, 13, 14, 15] rfl rfl 0 rfl rfl rfl) rfl rfl hl.1 rfl (lv_room (Nat.le_of_ble_eq_true rfl)) dX6_itchesPlain_3 ⟨Nat.zero_le _, Nat.zero_le _⟩) hP hD hS hA [0, 1, 2, 3, 4, 5, 6, 7, 8, 9, 10, 11, 12, 13, 14, 15] rfl rfl rfl (fun H locs hP hD hS => ?_)
    refine lv_iload_n hx hb dX6_itchesPlain_6 rfl (lv_at hl 1 rfl) ?_
    refine lv_iconst (v := 3) hx hb dX6_itchesPlain_7 rfl ?_
    refine lv_imul hx hb dX6_itchesPlain_8 ?_
    refine lv_aload_n hx hb dX6_itchesPlain_9 rfl (lv_at hl 0 rfl) ?_
    refine va_get (D := D) (ci := 6) (v := .int m_actN) (C := RX6) (T := TX6) (N := 28) hx hb hts hi_RX6 hown hK hP 0 rfl rfl 25 (by decide) (hts (.fieldLink RX6 305 "TravelMarksModel" "actN" "I") (List.mem_of_getElem? (i := 1) rfl)) (fun _ h9 => h9) rfl dX6_itchesPlain_10 ?_
    refine lv_iconst (v := 2) hx hb dX6_itchesPlain_13 rfl ?_
    refine lv_imul hx hb dX6_itchesPlain_14 ?_
    refine lv_iadd hx hb dX6_itchesPlain_15 ?_
    obtain ⟨t4, et4, hf⟩ := lj_e hf
    refine lv_ren et4 ?_
    cases hf
    exact kri hQ hAe hx hb hr hlocks hP hD hK hS dX6_itchesPlain_16
  exact main _ _ hP hD hS

def rmX6_itchesOfSnake : Room := { frames := 2, cells := 0, slots := 0, locals := 42 }
theorem hdX6_itchesOfSnake : yX6_itchesOfSnake.cls = RX6 ∧ yX6_itchesOfSnake.cls ≠ "java/lang/invoke/MethodHandle" ∧ yX6_itchesOfSnake.cls ≠ "java/lang/invoke/VarHandle" ∧ (parseMethodDescriptor yX6_itchesOfSnake.desc).map (fun d => d.parameters.length) = some 1 := by decide +kernel
set_option maxHeartbeats 40000000 in
set_option maxRecDepth 100000 in
theorem c_X6_itchesOfSnake (l : Launch) (E : Nat → Nat) (D : va_G) (C : Nat → ClassId) (e0 e1 e2 e3 e4 e5 e6 e7 e8 e9 e10 e11 e12 e13 e14 e15 : Nat) (sz : Nat) (m_s : Nat → Int32) (m_held : Nat → Int32) (m_aside : Nat → Int32) (m_before : Nat → Int32) (m_isHeld : Int32) (m_tape : Nat → Int32) (m_taped : Int32) (m_token : Int32) (m_from : Int32) (m_to : Int32) (m_value : Int32) (m_isWrong : Int32) (m_due : Nat → Int32) (m_firsts : Nat → Int32) (m_rows : Nat → Int32) (m_rowN : Int32) (m_sortOf : Nat → Int32) (m_sizeOf : Nat → Int32) (m_numbers : Nat → Int32) (m_holdsWhat : Nat → Int32) (m_holdsWhich : Nat → Int32) (m_holdsMany : Nat → Int32) (m_bodies : Nat → Int32) (m_ran : Int32) (m_actKind : Int32) (m_actN : Int32) (m_actA : Int32) (m_isParted : Int32) (x0 : Int32) (r : Int32) (m_bodies' : Nat → Int32) (m_ran' : Int32) (hf : f_X6_itchesOfSnake m_bodies m_ran m_actN x0 = some (r, m_bodies', m_ran')) : Met l yX6_itchesOfSnake wsX6_itchesOfSnake rmX6_itchesOfSnake (PC E D C [.ref e0, .int x0] (oMM C e0 e1 e2 e3 e4 e5 e6 e7 e8 e9 e10 e11 e12 e13 e14 e15 m_s m_held m_aside m_before m_isHeld m_tape m_taped m_token m_from m_to m_value m_isWrong m_due m_firsts m_rows m_rowN m_sortOf m_sizeOf m_numbers m_holdsWhat m_holdsWhich m_holdsMany m_bodies m_ran m_actKind m_actN m_actA m_isParted []) sz) (QI D C (oMM C e0 e1 e2 e3 e4 e5 e6 e7 e8 e9 e10 e11 e12 e13 e14 e15 m_s m_held m_aside m_before m_isHeld m_tape m_taped m_token m_from m_to m_value m_isWrong m_due m_firsts m_rows m_rowN m_sortOf m_sizeOf m_numbers m_holdsWhat m_holdsWhich m_holdsMany m_bodies m_ran m_actKind m_actN m_actA m_isParted []) (oMM C e0 e1 e2 e3 e4 e5 e6 e7 e8 e9 e10 e11 e12 e13 e14 e15 m_s m_held m_aside m_before m_isHeld m_tape m_taped m_token m_from m_to m_value m_isWrong m_due m_firsts m_rows m_rowN m_sortOf m_sizeOf m_numbers m_holdsWhat m_holdsWhich m_holdsMany (m_bodies') (m_ran') m_actKind m_actN m_actA m_isParted []) sz r) 0 0 (va_A (oMM C e0 e1 e2 e3 e4 e5 e6 e7 e8 e9 e10 e11 e12 e13 e14 e15 m_s m_held m_aside m_before m_isHeld m_tape m_taped m_token m_from m_to m_value m_isWrong m_due m_firsts m_rows m_rowN m_sortOf m_sizeOf m_numbers m_holdsWhat m_holdsWhich m_holdsMany m_bodies m_ran m_actKind m_actN m_actA m_isParted []) sz) := by
  refine Met.ofW (cc := cX6_itchesOfSnake) (maxL := 2) (ret := (some .int)) (by decide) rfl ?_
  intro p e s m args below meth c s₁ B hml hv
  obtain ⟨rfl, hsz, hP, hK, hD0, hE⟩ := hv
  have hx := B.exec
  have hb := B.bytes
  have hr := B.returns
  have hts := atoms_spec (ws := wsX6_itchesOfSnake) B.pre
  have hown : s.vm.findClass RX6 = some m.cls := findClass_of_methodNamed B.named
  have hlocks := B.notSynchronized
  subst hsz
  have hD := hD0.self (sz := s.heap.size)
  obtain ⟨A, hAe⟩ := nm_ex (va_A (oMM C e0 e1 e2 e3 e4 e5 e6 e7 e8 e9 e10 e11 e12 e13 e14 e15 m_s m_held m_aside m_before m_isHeld m_tape m_taped m_token m_from m_to m_value m_isWrong m_due m_firsts m_rows m_rowN m_sortOf m_sizeOf m_numbers m_holdsWhat m_holdsWhich m_holdsMany m_bodies m_ran m_actKind m_actN m_actA m_isParted []) s.heap.size)
  rw [← hAe] at hD hE ⊢
  have hA : ∀ q : Nat, s.heap.size ≤ q → A q := fun q h => by rw [hAe]; exact Or.inr h
  have hS : va_S A s.heap s.heap [] := va_S.rf
  have hl := lv_entry ([.ref e0, .int x0]) (n := 2) (Nat.le_of_ble_eq_true rfl)
  rw [lg_entry_eq]
  generalize (lg_sl ([.ref e0, .int x0]) ++ List.replicate (2 - (lg_sl ([.ref e0, .int x0])).length) Slot.unset).toArray = ls at hl ⊢
  have hl : lv_has ls 2 [(0, .ref e0), (1, .int x0)] := hl
  obtain ⟨Q, hQ⟩ := nm_ex (MQ below (QI D C (oMM C e0 e1 e2 e3 e4 e5 e6 e7 e8 e9 e10 e11 e12 e13 e14 e15 m_s m_held m_aside m_before m_isHeld m_tape m_taped m_token m_from m_to m_value m_isWrong m_due m_firsts m_rows m_rowN m_sortOf m_sizeOf m_numbers m_holdsWhat m_holdsWhich m_holdsMany m_bodies m_ran m_actKind m_actN m_actA m_isParted []) (oMM C e0 e1 e2 e3 e4 e5 e6 e7 e8 e9 e10 e11 e12 e13 e14 e15 m_s m_held m_aside m_before m_isHeld m_tape m_taped m_token m_from m_to m_value m_isWrong m_due m_firsts m_rows m_rowN m_sortOf m_sizeOf m_numbers m_holdsWhat m_holdsWhich m_holdsMany (m_bodies') (m_ran') m_actKind m_actN m_actA m_isParted []) s.heap.size r) (List.toArray [Value.ref e0, Value.int x0]) s 0 0 A)
  show W p l e (headSpec wsX6_itchesOfSnake (rmX6_itchesOfSnake)).room s m (List.toArray [Value.ref e0, Value.int x0]) below meth c s.heap [] 0 0 (MQ below (QI D C (oMM C e0 e1 e2 e3 e4 e5 e6 e7 e8 e9 e10 e11 e12 e13 e14 e15 m_s m_held m_aside m_before m_isHeld m_tape m_taped m_token m_from m_to m_value m_isWrong m_due m_firsts m_rows m_rowN m_sortOf m_sizeOf m_numbers m_holdsWhat m_holdsWhich m_holdsMany m_bodies m_ran m_actKind m_actN m_actA m_isParted []) (oMM C e0 e1 e2 e3 e4 e5 e6 e7 e8 e9 e10 e11 e12 e13 e14 e15 m_s m_held m_aside m_before m_isHeld m_tape m_taped m_token m_from m_to m_value m_isWrong m_due m_firsts m_rows m_rowN m_sortOf m_sizeOf m_numbers m_holdsWhat m_holdsWhich m_holdsMany (m_bodies') (m_ran') m_actKind m_actN m_actA m_isParted []) s.heap.size r) (List.toArray [Value.ref e0, Value.int x0]) s 0 0 A) _
  rw [← hQ]
  unfold f_X6_itchesOfSnake at hf
  have main : ∀ (H : Heap) (locs : List Loc), va_P D vwCl (oMM C e0 e1 e2 e3 e4 e5 e6 e7 e8 e9 e10 e11 e12 e13 e14 e15 m_s m_held m_aside m_before m_isHeld m_tape m_taped m_token m_from m_to m_value m_isWrong m_due m_firsts m_rows m_rowN m_sortOf m_sizeOf m_numbers m_holdsWhat m_holdsWhich m_holdsMany m_bodies m_ran m_actKind m_actN m_actA m_isParted []) H → va_D A (oMM C e0 e1 e2 e3 e4 e5 e6 e7 e8 e9 e10 e11 e12 e13 e14 e15 m_s m_held m_aside m_before m_isHeld m_tape m_taped m_token m_from m_to m_value m_isWrong m_due m_firsts m_rows m_rowN m_sortOf m_sizeOf m_numbers m_holdsWhat m_holdsWhich m_holdsMany m_bodies m_ran m_actKind m_actN m_actA m_isParted []) → va_S A s.heap H locs → W p l e (headSpec wsX6_itchesOfSnake (rmX6_itchesOfSnake)).room s m (List.toArray [Value.ref e0, Value.int x0]) below meth c H locs 0 0 Q (F0 m 0 ls []) := by
    intro H locs hP hD hS
    refine lv_aload_n hx hb dX6_itchesOfSnake_0 rfl (lv_at hl 0 rfl) ?_
    refine lv_bipush (v := 30) hx hb dX6_itchesOfSnake_1 rfl ?_
    obtain ⟨v1, v2, h3, hf⟩ := ob2_e hf
    refine kcv (Wx := (oMM C e0 e1 e2 e3 e4 e5 e6 e7 e8 e9 e10 e11 e12 e13 e14 e15 m_s m_held m_aside m_before m_isHeld m_tape m_taped m_token m_from m_to m_value m_isWrong m_due m_firsts m_rows m_rowN m_sortOf m_sizeOf m_numbers m_holdsWhat m_holdsWhich m_holdsMany v1 v2 m_actKind m_actN m_actA m_isParted [])) (va_runV (As := [.int 30]) (rest := []) ⟨hx, hb, hml, hown, hts⟩ (c_X6_runs l E D C e0 e1 e2 e3 e4 e5 e6 e7 e8 e9 e10 e11 e12 e13 e14 e15 H.size m_s m_held m_aside m_before m_isHeld m_tape m_taped m_token m_from m_to m_value m_isWrong m_due m_firsts m_rows m_rowN m_sortOf m_sizeOf m_numbers m_holdsWhat m_holdsWhich m_holdsMany m_bodies m_ran m_actKind m_actN m_actA m_isParted 30 v1 v2 h3) (cwV 1 hts gX6_itchesOfSnake_X6_runs rfl rfl rfl hdX6_runs ⟨Nat.le_of_ble_eq_true rfl, Nat.le_of_ble_eq_true rfl⟩) (kpreV hP hD hK hS hE hA [0, 1, 2, 3, 4, 5, 6, 7, 8, 9, 10, 11, 12, 13, 14, 15] rfl rfl 0 rfl rfl rfl) rfl rfl hl.1 rfl (lv_room (Nat.le_of_ble_eq_true rfl)) dX6_itchesOfSnake_3 ⟨Nat.zero_le _, Nat.zero_le _⟩) hP hD hS hA [0, 1, 2, 3, 4, 5, 6, 7, 8, 9, 10, 11, 12, 13, 14, 15] rfl rfl rfl (fun H locs hP hD hS => ?_)
    refine lv_iconst (v := 0) hx hb dX6_itchesOfSnake_6 rfl ?_
    refine lv_aload_n hx hb dX6_itchesOfSnake_7 rfl (lv_at hl 0 rfl) ?_
    refine lv_iload_n hx hb dX6_itchesOfSnake_8 rfl (lv_at hl 1 rfl) ?_
    obtain ⟨r4, v5, v6, h7, hf⟩ := ob3_e hf
    refine kci (Wx := (oMM C e0 e1 e2 e3 e4 e5 e6 e7 e8 e9 e10 e11 e12 e13 e14 e15 m_s m_held m_aside m_before m_isHeld m_tape m_taped m_token m_from m_to m_value m_isWrong m_due m_firsts m_rows m_rowN m_sortOf m_sizeOf m_numbers m_holdsWhat m_holdsWhich m_holdsMany v5 v6 m_actKind m_actN m_actA m_isParted [])) (va_runV (As := [.int x0]) (rest := [.int 0]) ⟨hx, hb, hml, hown, hts⟩ (c_X6_itchesPlain l E D C e0 e1 e2 e3 e4 e5 e6 e7 e8 e9 e10 e11 e12 e13 e14 e15 H.size m_s m_held m_aside m_before m_isHeld m_tape m_taped m_token m_from m_to m_value m_isWrong m_due m_firsts m_rows m_rowN m_sortOf m_sizeOf m_numbers m_holdsWhat m_holdsWhich m_holdsMany v1 v2 m_actKind m_actN m_actA m_isParted x0 r4 v5 v6 h7) (cwV 1 hts gX6_itchesOfSnake_X6_itchesPlain rfl rfl rfl hdX6_itchesPlain ⟨Nat.le_of_ble_eq_true rfl, Nat.le_of_ble_eq_true rfl⟩) (kpreV hP hD hK hS hE hA [0, 1, 2, 3, 4, 5, 6, 7, 8, 9, 10, 11, 12, 13, 14, 15] rfl rfl 0 rfl rfl rfl) rfl rfl hl.1 rfl (lv_room (Nat.le_of_ble_eq_true rfl)) dX6_itchesOfSnake_9 ⟨Nat.zero_le _, Nat.zero_le _⟩) hP hD hS hA [0, 1, 2, 3, 4, 5, 6, 7, 8, 9, 10, 11, 12, 13, 14, 15] rfl rfl rfl (fun H locs hP hD hS => ?_)
    refine lv_isub hx hb dX6_itchesOfSnake_12 ?_
    obtain ⟨t8, et8, hf⟩ := lj_e hf
    refine lv_ren et8 ?_
    cases hf
    exact kri hQ hAe hx hb hr hlocks hP hD hK hS dX6_itchesOfSnake_13
  exact main _ _ hP hD hS

def rmX6_itches : Room := { frames := 3, cells := 0, slots := 0, locals := 63 }
theorem hdX6_itches : yX6_itches.cls = RX6 ∧ yX6_itches.cls ≠ "java/lang/invoke/MethodHandle" ∧ yX6_itches.cls ≠ "java/lang/invoke/VarHandle" ∧ (parseMethodDescriptor yX6_itches.desc).map (fun d => d.parameters.length) = some 1 := by decide +kernel
set_option maxHeartbeats 40000000 in
set_option maxRecDepth 100000 in
theorem c_X6_itches (l : Launch) (E : Nat → Nat) (D : va_G) (C : Nat → ClassId) (e0 e1 e2 e3 e4 e5 e6 e7 e8 e9 e10 e11 e12 e13 e14 e15 : Nat) (sz : Nat) (m_s : Nat → Int32) (m_held : Nat → Int32) (m_aside : Nat → Int32) (m_before : Nat → Int32) (m_isHeld : Int32) (m_tape : Nat → Int32) (m_taped : Int32) (m_token : Int32) (m_from : Int32) (m_to : Int32) (m_value : Int32) (m_isWrong : Int32) (m_due : Nat → Int32) (m_firsts : Nat → Int32) (m_rows : Nat → Int32) (m_rowN : Int32) (m_sortOf : Nat → Int32) (m_sizeOf : Nat → Int32) (m_numbers : Nat → Int32) (m_holdsWhat : Nat → Int32) (m_holdsWhich : Nat → Int32) (m_holdsMany : Nat → Int32) (m_bodies : Nat → Int32) (m_ran : Int32) (m_actKind : Int32) (m_actN : Int32) (m_actA : Int32) (m_isParted : Int32) (x0 : Int32) (r : Int32) (m_bodies' : Nat → Int32) (m_ran' : Int32) (hf : f_X6_itches m_bodies m_ran m_actKind m_actN m_actA x0 = some (r, m_bodies', m_ran')) : Met l yX6_itches wsX6_itches rmX6_itches (PC E D C [.ref e0, .int x0] (oMM C e0 e1 e2 e3 e4 e5 e6 e7 e8 e9 e10 e11 e12 e13 e14 e15 m_s m_held m_aside m_before m_isHeld m_tape m_taped m_token m_from m_to m_value m_isWrong m_due m_firsts m_rows m_rowN m_sortOf m_sizeOf m_numbers m_holdsWhat m_holdsWhich m_holdsMany m_bodies m_ran m_actKind m_actN m_actA m_isParted []) sz) (QI D C (oMM C e0 e1 e2 e3 e4 e5 e6 e7 e8 e9 e10 e11 e12 e13 e14 e15 m_s m_held m_aside m_before m_isHeld m_tape m_taped m_token m_from m_to m_value m_isWrong m_due m_firsts m_rows m_rowN m_sortOf m_sizeOf m_numbers m_holdsWhat m_holdsWhich m_holdsMany m_bodies m_ran m_actKind m_actN m_actA m_isParted []) (oMM C e0 e1 e2 e3 e4 e5 e6 e7 e8 e9 e10 e11 e12 e13 e14 e15 m_s m_held m_aside m_before m_isHeld m_tape m_taped m_token m_from m_to m_value m_isWrong m_due m_firsts m_rows m_rowN m_sortOf m_sizeOf m_numbers m_holdsWhat m_holdsWhich m_holdsMany (m_bodies') (m_ran') m_actKind m_actN m_actA m_isParted []) sz r) 0 0 (va_A (oMM C e0 e1 e2 e3 e4 e5 e6 e7 e8 e9 e10 e11 e12 e13 e14 e15 m_s m_held m_aside m_before m_isHeld m_tape m_taped m_token m_from m_to m_value m_isWrong m_due m_firsts m_rows m_rowN m_sortOf m_sizeOf m_numbers m_holdsWhat m_holdsWhich m_holdsMany m_bodies m_ran m_actKind m_actN m_actA m_isParted []) sz) := by
  refine Met.ofW (cc := cX6_itches) (maxL := 2) (ret := (some .int)) (by decide) rfl ?_
  intro p e s m args below meth c s₁ B hml hv
  obtain ⟨rfl, hsz, hP, hK, hD0, hE⟩ := hv
  have hx := B.exec
  have hb := B.bytes
  have hr := B.returns
  have hts := atoms_spec (ws := wsX6_itches) B.pre
  have hown : s.vm.findClass RX6 = some m.cls := findClass_of_methodNamed B.named
  have hlocks := B.notSynchronized
  subst hsz
  have hi_RX6 : ∀ w ∈ wsX60, w ∈ wsX6_itches := fun _ h => List.mem_cons_of_mem _ (List.mem_append_right _ h)
  have hD := hD0.self (sz := s.heap.size)
  obtain ⟨A, hAe⟩ := nm_ex (va_A (oMM C e0 e1 e2 e3 e4 e5 e6 e7 e8 e9 e10 e11 e12 e13 e14 e15 m_s m_held m_aside m_before m_isHeld m_tape m_taped m_token m_from m_to m_value m_isWrong m_due m_firsts m_rows m_rowN m_sortOf m_sizeOf m_numbers m_holdsWhat m_holdsWhich m_holdsMany m_bodies m_ran m_actKind m_actN m_actA m_isParted []) s.heap.size)
  rw [← hAe] at hD hE ⊢
  have hA : ∀ q : Nat, s.heap.size ≤ q → A q := fun q h => by rw [hAe]; exact Or.inr h
  have hS : va_S A s.heap s.heap [] := va_S.rf
  have hl := lv_entry ([.ref e0, .int x0]) (n := 2) (Nat.le_of_ble_eq_true rfl)
  rw [lg_entry_eq]
  generalize (lg_sl ([.ref e0, .int x0]) ++ List.replicate (2 - (lg_sl ([.ref e0, .int x0])).length) Slot.unset).toArray = ls at hl ⊢
  have hl : lv_has ls 2 [(0, .ref e0), (1, .int x0)] := hl
  obtain ⟨Q, hQ⟩ := nm_ex (MQ below (QI D C (oMM C e0 e1 e2 e3 e4 e5 e6 e7 e8 e9 e10 e11 e12 e13 e14 e15 m_s m_held m_aside m_before m_isHeld m_tape m_taped m_token m_from m_to m_value m_isWrong m_due m_firsts m_rows m_rowN m_sortOf m_sizeOf m_numbers m_holdsWhat m_holdsWhich m_holdsMany m_bodies m_ran m_actKind m_actN m_actA m_isParted []) (oMM C e0 e1 e2 e3 e4 e5 e6 e7 e8 e9 e10 e11 e12 e13 e14 e15 m_s m_held m_aside m_before m_isHeld m_tape m_taped m_token m_from m_to m_value m_isWrong m_due m_firsts m_rows m_rowN m_sortOf m_sizeOf m_numbers m_holdsWhat m_holdsWhich m_holdsMany (m_bodies') (m_ran') m_actKind m_actN m_actA m_isParted []) s.heap.size r) (List.toArray [Value.ref e0, Value.int x0]) s 0 0 A)
  show W p l e (headSpec wsX6_itches (rmX6_itches)).room s m (List.toArray [Value.ref e0, Value.int x0]) below meth c s.heap [] 0 0 (MQ below (QI D C (oMM C e0 e1 e2 e3 e4 e5 e6 e7 e8 e9 e10 e11 e12 e13 e14 e15 m_s m_held m_aside m_before m_isHeld m_tape m_taped m_token m_from m_to m_value m_isWrong m_due m_firsts m_rows m_rowN m_sortOf m_sizeOf m_numbers m_holdsWhat m_holdsWhich m_holdsMany m_bodies m_ran m_actKind m_actN m_actA m_isParted []) (oMM C e0 e1 e2 e3 e4 e5 e6 e7 e8 e9 e10 e11 e12 e13 e14 e15 m_s m_held m_aside m_before m_isHeld m_tape m_taped m_token m_from m_to m_value m_isWrong m_due m_firsts m_rows m_rowN m_sortOf m_sizeOf m_numbers m_holdsWhat m_holdsWhich m_holdsMany (m_bodies') (m_ran') m_actKind m_actN m_actA m_isParted []) s.heap.size r) (List.toArray [Value.ref e0, Value.int x0]) s 0 0 A) _
  rw [← hQ]
  unfold f_X6_itches at hf
  have main : ∀ (H : Heap) (locs : List Loc), va_P D vwCl (oMM C e0 e1 e2 e3 e4 e5 e6 e7 e8 e9 e10 e11 e12 e13 e14 e15 m_s m_held m_aside m_before m_isHeld m_tape m_taped m_token m_from m_to m_value m_isWrong m_due m_firsts m_rows m_rowN m_sortOf m_sizeOf m_numbers m_holdsWhat m_holdsWhich m_holdsMany m_bodies m_ran m_actKind m_actN m_actA m_isParted []) H → va_D A (oMM C e0 e1 e2 e3 e4 e5 e6 e7 e8 e9 e10 e11 e12 e13 e14 e15 m_s m_held m_aside m_before m_isHeld m_tape m_taped m_token m_from m_to m_value m_isWrong m_due m_firsts m_rows m_rowN m_sortOf m_sizeOf m_numbers m_holdsWhat m_holdsWhich m_holdsMany m_bodies m_ran m_actKind m_actN m_actA m_isParted []) → va_S A s.heap H locs → W p l e (headSpec wsX6_itches (rmX6_itches)).room s m (List.toArray [Value.ref e0, Value.int x0]) below meth c H locs 0 0 Q (F0 m 0 ls []) := by
    intro H locs hP hD hS
    refine lv_aload_n hx hb dX6_itches_0 rfl (lv_at hl 0 rfl) ?_
    refine va_get (D := D) (ci := 6) (v := .int m_actKind) (C := RX6) (T := TX6) (N := 28) hx hb hts hi_RX6 hown hK hP 0 rfl rfl 24 (by decide) (hts (.fieldLink RX6 311 "TravelMarksModel" "actKind" "I") (List.mem_of_getElem? (i := 1) rfl)) (fun _ h9 => h9) rfl dX6_itches_1 ?_
    by_cases c1 : m_actKind = 2
    · replace hf := if_te c1 hf
      refine lv_tableIn (x := m_actKind) (tgt := 32) (off := 28) hx hb dX6_itches_4 (by rw [c1]; decide) (by rw [c1]; decide) (by rw [c1]; try rfl) (by decide) ?_
      refine lv_aload_n hx hb dX6_itches_32 rfl (lv_at hl 0 rfl) ?_
      refine lv_iload_n hx hb dX6_itches_33 rfl (lv_at hl 1 rfl) ?_
      obtain ⟨r2, v3, v4, h5, hf⟩ := ob3_e hf
      refine kci (Wx := (oMM C e0 e1 e2 e3 e4 e5 e6 e7 e8 e9 e10 e11 e12 e13 e14 e15 m_s m_held m_aside m_before m_isHeld m_tape m_taped m_token m_from m_to m_value m_isWrong m_due m_firsts m_rows m_rowN m_sortOf m_sizeOf m_numbers m_holdsWhat m_holdsWhich m_holdsMany v3 v4 m_actKind m_actN m_actA m_isParted [])) (va_runV (As := [.int x0]) (rest := []) ⟨hx, hb, hml, hown, hts⟩ (c_X6_itchesOfSnake l E D C e0 e1 e2 e3 e4 e5 e6 e7 e8 e9 e10 e11 e12 e13 e14 e15 H.size m_s m_held m_aside m_before m_isHeld m_tape m_taped m_token m_from m_to m_value m_isWrong m_due m_firsts m_rows m_rowN m_sortOf m_sizeOf m_numbers m_holdsWhat m_holdsWhich m_holdsMany m_bodies m_ran m_actKind m_actN m_actA m_isParted x0 r2 v3 v4 h5) (cwV 1 hts gX6_itches_X6_itchesOfSnake rfl rfl rfl hdX6_itchesOfSnake ⟨Nat.le_of_ble_eq_true rfl, Nat.le_of_ble_eq_true rfl⟩) (kpreV hP hD hK hS hE hA [0, 1, 2, 3, 4, 5, 6, 7, 8, 9, 10, 11, 12, 13, 14, 15] rfl rfl 0 rfl rfl rfl) rfl rfl hl.1 rfl (lv_room (Nat.le_of_ble_eq_true rfl)) dX6_itches_34 ⟨Nat.zero_le _, Nat.zero_le _⟩) hP hD hS hA [0, 1, 2, 3, 4, 5, 6, 7, 8, 9, 10, 11, 12, 13, 14, 15] rfl rfl rfl (fun H locs hP hD hS => ?_)
      cases hf
      exact kri hQ hAe hx hb hr hlocks hP hD hK hS dX6_itches_37
    replace hf := if_fe c1 hf
    by_cases c6 : m_actKind = 3
    · replace hf := if_te c6 hf
      refine lv_tableIn (x := m_actKind) (tgt := 53) (off := 49) hx hb dX6_itches_4 (by rw [c6]; decide) (by rw [c6]; decide) (by rw [c6]; try rfl) (by decide) ?_
      refine lv_aload_n hx hb dX6_itches_53 rfl (lv_at hl 0 rfl) ?_
      refine lv_bipush (v := 51) hx hb dX6_itches_54 rfl ?_
      obtain ⟨v7, v8, h9, hf⟩ := ob2_e hf
      refine kcv (Wx := (oMM C e0 e1 e2 e3 e4 e5 e6 e7 e8 e9 e10 e11 e12 e13 e14 e15 m_s m_held m_aside m_before m_isHeld m_tape m_taped m_token m_from m_to m_value m_isWrong m_due m_firsts m_rows m_rowN m_sortOf m_sizeOf m_numbers m_holdsWhat m_holdsWhich m_holdsMany v7 v8 m_actKind m_actN m_actA m_isParted [])) (va_runV (As := [.int 51]) (rest := []) ⟨hx, hb, hml, hown, hts⟩ (c_X6_runs l E D C e0 e1 e2 e3 e4 e5 e6 e7 e8 e9 e10 e11 e12 e13 e14 e15 H.size m_s m_held m_aside m_before m_isHeld m_tape m_taped m_token m_from m_to m_value m_isWrong m_due m_firsts m_rows m_rowN m_sortOf m_sizeOf m_numbers m_holdsWhat m_holdsWhich m_holdsMany m_bodies m_ran m_actKind m_actN m_actA m_isParted 51 v7 v8 h9) (cwV 1 hts gX6_itches_X6_runs rfl rfl rfl hdX6_runs ⟨Nat.le_of_ble_eq_true rfl, Nat.le_of_ble_eq_true rfl⟩) (kpreV hP hD hK hS hE hA [0, 1, 2, 3, 4, 5, 6, 7, 8, 9, 10, 11, 12, 13, 14, 15] rfl rfl 0 rfl rfl rfl) rfl rfl hl.1 rfl (lv_room (Nat.le_of_ble_eq_true rfl)) dX6_itches_56 ⟨Nat.zero_le _, Nat.zero_le _⟩) hP hD hS hA [0, 1, 2, 3, 4, 5, 6, 7, 8, 9, 10, 11, 12, 13, 14, 15] rfl rfl rfl (fun H locs hP hD hS => ?_)
      refine lv_aload_n hx hb dX6_itches_59 rfl (lv_at hl 0 rfl) ?_
      refine lv_iload_n hx hb dX6_itches_60 rfl (lv_at hl 1 rfl) ?_
      obtain ⟨r10, v11, v12, h13, hf⟩ := ob3_e hf
      refine kci (Wx := (oMM C e0 e1 e2 e3 e4 e5 e6 e7 e8 e9 e10 e11 e12 e13 e14 e15 m_s m_held m_aside m_before m_isHeld m_tape m_taped m_token m_from m_to m_value m_isWrong m_due m_firsts m_rows m_rowN m_sortOf m_sizeOf m_numbers m_holdsWhat m_holdsWhich m_holdsMany v11 v12 m_actKind m_actN m_actA m_isParted [])) (va_runV (As := [.int x0]) (rest := []) ⟨hx, hb, hml, hown, hts⟩ (c_X6_itchesPlain l E D C e0 e1 e2 e3 e4 e5 e6 e7 e8 e9 e10 e11 e12 e13 e14 e15 H.size m_s m_held m_aside m_before m_isHeld m_tape m_taped m_token m_from m_to m_value m_isWrong m_due m_firsts m_rows m_rowN m_sortOf m_sizeOf m_numbers m_holdsWhat m_holdsWhich m_holdsMany v7 v8 m_actKind m_actN m_actA m_isParted x0 r10 v11 v12 h13) (cwV 1 hts gX6_itches_X6_itchesPlain rfl rfl rfl hdX6_itchesPlain ⟨Nat.le_of_ble_eq_true rfl, Nat.le_of_ble_eq_true rfl⟩) (kpreV hP hD hK hS hE hA [0, 1, 2, 3, 4, 5, 6, 7, 8, 9, 10, 11, 12, 13, 14, 15] rfl rfl 0 rfl rfl rfl) rfl rfl hl.1 rfl (lv_room (Nat.le_of_ble_eq_true rfl)) dX6_itches_61 ⟨Nat.zero_le _, Nat.zero_le _⟩) hP hD hS hA [0, 1, 2, 3, 4, 5, 6, 7, 8, 9, 10, 11, 12, 13, 14, 15] rfl rfl rfl (fun H locs hP hD hS => ?_)
      refine lv_aload_n hx hb dX6_itches_64 rfl (lv_at hl 0 rfl) ?_
      refine va_get (D := D) (ci := 6) (v := .int m_actA) (C := RX6) (T := TX6) (N := 28) hx hb hts hi_RX6 hown hK hP 0 rfl rfl 26 (by decide) (hts (.fieldLink RX6 317 "TravelMarksModel" "actA" "I") (List.mem_of_getElem? (i := 2) rfl)) (fun _ h9 => h9) rfl dX6_itches_65 ?_
      refine lv_iadd hx hb dX6_itches_68 ?_
      obtain ⟨t14, et14, hf⟩ := lj_e hf
      refine lv_ren et14 ?_
      cases hf
      exact kri hQ hAe hx hb hr hlocks hP hD hK hS dX6_itches_69
    replace hf := if_fe c6 hf
    by_cases c15 : m_actKind = 4
    · replace hf := if_te c15 hf
      refine lv_tableIn (x := m_actKind) (tgt := 38) (off := 34) hx hb dX6_itches_4 (by rw [c15]; decide) (by rw [c15]; decide) (by rw [c15]; try rfl) (by decide) ?_
      refine lv_aload_n hx hb dX6_itches_38 rfl (lv_at hl 0 rfl) ?_
      refine lv_bipush (v := 40) hx hb dX6_itches_39 rfl ?_
      obtain ⟨v16, v17, h18, hf⟩ := ob2_e hf
      refine kcv (Wx := (oMM C e0 e1 e2 e3 e4 e5 e6 e7 e8 e9 e10 e11 e12 e13 e14 e15 m_s m_held m_aside m_before m_isHeld m_tape m_taped m_token m_from m_to m_value m_isWrong m_due m_firsts m_rows m_rowN m_sortOf m_sizeOf m_numbers m_holdsWhat m_holdsWhich m_holdsMany v16 v17 m_actKind m_actN m_actA m_isParted [])) (va_runV (As := [.int 40]) (rest := []) ⟨hx, hb, hml, hown, hts⟩ (c_X6_runs l E D C e0 e1 e2 e3 e4 e5 e6 e7 e8 e9 e10 e11 e12 e13 e14 e15 H.size m_s m_held m_aside m_before m_isHeld m_tape m_taped m_token m_from m_to m_value m_isWrong m_due m_firsts m_rows m_rowN m_sortOf m_sizeOf m_numbers m_holdsWhat m_holdsWhich m_holdsMany m_bodies m_ran m_actKind m_actN m_actA m_isParted 40 v16 v17 h18) (cwV 1 hts gX6_itches_X6_runs rfl rfl rfl hdX6_runs ⟨Nat.le_of_ble_eq_true rfl, Nat.le_of_ble_eq_true rfl⟩) (kpreV hP hD hK hS hE hA [0, 1, 2, 3, 4, 5, 6, 7, 8, 9, 10, 11, 12, 13, 14, 15] rfl rfl 0 rfl rfl rfl) rfl rfl hl.1 rfl (lv_room (Nat.le_of_ble_eq_true rfl)) dX6_itches_41 ⟨Nat.zero_le _, Nat.zero_le _⟩) hP hD hS hA [0, 1, 2, 3, 4, 5, 6, 7, 8, 9, 10, 11, 12, 13, 14, 15] rfl rfl rfl (fun H locs hP hD hS => ?_)
      refine lv_aload_n hx hb dX6_itches_44 rfl (lv_at hl 0 rfl) ?_
      refine lv_iload_n hx hb dX6_itches_45 rfl (lv_at hl 1 rfl) ?_
      obtain ⟨r19, v20, v21, h22, hf⟩ := ob3_e hf
      refine kci (Wx := (oMM C e0 e1 e2 e3 e4 e5 e6 e7 e8 e9 e10 e11 e12 e13 e14 e15 m_s m_held m_aside m_before m_isHeld m_tape m_taped m_token m_from m_to m_value m_isWrong m_due m_firsts m_rows m_rowN m_sortOf m_sizeOf m_numbers m_holdsWhat m_holdsWhich m_holdsMany v20 v21 m_actKind m_actN m_actA m_isParted [])) (va_runV (As := [.int x0]) (rest := []) ⟨hx, hb, hml, hown, hts⟩ (c_X6_itchesOfSnake l E D C e0 e1 e2 e3 e4 e5 e6 e7 e8 e9 e10 e11 e12 e13 e14 e15 H.size m_s m_held m_aside m_before m_isHeld m_tape m_taped m_token m_from m_to m_value m_isWrong m_due m_firsts m_rows m_rowN m_sortOf m_sizeOf m_numbers m_holdsWhat m_holdsWhich m_holdsMany v16 v17 m_actKind m_actN m_actA m_isParted x0 r19 v20 v21 h22) (cwV 1 hts gX6_itches_X6_itchesOfSnake rfl rfl rfl hdX6_itchesOfSnake ⟨Nat.le_of_ble_eq_true rfl, Nat.le_of_ble_eq_true rfl⟩) (kpreV hP hD hK hS hE hA [0, 1, 2, 3, 4, 5, 6, 7, 8, 9, 10, 11, 12, 13, 14, 15] rfl rfl 0 rfl rfl rfl) rfl rfl hl.1 rfl (lv_room (Nat.le_of_ble_eq_true rfl)) dX6_itches_46 ⟨Nat.zero_le _, Nat.zero_le _⟩) hP hD hS hA [0, 1, 2, 3, 4, 5, 6, 7, 8, 9, 10, 11, 12, 13, 14, 15] rfl rfl rfl (fun H locs hP hD hS => ?_)
      refine lv_bipush (v := 9) hx hb dX6_itches_49 rfl ?_
      refine lv_ixor hx hb dX6_itches_51 ?_
      obtain ⟨t23, et23, hf⟩ := lj_e hf
      refine lv_ren et23 ?_
      cases hf
      exact kri hQ hAe hx hb hr hlocks hP hD hK hS dX6_itches_52
    replace hf := if_fe c15 hf
    refine lv_tableOut (x := m_actKind) (tgt := 70) hx hb dX6_itches_4 (swo_2_4 c1 c6 c15) (by decide) ?_
    refine lv_aload_n hx hb dX6_itches_70 rfl (lv_at hl 0 rfl) ?_
    refine lv_iload_n hx hb dX6_itches_71 rfl (lv_at hl 1 rfl) ?_
    obtain ⟨r24, v25, v26, h27, hf⟩ := ob3_e hf
    refine kci (Wx := (oMM C e0 e1 e2 e3 e4 e5 e6 e7 e8 e9 e10 e11 e12 e13 e14 e15 m_s m_held m_aside m_before m_isHeld m_tape m_taped m_token m_from m_to m_value m_isWrong m_due m_firsts m_rows m_rowN m_sortOf m_sizeOf m_numbers m_holdsWhat m_holdsWhich m_holdsMany v25 v26 m_actKind m_actN m_actA m_isParted [])) (va_runV (As := [.int x0]) (rest := []) ⟨hx, hb, hml, hown, hts⟩ (c_X6_itchesPlain l E D C e0 e1 e2 e3 e4 e5 e6 e7 e8 e9 e10 e11 e12 e13 e14 e15 H.size m_s m_held m_aside m_before m_isHeld m_tape m_taped m_token m_from m_to m_value m_isWrong m_due m_firsts m_rows m_rowN m_sortOf m_sizeOf m_numbers m_holdsWhat m_holdsWhich m_holdsMany m_bodies m_ran m_actKind m_actN m_actA m_isParted x0 r24 v25 v26 h27) (cwV 1 hts gX6_itches_X6_itchesPlain rfl rfl rfl hdX6_itchesPlain ⟨Nat.le_of_ble_eq_true rfl, Nat.le_of_ble_eq_true rfl⟩) (kpreV hP hD hK hS hE hA [0, 1, 2, 3, 4, 5, 6, 7, 8, 9, 10, 11, 12, 13, 14, 15] rfl rfl 0 rfl rfl rfl) rfl rfl hl.1 rfl (lv_room (Nat.le_of_ble_eq_true rfl)) dX6_itches_72 ⟨Nat.zero_le _, Nat.zero_le _⟩) hP hD hS hA [0, 1, 2, 3, 4, 5, 6, 7, 8, 9, 10, 11, 12, 13, 14, 15] rfl rfl rfl (fun H locs hP hD hS => ?_)
    cases hf
    exact kri hQ hAe hx hb hr hlocks hP hD hK hS dX6_itches_75
  exact main _ _ hP hD hS

def rmX6_crawlsPlain : Room := { frames := 4, cells := 0, slots := 0, locals := 84 }
theorem hdX6_crawlsPlain : yX6_crawlsPlain.cls = RX6 ∧ yX6_crawlsPlain.cls ≠ "java/lang/invoke/MethodHandle" ∧ yX6_crawlsPlain.cls ≠ "java/lang/invoke/VarHandle" ∧ (parseMethodDescriptor yX6_crawlsPlain.desc).map (fun d => d.parameters.length) = some 1 := by decide +kernel
set_option maxHeartbeats 40000000 in
set_option maxRecDepth 100000 in
theorem c_X6_crawlsPlain (l : Launch) (E : Nat → Nat) (D : va_G) (C : Nat → ClassId) (e0 e1 e2 e3 e4 e5 e6 e7 e8 e9 e10 e11 e12 e13 e14 e15 : Nat) (sz : Nat) (m_s : Nat → Int32) (m_held : Nat → Int32) (m_aside : Nat → Int32) (m_before : Nat → Int32) (m_isHeld : Int32) (m_tape : Nat → Int32) (m_taped : Int32) (m_token : Int32) (m_from : Int32) (m_to : Int32) (m_value : Int32) (m_isWrong : Int32) (m_due : Nat → Int32) (m_firsts : Nat → Int32) (m_rows : Nat → Int32) (m_rowN : Int32) (m_sortOf : Nat → Int32) (m_sizeOf : Nat → Int32) (m_numbers : Nat → Int32) (m_holdsWhat : Nat → Int32) (m_holdsWhich : Nat → Int32) (m_holdsMany : Nat → Int32) (m_bodies : Nat → Int32) (m_ran : Int32) (m_actKind : Int32) (m_actN : Int32) (m_actA : Int32) (m_isParted : Int32) (x0 : Int32) (r : Int32) (m_bodies' : Nat → Int32) (m_ran' : Int32) (hf : f_X6_crawlsPlain m_bodies m_ran m_actKind m_actN m_actA x0 = some (r, m_bodies', m_ran')) : Met l yX6_crawlsPlain wsX6_crawlsPlain rmX6_crawlsPlain (PC E D C [.ref e0, .int x0] (oMM C e0 e1 e2 e3 e4 e5 e6 e7 e8 e9 e10 e11 e12 e13 e14 e15 m_s m_held m_aside m_before m_isHeld m_tape m_taped m_token m_from m_to m_value m_isWrong m_due m_firsts m_rows m_rowN m_sortOf m_sizeOf m_numbers m_holdsWhat m_holdsWhich m_holdsMany m_bodies m_ran m_actKind m_actN m_actA m_isParted []) sz) (QI D C (oMM C e0 e1 e2 e3 e4 e5 e6 e7 e8 e9 e10 e11 e12 e13 e14 e15 m_s m_held m_aside m_before m_isHeld m_tape m_taped m_token m_from m_to m_value m_isWrong m_due m_firsts m_rows m_rowN m_sortOf m_sizeOf m_numbers m_holdsWhat m_holdsWhich m_holdsMany m_bodies m_ran m_actKind m_actN m_actA m_isParted []) (oMM C e0 e1 e2 e3 e4 e5 e6 e7 e8 e9 e10 e11 e12 e13 e14 e15 m_s m_held m_aside m_before m_isHeld m_tape m_taped m_token m_from m_to m_value m_isWrong m_due m_firsts m_rows m_rowN m_sortOf m_sizeOf m_numbers m_holdsWhat m_holdsWhich m_holdsMany (m_bodies') (m_ran') m_actKind m_actN m_actA m_isParted []) sz r) 0 0 (va_A (oMM C e0 e1 e2 e3 e4 e5 e6 e7 e8 e9 e10 e11 e12 e13 e14 e15 m_s m_held m_aside m_before m_isHeld m_tape m_taped m_token m_from m_to m_value m_isWrong m_due m_firsts m_rows m_rowN m_sortOf m_sizeOf m_numbers m_holdsWhat m_holdsWhich m_holdsMany m_bodies m_ran m_actKind m_actN m_actA m_isParted []) sz) := by
  refine Met.ofW (cc := cX6_crawlsPlain) (maxL := 2) (ret := (some .int)) (by decide) rfl ?_
  intro p e s m args below meth c s₁ B hml hv
  obtain ⟨rfl, hsz, hP, hK, hD0, hE⟩ := hv
  have hx := B.exec
  have hb := B.bytes
  have hr := B.returns
  have hts := atoms_spec (ws := wsX6_crawlsPlain) B.pre
  have hown : s.vm.findClass RX6 = some m.cls := findClass_of_methodNamed B.named
  have hlocks := B.notSynchronized
  subst hsz
  have hi_RX6 : ∀ w ∈ wsX60, w ∈ wsX6_crawlsPlain := fun _ h => List.mem_cons_of_mem _ (List.mem_append_right _ h)
  have hD := hD0.self (sz := s.heap.size)
  obtain ⟨A, hAe⟩ := nm_ex (va_A (oMM C e0 e1 e2 e3 e4 e5 e6 e7 e8 e9 e10 e11 e12 e13 e14 e15 m_s m_held m_aside m_before m_isHeld m_tape m_taped m_token m_from m_to m_value m_isWrong m_due m_firsts m_rows m_rowN m_sortOf m_sizeOf m_numbers m_holdsWhat m_holdsWhich m_holdsMany m_bodies m_ran m_actKind m_actN m_actA m_isParted []) s.heap.size)
  rw [← hAe] at hD hE ⊢
  have hA : ∀ q : Nat, s.heap.size ≤ q → A q := fun q h => by rw [hAe]; exact Or.inr h
  have hS : va_S A s.heap s.heap [] := va_S.rf
  have hl := lv_entry ([.ref e0, .int x0]) (n := 2) (Nat.le_of_ble_eq_true rfl)
  rw [lg_entry_eq]
  generalize (lg_sl ([.ref e0, .int x0]) ++ List.replicate (2 - (lg_sl ([.ref e0, .int x0])).length) Slot.unset).toArray = ls at hl ⊢
  have hl : lv_has ls 2 [(0, .ref e0), (1, .int x0)] := hl
  obtain ⟨Q, hQ⟩ := nm_ex (MQ below (QI D C (oMM C e0 e1 e2 e3 e4 e5 e6 e7 e8 e9 e10 e11 e12 e13 e14 e15 m_s m_held m_aside m_before m_isHeld m_tape m_taped m_token m_from m_to m_value m_isWrong m_due m_firsts m_rows m_rowN m_sortOf m_sizeOf m_numbers m_holdsWhat m_holdsWhich m_holdsMany m_bodies m_ran m_actKind m_actN m_actA m_isParted []) (oMM C e0 e1 e2 e3 e4 e5 e6 e7 e8 e9 e10 e11 e12 e13 e14 e15 m_s m_held m_aside m_before m_isHeld m_tape m_taped m_token m_from m_to m_value m_isWrong m_due m_firsts m_rows m_rowN m_sortOf m_sizeOf m_numbers m_holdsWhat m_holdsWhich m_holdsMany (m_bodies') (m_ran') m_actKind m_actN m_actA m_isParted []) s.heap.size r) (List.toArray [Value.ref e0, Value.int x0]) s 0 0 A)
  show W p l e (headSpec wsX6_crawlsPlain (rmX6_crawlsPlain)).room s m (List.toArray [Value.ref e0, Value.int x0]) below meth c s.heap [] 0 0 (MQ below (QI D C (oMM C e0 e1 e2 e3 e4 e5 e6 e7 e8 e9 e10 e11 e12 e13 e14 e15 m_s m_held m_aside m_before m_isHeld m_tape m_taped m_token m_from m_to m_value m_isWrong m_due m_firsts m_rows m_rowN m_sortOf m_sizeOf m_numbers m_holdsWhat m_holdsWhich m_holdsMany m_bodies m_ran m_actKind m_actN m_actA m_isParted []) (oMM C e0 e1 e2 e3 e4 e5 e6 e7 e8 e9 e10 e11 e12 e13 e14 e15 m_s m_held m_aside m_before m_isHeld m_tape m_taped m_token m_from m_to m_value m_isWrong m_due m_firsts m_rows m_rowN m_sortOf m_sizeOf m_numbers m_holdsWhat m_holdsWhich m_holdsMany (m_bodies') (m_ran') m_actKind m_actN m_actA m_isParted []) s.heap.size r) (List.toArray [Value.ref e0, Value.int x0]) s 0 0 A) _
  rw [← hQ]
  unfold f_X6_crawlsPlain at hf
  have main : ∀ (H : Heap) (locs : List Loc), va_P D vwCl (oMM C e0 e1 e2 e3 e4 e5 e6 e7 e8 e9 e10 e11 e12 e13 e14 e15 m_s m_held m_aside m_before m_isHeld m_tape m_taped m_token m_from m_to m_value m_isWrong m_due m_firsts m_rows m_rowN m_sortOf m_sizeOf m_numbers m_holdsWhat m_holdsWhich m_holdsMany m_bodies m_ran m_actKind m_actN m_actA m_isParted []) H → va_D A (oMM C e0 e1 e2 e3 e4 e5 e6 e7 e8 e9 e10 e11 e12 e13 e14 e15 m_s m_held m_aside m_before m_isHeld m_tape m_taped m_token m_from m_to m_value m_isWrong m_due m_firsts m_rows m_rowN m_sortOf m_sizeOf m_numbers m_holdsWhat m_holdsWhich m_holdsMany m_bodies m_ran m_actKind m_actN m_actA m_isParted []) → va_S A s.heap H locs → W p l e (headSpec wsX6_crawlsPlain (rmX6_crawlsPlain)).room s m (List.toArray [Value.ref e0, Value.int x0]) below meth c H locs 0 0 Q (F0 m 0 ls []) := by
    intro H locs hP hD hS
    refine lv_aload_n hx hb dX6_crawlsPlain_0 rfl (lv_at hl 0 rfl) ?_
    refine lv_bipush (v := 11) hx hb dX6_crawlsPlain_1 rfl ?_
    obtain ⟨v1, v2, h3, hf⟩ := ob2_e hf
    refine kcv (Wx := (oMM C e0 e1 e2 e3 e4 e5 e6 e7 e8 e9 e10 e11 e12 e13 e14 e15 m_s m_held m_aside m_before m_isHeld m_tape m_taped m_token m_from m_to m_value m_isWrong m_due m_firsts m_rows m_rowN m_sortOf m_sizeOf m_numbers m_holdsWhat m_holdsWhich m_holdsMany v1 v2 m_actKind m_actN m_actA m_isParted [])) (va_runV (As := [.int 11]) (rest := []) ⟨hx, hb, hml, hown, hts⟩ (c_X6_runs l E D C e0 e1 e2 e3 e4 e5 e6 e7 e8 e9 e10 e11 e12 e13 e14 e15 H.size m_s m_held m_aside m_before m_isHeld m_tape m_taped m_token m_from m_to m_value m_isWrong m_due m_firsts m_rows m_rowN m_sortOf m_sizeOf m_numbers m_holdsWhat m_holdsWhich m_holdsMany m_bodies m_ran m_actKind m_actN m_actA m_isParted 11 v1 v2 h3) (cwV 1 hts gX6_crawlsPlain_X6_runs rfl rfl rfl hdX6_runs ⟨Nat.le_of_ble_eq_true rfl, Nat.le_of_ble_eq_true rfl⟩) (kpreV hP hD hK hS hE hA [0, 1, 2, 3, 4, 5, 6, 7, 8, 9, 10, 11, 12, 13, 14, 15] rfl rfl 0 rfl rfl rfl) rfl rfl hl.1 rfl (lv_room (Nat.le_of_ble_eq_true rfl)) dX6_crawlsPlain_3 ⟨Nat.zero_le _, Nat.zero_le _⟩) hP hD hS hA [0, 1, 2, 3, 4, 5, 6, 7, 8, 9, 10, 11, 12, 13, 14, 15] rfl rfl rfl (fun H locs hP hD hS => ?_)
    refine lv_aload_n hx hb dX6_crawlsPlain_6 rfl (lv_at hl 0 rfl) ?_
    refine lv_iload_n hx hb dX6_crawlsPlain_7 rfl (lv_at hl 1 rfl) ?_
    obtain ⟨r4, v5, v6, h7, hf⟩ := ob3_e hf
    refine kci (Wx := (oMM C e0 e1 e2 e3 e4 e5 e6 e7 e8 e9 e10 e11 e12 e13 e14 e15 m_s m_held m_aside m_before m_isHeld m_tape m_taped m_token m_from m_to m_value m_isWrong m_due m_firsts m_rows m_rowN m_sortOf m_sizeOf m_numbers m_holdsWhat m_holdsWhich m_holdsMany v5 v6 m_actKind m_actN m_actA m_isParted [])) (va_runV (As := [.int x0]) (rest := []) ⟨hx, hb, hml, hown, hts⟩ (c_X6_itches l E D C e0 e1 e2 e3 e4 e5 e6 e7 e8 e9 e10 e11 e12 e13 e14 e15 H.size m_s m_held m_aside m_before m_isHeld m_tape m_taped m_token m_from m_to m_value m_isWrong m_due m_firsts m_rows m_rowN m_sortOf m_sizeOf m_numbers m_holdsWhat m_holdsWhich m_holdsMany v1 v2 m_actKind m_actN m_actA m_isParted x0 r4 v5 v6 h7) (cwV 1 hts gX6_crawlsPlain_X6_itches rfl rfl rfl hdX6_itches ⟨Nat.le_of_ble_eq_true rfl, Nat.le_of_ble_eq_true rfl⟩) (kpreV hP hD hK hS hE hA [0, 1, 2, 3, 4, 5, 6, 7, 8, 9, 10, 11, 12, 13, 14, 15] rfl rfl 0 rfl rfl rfl) rfl rfl hl.1 rfl (lv_room (Nat.le_of_ble_eq_true rfl)) dX6_crawlsPlain_8 ⟨Nat.zero_le _, Nat.zero_le _⟩) hP hD hS hA [0, 1, 2, 3, 4, 5, 6, 7, 8, 9, 10, 11, 12, 13, 14, 15] rfl rfl rfl (fun H locs hP hD hS => ?_)
    refine lv_aload_n hx hb dX6_crawlsPlain_11 rfl (lv_at hl 0 rfl) ?_
    refine va_get (D := D) (ci := 6) (v := .int m_actA) (C := RX6) (T := TX6) (N := 28) hx hb hts hi_RX6 hown hK hP 0 rfl rfl 26 (by decide) (hts (.fieldLink RX6 317 "TravelMarksModel" "actA" "I") (List.mem_of_getElem? (i := 1) rfl)) (fun _ h9 => h9) rfl dX6_crawlsPlain_12 ?_
    refine lv_isub hx hb dX6_crawlsPlain_15 ?_
    obtain ⟨t8, et8, hf⟩ := lj_e hf
    refine lv_ren et8 ?_
    cases hf
    exact kri hQ hAe hx hb hr hlocks hP hD hK hS dX6_crawlsPlain_16
  exact main _ _ hP hD hS

def rmX6_crawls : Room := { frames := 5, cells := 0, slots := 0, locals := 105 }
theorem hdX6_crawls : yX6_crawls.cls = RX6 ∧ yX6_crawls.cls ≠ "java/lang/invoke/MethodHandle" ∧ yX6_crawls.cls ≠ "java/lang/invoke/VarHandle" ∧ (parseMethodDescriptor yX6_crawls.desc).map (fun d => d.parameters.length) = some 1 := by decide +kernel
set_option maxHeartbeats 40000000 in
set_option maxRecDepth 100000 in
theorem c_X6_crawls (l : Launch) (E : Nat → Nat) (D : va_G) (C : Nat → ClassId) (e0 e1 e2 e3 e4 e5 e6 e7 e8 e9 e10 e11 e12 e13 e14 e15 : Nat) (sz : Nat) (m_s : Nat → Int32) (m_held : Nat → Int32) (m_aside : Nat → Int32) (m_before : Nat → Int32) (m_isHeld : Int32) (m_tape : Nat → Int32) (m_taped : Int32) (m_token : Int32) (m_from : Int32) (m_to : Int32) (m_value : Int32) (m_isWrong : Int32) (m_due : Nat → Int32) (m_firsts : Nat → Int32) (m_rows : Nat → Int32) (m_rowN : Int32) (m_sortOf : Nat → Int32) (m_sizeOf : Nat → Int32) (m_numbers : Nat → Int32) (m_holdsWhat : Nat → Int32) (m_holdsWhich : Nat → Int32) (m_holdsMany : Nat → Int32) (m_bodies : Nat → Int32) (m_ran : Int32) (m_actKind : Int32) (m_actN : Int32) (m_actA : Int32) (m_isParted : Int32) (x0 : Int32) (r : Int32) (m_bodies' : Nat → Int32) (m_ran' : Int32) (hf : f_X6_crawls m_bodies m_ran m_actKind m_actN m_actA x0 = some (r, m_bodies', m_ran')) : Met l yX6_crawls wsX6_crawls rmX6_crawls (PC E D C [.ref e0, .int x0] (oMM C e0 e1 e2 e3 e4 e5 e6 e7 e8 e9 e10 e11 e12 e13 e14 e15 m_s m_held m_aside m_before m_isHeld m_tape m_taped m_token m_from m_to m_value m_isWrong m_due m_firsts m_rows m_rowN m_sortOf m_sizeOf m_numbers m_holdsWhat m_holdsWhich m_holdsMany m_bodies m_ran m_actKind m_actN m_actA m_isParted []) sz) (QI D C (oMM C e0 e1 e2 e3 e4 e5 e6 e7 e8 e9 e10 e11 e12 e13 e14 e15 m_s m_held m_aside m_before m_isHeld m_tape m_taped m_token m_from m_to m_value m_isWrong m_due m_firsts m_rows m_rowN m_sortOf m_sizeOf m_numbers m_holdsWhat m_holdsWhich m_holdsMany m_bodies m_ran m_actKind m_actN m_actA m_isParted []) (oMM C e0 e1 e2 e3 e4 e5 e6 e7 e8 e9 e10 e11 e12 e13 e14 e15 m_s m_held m_aside m_before m_isHeld m_tape m_taped m_token m_from m_to m_value m_isWrong m_due m_firsts m_rows m_rowN m_sortOf m_sizeOf m_numbers m_holdsWhat m_holdsWhich m_holdsMany (m_bodies') (m_ran') m_actKind m_actN m_actA m_isParted []) sz r) 0 0 (va_A (oMM C e0 e1 e2 e3 e4 e5 e6 e7 e8 e9 e10 e11 e12 e13 e14 e15 m_s m_held m_aside m_before m_isHeld m_tape m_taped m_token m_from m_to m_value m_isWrong m_due m_firsts m_rows m_rowN m_sortOf m_sizeOf m_numbers m_holdsWhat m_holdsWhich m_holdsMany m_bodies m_ran m_actKind m_actN m_actA m_isParted []) sz) := by
  refine Met.ofW (cc := cX6_crawls) (maxL := 3) (ret := (some .int)) (by decide) rfl ?_
  intro p e s m args below meth c s₁ B hml hv
  obtain ⟨rfl, hsz, hP, hK, hD0, hE⟩ := hv
  have hx := B.exec
  have hb := B.bytes
  have hr := B.returns
  have hts := atoms_spec (ws := wsX6_crawls) B.pre
  have hown : s.vm.findClass RX6 = some m.cls := findClass_of_methodNamed B.named
  have hlocks := B.notSynchronized
  subst hsz
  have hi_RX6 : ∀ w ∈ wsX60, w ∈ wsX6_crawls := fun _ h => List.mem_cons_of_mem _ (List.mem_append_right _ h)
  have hD := hD0.self (sz := s.heap.size)
  obtain ⟨A, hAe⟩ := nm_ex (va_A (oMM C e0 e1 e2 e3 e4 e5 e6 e7 e8 e9 e10 e11 e12 e13 e14 e15 m_s m_held m_aside m_before m_isHeld m_tape m_taped m_token m_from m_to m_value m_isWrong m_due m_firsts m_rows m_rowN m_sortOf m_sizeOf m_numbers m_holdsWhat m_holdsWhich m_holdsMany m_bodies m_ran m_actKind m_actN m_actA m_isParted []) s.heap.size)
  rw [← hAe] at hD hE ⊢
  have hA : ∀ q : Nat, s.heap.size ≤ q → A q := fun q h => by rw [hAe]; exact Or.inr h
  have hS : va_S A s.heap s.heap [] := va_S.rf
  have hl := lv_entry ([.ref e0, .int x0]) (n := 3) (Nat.le_of_ble_eq_true rfl)
  rw [lg_entry_eq]
  generalize (lg_sl ([.ref e0, .int x0]) ++ List.replicate (3 - (lg_sl ([.ref e0, .int x0])).length) Slot.unset).toArray = ls at hl ⊢
  have hl : lv_has ls 3 [(0, .ref e0), (1, .int x0)] := hl
  obtain ⟨Q, hQ⟩ := nm_ex (MQ below (QI D C (oMM C e0 e1 e2 e3 e4 e5 e6 e7 e8 e9 e10 e11 e12 e13 e14 e15 m_s m_held m_aside m_before m_isHeld m_tape m_taped m_token m_from m_to m_value m_isWrong m_due m_firsts m_rows m_rowN m_sortOf m_sizeOf m_numbers m_holdsWhat m_holdsWhich m_holdsMany m_bodies m_ran m_actKind m_actN m_actA m_isParted []) (oMM C e0 e1 e2 e3 e4 e5 e6 e7 e8 e9 e10 e11 e12 e13 e14 e15 m_s m_held m_aside m_before m_isHeld m_tape m_taped m_token m_from m_to m_value m_isWrong m_due m_firsts m_rows m_rowN m_sortOf m_sizeOf m_numbers m_holdsWhat m_holdsWhich m_holdsMany (m_bodies') (m_ran') m_actKind m_actN m_actA m_isParted []) s.heap.size r) (List.toArray [Value.ref e0, Value.int x0]) s 0 0 A)
  show W p l e (headSpec wsX6_crawls (rmX6_crawls)).room s m (List.toArray [Value.ref e0, Value.int x0]) below meth c s.heap [] 0 0 (MQ below (QI D C (oMM C e0 e1 e2 e3 e4 e5 e6 e7 e8 e9 e10 e11 e12 e13 e14 e15 m_s m_held m_aside m_before m_isHeld m_tape m_taped m_token m_from m_to m_value m_isWrong m_due m_firsts m_rows m_rowN m_sortOf m_sizeOf m_numbers m_holdsWhat m_holdsWhich m_holdsMany m_bodies m_ran m_actKind m_actN m_actA m_isParted []) (oMM C e0 e1 e2 e3 e4 e5 e6 e7 e8 e9 e10 e11 e12 e13 e14 e15 m_s m_held m_aside m_before m_isHeld m_tape m_taped m_token m_from m_to m_value m_isWrong m_due m_firsts m_rows m_rowN m_sortOf m_sizeOf m_numbers m_holdsWhat m_holdsWhich m_holdsMany (m_bodies') (m_ran') m_actKind m_actN m_actA m_isParted []) s.heap.size r) (List.toArray [Value.ref e0, Value.int x0]) s 0 0 A) _
  rw [← hQ]
  unfold f_X6_crawls at hf
  have main : ∀ (H : Heap) (locs : List Loc), va_P D vwCl (oMM C e0 e1 e2 e3 e4 e5 e6 e7 e8 e9 e10 e11 e12 e13 e14 e15 m_s m_held m_aside m_before m_isHeld m_tape m_taped m_token m_from m_to m_value m_isWrong m_due m_firsts m_rows m_rowN m_sortOf m_sizeOf m_numbers m_holdsWhat m_holdsWhich m_holdsMany m_bodies m_ran m_actKind m_actN m_actA m_isParted []) H → va_D A (oMM C e0 e1 e2 e3 e4 e5 e6 e7 e8 e9 e10 e11 e12 e13 e14 e15 m_s m_held m_aside m_before m_isHeld m_tape m_taped m_token m_from m_to m_value m_isWrong m_due m_firsts m_rows m_rowN m_sortOf m_sizeOf m_numbers m_holdsWhat m_holdsWhich m_holdsMany m_bodies m_ran m_actKind m_actN m_actA m_isParted []) → va_S A s.heap H locs → W p l e (headSpec wsX6_crawls (rmX6_crawls)).room s m (List.toArray [Value.ref e0, Value.int x0]) below meth c H locs 0 0 Q (F0 m 0 ls []) := by
    intro H locs hP hD hS
    refine lv_aload_n hx hb dX6_crawls_0 rfl (lv_at hl 0 rfl) ?_
    refine va_get (D := D) (ci := 6) (v := .int m_actKind) (C := RX6) (T := TX6) (N := 28) hx hb hts hi_RX6 hown hK hP 0 rfl rfl 24 (by decide) (hts (.fieldLink RX6 311 "TravelMarksModel" "actKind" "I") (List.mem_of_getElem? (i := 1) rfl)) (fun _ h9 => h9) rfl dX6_crawls_1 ?_
    refine lv_iconst (v := 1) hx hb dX6_crawls_4 rfl ?_
    obtain ⟨j1, hj1, hf⟩ := lj_e hf
    have Hj1 : ∀ (H : Heap) (locs : List Loc) (ls : Array Slot), va_P D vwCl (oMM C e0 e1 e2 e3 e4 e5 e6 e7 e8 e9 e10 e11 e12 e13 e14 e15 m_s m_held m_aside m_before m_isHeld m_tape m_taped m_token m_from m_to m_value m_isWrong m_due m_firsts m_rows m_rowN m_sortOf m_sizeOf m_numbers m_holdsWhat m_holdsWhich m_holdsMany m_bodies m_ran m_actKind m_actN m_actA m_isParted []) H → va_D A (oMM C e0 e1 e2 e3 e4 e5 e6 e7 e8 e9 e10 e11 e12 e13 e14 e15 m_s m_held m_aside m_before m_isHeld m_tape m_taped m_token m_from m_to m_value m_isWrong m_due m_firsts m_rows m_rowN m_sortOf m_sizeOf m_numbers m_holdsWhat m_holdsWhich m_holdsMany m_bodies m_ran m_actKind m_actN m_actA m_isParted []) → va_S A s.heap H locs → lv_has ls 3 [(0, .ref e0), (1, .int x0)] → j1 = some (r, m_bodies', m_ran') → W p l e (headSpec wsX6_crawls (rmX6_crawls)).room s m (List.toArray [Value.ref e0, Value.int x0]) below meth c H locs 0 0 Q (F0 m 16 ls []) := by
      intro H locs ls hP hD hS hl hf
      rw [hj1] at hf
      refine lv_aload_n hx hb dX6_crawls_16 rfl (lv_at hl 0 rfl) ?_
      refine lv_bipush (v := 20) hx hb dX6_crawls_17 rfl ?_
      obtain ⟨v2, v3, h4, hf⟩ := ob2_e hf
      refine kcv (Wx := (oMM C e0 e1 e2 e3 e4 e5 e6 e7 e8 e9 e10 e11 e12 e13 e14 e15 m_s m_held m_aside m_before m_isHeld m_tape m_taped m_token m_from m_to m_value m_isWrong m_due m_firsts m_rows m_rowN m_sortOf m_sizeOf m_numbers m_holdsWhat m_holdsWhich m_holdsMany v2 v3 m_actKind m_actN m_actA m_isParted [])) (va_runV (As := [.int 20]) (rest := []) ⟨hx, hb, hml, hown, hts⟩ (c_X6_runs l E D C e0 e1 e2 e3 e4 e5 e6 e7 e8 e9 e10 e11 e12 e13 e14 e15 H.size m_s m_held m_aside m_before m_isHeld m_tape m_taped m_token m_from m_to m_value m_isWrong m_due m_firsts m_rows m_rowN m_sortOf m_sizeOf m_numbers m_holdsWhat m_holdsWhich m_holdsMany m_bodies m_ran m_actKind m_actN m_actA m_isParted 20 v2 v3 h4) (cwV 1 hts gX6_crawls_X6_runs rfl rfl rfl hdX6_runs ⟨Nat.le_of_ble_eq_true rfl, Nat.le_of_ble_eq_true rfl⟩) (kpreV hP hD hK hS hE hA [0, 1, 2, 3, 4, 5, 6, 7, 8, 9, 10, 11, 12, 13, 14, 15] rfl rfl 0 rfl rfl rfl) rfl rfl hl.1 rfl (lv_room (Nat.le_of_ble_eq_true rfl)) dX6_crawls_19 ⟨Nat.zero_le _, Nat.zero_le _⟩) hP hD hS hA [0, 1, 2, 3, 4, 5, 6, 7, 8, 9, 10, 11, 12, 13, 14, 15] rfl rfl rfl (fun H locs hP hD hS => ?_)
      refine lv_aload_n hx hb dX6_crawls_22 rfl (lv_at hl 0 rfl) ?_
      refine lv_iload_n hx hb dX6_crawls_23 rfl (lv_at hl 1 rfl) ?_
      obtain ⟨r5, v6, v7, h8, hf⟩ := ob3_e hf
      refine kci (Wx := (oMM C e0 e1 e2 e3 e4 e5 e6 e7 e8 e9 e10 e11 e12 e13 e14 e15 m_s m_held m_aside m_before m_isHeld m_tape m_taped m_token m_from m_to m_value m_isWrong m_due m_firsts m_rows m_rowN m_sortOf m_sizeOf m_numbers m_holdsWhat m_holdsWhich m_holdsMany v6 v7 m_actKind m_actN m_actA m_isParted [])) (va_runV (As := [.int x0]) (rest := []) ⟨hx, hb, hml, hown, hts⟩ (c_X6_crawlsPlain l E D C e0 e1 e2 e3 e4 e5 e6 e7 e8 e9 e10 e11 e12 e13 e14 e15 H.size m_s m_held m_aside m_before m_isHeld m_tape m_taped m_token m_from m_to m_value m_isWrong m_due m_firsts m_rows m_rowN m_sortOf m_sizeOf m_numbers m_holdsWhat m_holdsWhich m_holdsMany v2 v3 m_actKind m_actN m_actA m_isParted x0 r5 v6 v7 h8) (cwV 1 hts gX6_crawls_X6_crawlsPlain rfl rfl rfl hdX6_crawlsPlain ⟨Nat.le_of_ble_eq_true rfl, Nat.le_of_ble_eq_true rfl⟩) (kpreV hP hD hK hS hE hA [0, 1, 2, 3, 4, 5, 6, 7, 8, 9, 10, 11, 12, 13, 14, 15] rfl rfl 0 rfl rfl rfl) rfl rfl hl.1 rfl (lv_room (Nat.le_of_ble_eq_true rfl)) dX6_crawls_24 ⟨Nat.zero_le _, Nat.zero_le _⟩) hP hD hS hA [0, 1, 2, 3, 4, 5, 6, 7, 8, 9, 10, 11, 12, 13, 14, 15] rfl rfl rfl (fun H locs hP hD hS => ?_)
      refine lv_iconst (v := 4) hx hb dX6_crawls_27 rfl ?_
      refine lv_imul hx hb dX6_crawls_28 ?_
      obtain ⟨t9, et9, hf⟩ := lj_e hf
      refine lv_ren et9 ?_
      cases hf
      exact kri hQ hAe hx hb hr hlocks hP hD hK hS dX6_crawls_29
    refine lv_icmp_eq (tgt := 16) hx hb dX6_crawls_5 (by decide) (fun c10 => ?_) (fun c10 => ?_)
    · replace hf := if_te c10 hf
      exact Hj1 H locs ls hP hD hS (lv_sub hl [0, 1] rfl) hf
    · replace hf := if_fe c10 hf
      refine lv_aload_n hx hb dX6_crawls_8 rfl (lv_at hl 0 rfl) ?_
      refine va_get (D := D) (ci := 6) (v := .int m_actKind) (C := RX6) (T := TX6) (N := 28) hx hb hts hi_RX6 hown hK hP 0 rfl rfl 24 (by decide) (hts (.fieldLink RX6 311 "TravelMarksModel" "actKind" "I") (List.mem_of_getElem? (i := 1) rfl)) (fun _ h9 => h9) rfl dX6_crawls_9 ?_
      refine lv_iconst (v := 3) hx hb dX6_crawls_12 rfl ?_
      refine lv_icmp_ne (tgt := 30) hx hb dX6_crawls_13 (by decide) (fun c11 => ?_) (fun c11 => ?_)
      · replace hf := if_fe c11 hf
        refine lv_aload_n hx hb dX6_crawls_30 rfl (lv_at hl 0 rfl) ?_
        refine va_get (D := D) (ci := 6) (v := .int m_actKind) (C := RX6) (T := TX6) (N := 28) hx hb hts hi_RX6 hown hK hP 0 rfl rfl 24 (by decide) (hts (.fieldLink RX6 311 "TravelMarksModel" "actKind" "I") (List.mem_of_getElem? (i := 1) rfl)) (fun _ h9 => h9) rfl dX6_crawls_31 ?_
        refine lv_iconst (v := 4) hx hb dX6_crawls_34 rfl ?_
        refine lv_icmp_ne (tgt := 61) hx hb dX6_crawls_35 (by decide) (fun c12 => ?_) (fun c12 => ?_)
        · replace hf := if_fe c12 hf
          refine lv_aload_n hx hb dX6_crawls_61 rfl (lv_at hl 0 rfl) ?_
          refine lv_iload_n hx hb dX6_crawls_62 rfl (lv_at hl 1 rfl) ?_
          obtain ⟨r13, v14, v15, h16, hf⟩ := ob3_e hf
          refine kci (Wx := (oMM C e0 e1 e2 e3 e4 e5 e6 e7 e8 e9 e10 e11 e12 e13 e14 e15 m_s m_held m_aside m_before m_isHeld m_tape m_taped m_token m_from m_to m_value m_isWrong m_due m_firsts m_rows m_rowN m_sortOf m_sizeOf m_numbers m_holdsWhat m_holdsWhich m_holdsMany v14 v15 m_actKind m_actN m_actA m_isParted [])) (va_runV (As := [.int x0]) (rest := []) ⟨hx, hb, hml, hown, hts⟩ (c_X6_crawlsPlain l E D C e0 e1 e2 e3 e4 e5 e6 e7 e8 e9 e10 e11 e12 e13 e14 e15 H.size m_s m_held m_aside m_before m_isHeld m_tape m_taped m_token m_from m_to m_value m_isWrong m_due m_firsts m_rows m_rowN m_sortOf m_sizeOf m_numbers m_holdsWhat m_holdsWhich m_holdsMany m_bodies m_ran m_actKind m_actN m_actA m_isParted x0 r13 v14 v15 h16) (cwV 1 hts gX6_crawls_X6_crawlsPlain rfl rfl rfl hdX6_crawlsPlain ⟨Nat.le_of_ble_eq_true rfl, Nat.le_of_ble_eq_true rfl⟩) (kpreV hP hD hK hS hE hA [0, 1, 2, 3, 4, 5, 6, 7, 8, 9, 10, 11, 12, 13, 14, 15] rfl rfl 0 rfl rfl rfl) rfl rfl hl.1 rfl (lv_room (Nat.le_of_ble_eq_true rfl)) dX6_crawls_63 ⟨Nat.zero_le _, Nat.zero_le _⟩) hP hD hS hA [0, 1, 2, 3, 4, 5, 6, 7, 8, 9, 10, 11, 12, 13, 14, 15] rfl rfl rfl (fun H locs hP hD hS => ?_)
          cases hf
          exact kri hQ hAe hx hb hr hlocks hP hD hK hS dX6_crawls_66
        · replace hf := if_te c12 hf
          refine lv_aload_n hx hb dX6_crawls_38 rfl (lv_at hl 0 rfl) ?_
          refine lv_bipush (v := 41) hx hb dX6_crawls_39 rfl ?_
          obtain ⟨v17, v18, h19, hf⟩ := ob2_e hf
          refine kcv (Wx := (oMM C e0 e1 e2 e3 e4 e5 e6 e7 e8 e9 e10 e11 e12 e13 e14 e15 m_s m_held m_aside m_before m_isHeld m_tape m_taped m_token m_from m_to m_value m_isWrong m_due m_firsts m_rows m_rowN m_sortOf m_sizeOf m_numbers m_holdsWhat m_holdsWhich m_holdsMany v17 v18 m_actKind m_actN m_actA m_isParted [])) (va_runV (As := [.int 41]) (rest := []) ⟨hx, hb, hml, hown, hts⟩ (c_X6_runs l E D C e0 e1 e2 e3 e4 e5 e6 e7 e8 e9 e10 e11 e12 e13 e14 e15 H.size m_s m_held m_aside m_before m_isHeld m_tape m_taped m_token m_from m_to m_value m_isWrong m_due m_firsts m_rows m_rowN m_sortOf m_sizeOf m_numbers m_holdsWhat m_holdsWhich m_holdsMany m_bodies m_ran m_actKind m_actN m_actA m_isParted 41 v17 v18 h19) (cwV 1 hts gX6_crawls_X6_runs rfl rfl rfl hdX6_runs ⟨Nat.le_of_ble_eq_true rfl, Nat.le_of_ble_eq_true rfl⟩) (kpreV hP hD hK hS hE hA [0, 1, 2, 3, 4, 5, 6, 7, 8, 9, 10, 11, 12, 13, 14, 15] rfl rfl 0 rfl rfl rfl) rfl rfl hl.1 rfl (lv_room (Nat.le_of_ble_eq_true rfl)) dX6_crawls_41 ⟨Nat.zero_le _, Nat.zero_le _⟩) hP hD hS hA [0, 1, 2, 3, 4, 5, 6, 7, 8, 9, 10, 11, 12, 13, 14, 15] rfl rfl rfl (fun H locs hP hD hS => ?_)
          refine lv_aload_n hx hb dX6_crawls_44 rfl (lv_at hl 0 rfl) ?_
          refine lv_iload_n hx hb dX6_crawls_45 rfl (lv_at hl 1 rfl) ?_
          obtain ⟨r20, v21, v22, h23, hf⟩ := ob3_e hf
          refine kci (Wx := (oMM C e0 e1 e2 e3 e4 e5 e6 e7 e8 e9 e10 e11 e12 e13 e14 e15 m_s m_held m_aside m_before m_isHeld m_tape m_taped m_token m_from m_to m_value m_isWrong m_due m_firsts m_rows m_rowN m_sortOf m_sizeOf m_numbers m_holdsWhat m_holdsWhich m_holdsMany v21 v22 m_actKind m_actN m_actA m_isParted [])) (va_runV (As := [.int x0]) (rest := []) ⟨hx, hb, hml, hown, hts⟩ (c_X6_crawlsPlain l E D C e0 e1 e2 e3 e4 e5 e6 e7 e8 e9 e10 e11 e12 e13 e14 e15 H.size m_s m_held m_aside m_before m_isHeld m_tape m_taped m_token m_from m_to m_value m_isWrong m_due m_firsts m_rows m_rowN m_sortOf m_sizeOf m_numbers m_holdsWhat m_holdsWhich m_holdsMany v17 v18 m_actKind m_actN m_actA m_isParted x0 r20 v21 v22 h23) (cwV 1 hts gX6_crawls_X6_crawlsPlain rfl rfl rfl hdX6_crawlsPlain ⟨Nat.le_of_ble_eq_true rfl, Nat.le_of_ble_eq_true rfl⟩) (kpreV hP hD hK hS hE hA [0, 1, 2, 3, 4, 5, 6, 7, 8, 9, 10, 11, 12, 13, 14, 15] rfl rfl 0 rfl rfl rfl) rfl rfl hl.1 rfl (lv_room (Nat.le_of_ble_eq_true rfl)) dX6_crawls_46 ⟨Nat.zero_le _, Nat.zero_le _⟩) hP hD hS hA [0, 1, 2, 3, 4, 5, 6, 7, 8, 9, 10, 11, 12, 13, 14, 15] rfl rfl rfl (fun H locs hP hD hS => ?_)
          refine lv_istore_n (lv' := [(2, .int r20), (0, .ref e0), (1, .int x0)]) hx hb dX6_crawls_49 rfl hl (by decide) rfl (fun ls hl => ?_)
          refine lv_iload_n hx hb dX6_crawls_50 rfl (lv_at hl 0 rfl) ?_
          refine lv_aload_n hx hb dX6_crawls_51 rfl (lv_at hl 1 rfl) ?_
          refine lv_aload_n hx hb dX6_crawls_52 rfl (lv_at hl 1 rfl) ?_
          refine va_get (D := D) (ci := 6) (v := .int m_actA) (C := RX6) (T := TX6) (N := 28) hx hb hts hi_RX6 hown hK hP 0 rfl rfl 26 (by decide) (hts (.fieldLink RX6 317 "TravelMarksModel" "actA" "I") (List.mem_of_getElem? (i := 2) rfl)) (fun _ h9 => h9) rfl dX6_crawls_53 ?_
          obtain ⟨r24, v25, v26, h27, hf⟩ := ob3_e hf
          refine kci (Wx := (oMM C e0 e1 e2 e3 e4 e5 e6 e7 e8 e9 e10 e11 e12 e13 e14 e15 m_s m_held m_aside m_before m_isHeld m_tape m_taped m_token m_from m_to m_value m_isWrong m_due m_firsts m_rows m_rowN m_sortOf m_sizeOf m_numbers m_holdsWhat m_holdsWhich m_holdsMany v25 v26 m_actKind m_actN m_actA m_isParted [])) (va_runV (As := [.int m_actA]) (rest := [.int r20]) ⟨hx, hb, hml, hown, hts⟩ (c_X6_itches l E D C e0 e1 e2 e3 e4 e5 e6 e7 e8 e9 e10 e11 e12 e13 e14 e15 H.size m_s m_held m_aside m_before m_isHeld m_tape m_taped m_token m_from m_to m_value m_isWrong m_due m_firsts m_rows m_rowN m_sortOf m_sizeOf m_numbers m_holdsWhat m_holdsWhich m_holdsMany v21 v22 m_actKind m_actN m_actA m_isParted m_actA r24 v25 v26 h27) (cwV 1 hts gX6_crawls_X6_itches rfl rfl rfl hdX6_itches ⟨Nat.le_of_ble_eq_true rfl, Nat.le_of_ble_eq_true rfl⟩) (kpreV hP hD hK hS hE hA [0, 1, 2, 3, 4, 5, 6, 7, 8, 9, 10, 11, 12, 13, 14, 15] rfl rfl 0 rfl rfl rfl) rfl rfl hl.1 rfl (lv_room (Nat.le_of_ble_eq_true rfl)) dX6_crawls_56 ⟨Nat.zero_le _, Nat.zero_le _⟩) hP hD hS hA [0, 1, 2, 3, 4, 5, 6, 7, 8, 9, 10, 11, 12, 13, 14, 15] rfl rfl rfl (fun H locs hP hD hS => ?_)
          refine lv_iadd hx hb dX6_crawls_59 ?_
          obtain ⟨t28, et28, hf⟩ := lj_e hf
          refine lv_ren et28 ?_
          cases hf
          exact kri hQ hAe hx hb hr hlocks hP hD hK hS dX6_crawls_60
      · replace hf := if_te c11 hf
        exact Hj1 H locs ls hP hD hS (lv_sub hl [0, 1] rfl) hf
  exact main _ _ hP hD hS

def rmX6_partsPlain : Room := { frames := 1, cells := 0, slots := 0, locals := 21 }
theorem hdX6_partsPlain : yX6_partsPlain.cls = RX6 ∧ yX6_partsPlain.cls ≠ "java/lang/invoke/MethodHandle" ∧ yX6_partsPlain.cls ≠ "java/lang/invoke/VarHandle" ∧ (parseMethodDescriptor yX6_partsPlain.desc).map (fun d => d.parameters.length) = some 1 := by decide +kernel
set_option maxHeartbeats 40000000 in
set_option maxRecDepth 100000 in
theorem c_X6_partsPlain (l : Launch) (E : Nat → Nat) (D : va_G) (C : Nat → ClassId) (e0 e1 e2 e3 e4 e5 e6 e7 e8 e9 e10 e11 e12 e13 e14 e15 : Nat) (sz : Nat) (m_s : Nat → Int32) (m_held : Nat → Int32) (m_aside : Nat → Int32) (m_before : Nat → Int32) (m_isHeld : Int32) (m_tape : Nat → Int32) (m_taped : Int32) (m_token : Int32) (m_from : Int32) (m_to : Int32) (m_value : Int32) (m_isWrong : Int32) (m_due : Nat → Int32) (m_firsts : Nat → Int32) (m_rows : Nat → Int32) (m_rowN : Int32) (m_sortOf : Nat → Int32) (m_sizeOf : Nat → Int32) (m_numbers : Nat → Int32) (m_holdsWhat : Nat → Int32) (m_holdsWhich : Nat → Int32) (m_holdsMany : Nat → Int32) (m_bodies : Nat → Int32) (m_ran : Int32) (m_actKind : Int32) (m_actN : Int32) (m_actA : Int32) (m_isParted : Int32) (x0 : Int32) (r : Int32) (m_bodies' : Nat → Int32) (m_ran' : Int32) (m_isParted' : Int32) (hf : f_X6_partsPlain m_bodies m_ran m_actN m_actA m_isParted x0 = some (r, m_bodies', m_ran', m_isParted')) : Met l yX6_partsPlain wsX6_partsPlain rmX6_partsPlain (PC E D C [.ref e0, .int x0] (oMM C e0 e1 e2 e3 e4 e5 e6 e7 e8 e9 e10 e11 e12 e13 e14 e15 m_s m_held m_aside m_before m_isHeld m_tape m_taped m_token m_from m_to m_value m_isWrong m_due m_firsts m_rows m_rowN m_sortOf m_sizeOf m_numbers m_holdsWhat m_holdsWhich m_holdsMany m_bodies m_ran m_actKind m_actN m_actA m_isParted []) sz) (QI D C (oMM C e0 e1 e2 e3 e4 e5 e6 e7 e8 e9 e10 e11 e12 e13 e14 e15 m_s m_held m_aside m_before m_isHeld m_tape m_taped m_token m_from m_to m_value m_isWrong m_due m_firsts m_rows m_rowN m_sortOf m_sizeOf m_numbers m_holdsWhat m_holdsWhich m_holdsMany m_bodies m_ran m_actKind m_actN m_actA m_isParted []) (oMM C e0 e1 e2 e3 e4 e5 e6 e7 e8 e9 e10 e11 e12 e13 e14 e15 m_s m_held m_aside m_before m_isHeld m_tape m_taped m_token m_from m_to m_value m_isWrong m_due m_firsts m_rows m_rowN m_sortOf m_sizeOf m_numbers m_holdsWhat m_holdsWhich m_holdsMany (m_bodies') (m_ran') m_actKind m_actN m_actA (m_isParted') []) sz r) 0 0 (va_A (oMM C e0 e1 e2 e3 e4 e5 e6 e7 e8 e9 e10 e11 e12 e13 e14 e15 m_s m_held m_aside m_before m_isHeld m_tape m_taped m_token m_from m_to m_value m_isWrong m_due m_firsts m_rows m_rowN m_sortOf m_sizeOf m_numbers m_holdsWhat m_holdsWhich m_holdsMany m_bodies m_ran m_actKind m_actN m_actA m_isParted []) sz) := by
  refine Met.ofW (cc := cX6_partsPlain) (maxL := 2) (ret := (some .int)) (by decide) rfl ?_
  intro p e s m args below meth c s₁ B hml hv
  obtain ⟨rfl, hsz, hP, hK, hD0, hE⟩ := hv
  have hx := B.exec
  have hb := B.bytes
  have hr := B.returns
  have hts := atoms_spec (ws := wsX6_partsPlain) B.pre
  have hown : s.vm.findClass RX6 = some m.cls := findClass_of_methodNamed B.named
  have hlocks := B.notSynchronized
  subst hsz
  have hi_RX6 : ∀ w ∈ wsX60, w ∈ wsX6_partsPlain := fun _ h => List.mem_cons_of_mem _ (List.mem_append_right _ h)
  have hD := hD0.self (sz := s.heap.size)
  obtain ⟨A, hAe⟩ := nm_ex (va_A (oMM C e0 e1 e2 e3 e4 e5 e6 e7 e8 e9 e10 e11 e12 e13 e14 e15 m_s m_held m_aside m_before m_isHeld m_tape m_taped m_token m_from m_to m_value m_isWrong m_due m_firsts m_rows m_rowN m_sortOf m_sizeOf m_numbers m_holdsWhat m_holdsWhich m_holdsMany m_bodies m_ran m_actKind m_actN m_actA m_isParted []) s.heap.size)
  rw [← hAe] at hD hE ⊢
  have hA : ∀ q : Nat, s.heap.size ≤ q → A q := fun q h => by rw [hAe]; exact Or.inr h
  have hS : va_S A s.heap s.heap [] := va_S.rf
  have hl := lv_entry ([.ref e0, .int x0]) (n := 2) (Nat.le_of_ble_eq_true rfl)
  rw [lg_entry_eq]
  generalize (lg_sl ([.ref e0, .int x0]) ++ List.replicate (2 - (lg_sl ([.ref e0, .int x0])).length) Slot.unset).toArray = ls at hl ⊢
  have hl : lv_has ls 2 [(0, .ref e0), (1, .int x0)] := hl
  obtain ⟨Q, hQ⟩ := nm_ex (MQ below (QI D C (oMM C e0 e1 e2 e3 e4 e5 e6 e7 e8 e9 e10 e11 e12 e13 e14 e15 m_s m_held m_aside m_before m_isHeld m_tape m_taped m_token m_from m_to m_value m_isWrong m_due m_firsts m_rows m_rowN m_sortOf m_sizeOf m_numbers m_holdsWhat m_holdsWhich m_holdsMany m_bodies m_ran m_actKind m_actN m_actA m_isParted []) (oMM C e0 e1 e2 e3 e4 e5 e6 e7 e8 e9 e10 e11 e12 e13 e14 e15 m_s m_held m_aside m_before m_isHeld m_tape m_taped m_token m_from m_to m_value m_isWrong m_due m_firsts m_rows m_rowN m_sortOf m_sizeOf m_numbers m_holdsWhat m_holdsWhich m_holdsMany (m_bodies') (m_ran') m_actKind m_actN m_actA (m_isParted') []) s.heap.size r) (List.toArray [Value.ref e0, Value.int x0]) s 0 0 A)
  show W p l e (headSpec wsX6_partsPlain (rmX6_partsPlain)).room s m (List.toArray [Value.ref e0, Value.int x0]) below meth c s.heap [] 0 0 (MQ below (QI D C (oMM C e0 e1 e2 e3 e4 e5 e6 e7 e8 e9 e10 e11 e12 e13 e14 e15 m_s m_held m_aside m_before m_isHeld m_tape m_taped m_token m_from m_to m_value m_isWrong m_due m_firsts m_rows m_rowN m_sortOf m_sizeOf m_numbers m_holdsWhat m_holdsWhich m_holdsMany m_bodies m_ran m_actKind m_actN m_actA m_isParted []) (oMM C e0 e1 e2 e3 e4 e5 e6 e7 e8 e9 e10 e11 e12 e13 e14 e15 m_s m_held m_aside m_before m_isHeld m_tape m_taped m_token m_from m_to m_value m_isWrong m_due m_firsts m_rows m_rowN m_sortOf m_sizeOf m_numbers m_holdsWhat m_holdsWhich m_holdsMany (m_bodies') (m_ran') m_actKind m_actN m_actA (m_isParted') []) s.heap.size r) (List.toArray [Value.ref e0, Value.int x0]) s 0 0 A) _
  rw [← hQ]
  unfold f_X6_partsPlain at hf
  have main : ∀ (H : Heap) (locs : List Loc), va_P D vwCl (oMM C e0 e1 e2 e3 e4 e5 e6 e7 e8 e9 e10 e11 e12 e13 e14 e15 m_s m_held m_aside m_before m_isHeld m_tape m_taped m_token m_from m_to m_value m_isWrong m_due m_firsts m_rows m_rowN m_sortOf m_sizeOf m_numbers m_holdsWhat m_holdsWhich m_holdsMany m_bodies m_ran m_actKind m_actN m_actA m_isParted []) H → va_D A (oMM C e0 e1 e2 e3 e4 e5 e6 e7 e8 e9 e10 e11 e12 e13 e14 e15 m_s m_held m_aside m_before m_isHeld m_tape m_taped m_token m_from m_to m_value m_isWrong m_due m_firsts m_rows m_rowN m_sortOf m_sizeOf m_numbers m_holdsWhat m_holdsWhich m_holdsMany m_bodies m_ran m_actKind m_actN m_actA m_isParted []) → va_S A s.heap H locs → W p l e (headSpec wsX6_partsPlain (rmX6_partsPlain)).room s m (List.toArray [Value.ref e0, Value.int x0]) below meth c H locs 0 0 Q (F0 m 0 ls []) := by
    intro H locs hP hD hS
    refine lv_aload_n hx hb dX6_partsPlain_0 rfl (lv_at hl 0 rfl) ?_
    refine lv_bipush (v := 12) hx hb dX6_partsPlain_1 rfl ?_
    obtain ⟨v1, v2, h3, hf⟩ := ob2_e hf
    refine kcv (Wx := (oMM C e0 e1 e2 e3 e4 e5 e6 e7 e8 e9 e10 e11 e12 e13 e14 e15 m_s m_held m_aside m_before m_isHeld m_tape m_taped m_token m_from m_to m_value m_isWrong m_due m_firsts m_rows m_rowN m_sortOf m_sizeOf m_numbers m_holdsWhat m_holdsWhich m_holdsMany v1 v2 m_actKind m_actN m_actA m_isParted [])) (va_runV (As := [.int 12]) (rest := []) ⟨hx, hb, hml, hown, hts⟩ (c_X6_runs l E D C e0 e1 e2 e3 e4 e5 e6 e7 e8 e9 e10 e11 e12 e13 e14 e15 H.size m_s m_held m_aside m_before m_isHeld m_tape m_taped m_token m_from m_to m_value m_isWrong m_due m_firsts m_rows m_rowN m_sortOf m_sizeOf m_numbers m_holdsWhat m_holdsWhich m_holdsMany m_bodies m_ran m_actKind m_actN m_actA m_isParted 12 v1 v2 h3) (cwV 1 hts gX6_partsPlain_X6_runs rfl rfl rfl hdX6_runs ⟨Nat.le_of_ble_eq_true rfl, Nat.le_of_ble_eq_true rfl⟩) (kpreV hP hD hK hS hE hA [0, 1, 2, 3, 4, 5, 6, 7, 8, 9, 10, 11, 12, 13, 14, 15] rfl rfl 0 rfl rfl rfl) rfl rfl hl.1 rfl (lv_room (Nat.le_of_ble_eq_true rfl)) dX6_partsPlain_3 ⟨Nat.zero_le _, Nat.zero_le _⟩) hP hD hS hA [0, 1, 2, 3, 4, 5, 6, 7, 8, 9, 10, 11, 12, 13, 14, 15] rfl rfl rfl (fun H locs hP hD hS => ?_)
    refine lv_aload_n hx hb dX6_partsPlain_6 rfl (lv_at hl 0 rfl) ?_
    refine lv_aload_n hx hb dX6_partsPlain_7 rfl (lv_at hl 0 rfl) ?_
    refine va_get (D := D) (ci := 6) (v := .int m_isParted) (C := RX6) (T := TX6) (N := 28) hx hb hts hi_RX6 hown hK hP 0 rfl rfl 27 (by decide) (hts (.fieldLink RX6 326 "TravelMarksModel" "isParted" "Z") (List.mem_of_getElem? (i := 1) rfl)) (fun _ h9 => h9) rfl dX6_partsPlain_8 ?_
    obtain ⟨j5, hj5, hf⟩ := lj_e hf
    have Hj5 : ∀ (k4 : Int32) (H : Heap) (locs : List Loc) (ls : Array Slot), va_P D vwCl (oMM C e0 e1 e2 e3 e4 e5 e6 e7 e8 e9 e10 e11 e12 e13 e14 e15 m_s m_held m_aside m_before m_isHeld m_tape m_taped m_token m_from m_to m_value m_isWrong m_due m_firsts m_rows m_rowN m_sortOf m_sizeOf m_numbers m_holdsWhat m_holdsWhich m_holdsMany v1 v2 m_actKind m_actN m_actA m_isParted []) H → va_D A (oMM C e0 e1 e2 e3 e4 e5 e6 e7 e8 e9 e10 e11 e12 e13 e14 e15 m_s m_held m_aside m_before m_isHeld m_tape m_taped m_token m_from m_to m_value m_isWrong m_due m_firsts m_rows m_rowN m_sortOf m_sizeOf m_numbers m_holdsWhat m_holdsWhich m_holdsMany v1 v2 m_actKind m_actN m_actA m_isParted []) → va_S A s.heap H locs → lv_has ls 2 [(0, .ref e0), (1, .int x0)] → j5 k4 = some (r, m_bodies', m_ran', m_isParted') → W p l e (headSpec wsX6_partsPlain (rmX6_partsPlain)).room s m (List.toArray [Value.ref e0, Value.int x0]) below meth c H locs 0 0 Q (F0 m 30 ls [.int k4, .ref e0]) := by
      intro k4 H locs ls hP hD hS hl hf
      rw [hj5] at hf
      obtain ⟨hz6, hf⟩ := gdP_e hf
      refine va_put (D := D) (ci := 6) (v := .int k4) (ty := .boolean) (C := RX6) (T := TX6) (N := 28) hx hb hts hi_RX6 tyX6 tyX6_ok nmX6 hown hK hP hD hS 0 rfl rfl 27 (by decide) (hts (.fieldLink RX6 326 "TravelMarksModel" "isParted" "Z") (List.mem_of_getElem? (i := 1) rfl)) (fun _ h9 => h9) rfl (tyX6_ok 27 (by decide)) (zb_of hz6).1 (zb_of hz6).2 (Nat.le_of_ble_eq_true rfl) dX6_partsPlain_30 (fun H locs hP hD hS => ?_)
      have hP : va_P D vwCl (oMM C e0 e1 e2 e3 e4 e5 e6 e7 e8 e9 e10 e11 e12 e13 e14 e15 m_s m_held m_aside m_before m_isHeld m_tape m_taped m_token m_from m_to m_value m_isWrong m_due m_firsts m_rows m_rowN m_sortOf m_sizeOf m_numbers m_holdsWhat m_holdsWhich m_holdsMany v1 v2 m_actKind m_actN m_actA k4 []) H := hP
      have hD : va_D A (oMM C e0 e1 e2 e3 e4 e5 e6 e7 e8 e9 e10 e11 e12 e13 e14 e15 m_s m_held m_aside m_before m_isHeld m_tape m_taped m_token m_from m_to m_value m_isWrong m_due m_firsts m_rows m_rowN m_sortOf m_sizeOf m_numbers m_holdsWhat m_holdsWhich m_holdsMany v1 v2 m_actKind m_actN m_actA k4 []) := hD
      refine lv_aload_n hx hb dX6_partsPlain_33 rfl (lv_at hl 0 rfl) ?_
      refine va_get (D := D) (ci := 6) (v := .int k4) (C := RX6) (T := TX6) (N := 28) hx hb hts hi_RX6 hown hK hP 0 rfl rfl 27 (by decide) (hts (.fieldLink RX6 326 "TravelMarksModel" "isParted" "Z") (List.mem_of_getElem? (i := 1) rfl)) (fun _ h9 => h9) rfl dX6_partsPlain_34 ?_
      refine lv_if_eq (tgt := 44) hx hb dX6_partsPlain_37 (by decide) (fun c7 => ?_) (fun c7 => ?_)
      · replace hf := if_te c7 hf
        refine lv_iload_n hx hb dX6_partsPlain_44 rfl (lv_at hl 1 rfl) ?_
        refine lv_aload_n hx hb dX6_partsPlain_45 rfl (lv_at hl 0 rfl) ?_
        refine va_get (D := D) (ci := 6) (v := .int m_actA) (C := RX6) (T := TX6) (N := 28) hx hb hts hi_RX6 hown hK hP 0 rfl rfl 26 (by decide) (hts (.fieldLink RX6 317 "TravelMarksModel" "actA" "I") (List.mem_of_getElem? (i := 3) rfl)) (fun _ h9 => h9) rfl dX6_partsPlain_46 ?_
        refine lv_aload_n hx hb dX6_partsPlain_49 rfl (lv_at hl 0 rfl) ?_
        refine va_get (D := D) (ci := 6) (v := .int m_actN) (C := RX6) (T := TX6) (N := 28) hx hb hts hi_RX6 hown hK hP 0 rfl rfl 25 (by decide) (hts (.fieldLink RX6 305 "TravelMarksModel" "actN" "I") (List.mem_of_getElem? (i := 2) rfl)) (fun _ h9 => h9) rfl dX6_partsPlain_50 ?_
        refine lv_isub hx hb dX6_partsPlain_53 ?_
        obtain ⟨hz8, hf⟩ := gdP_e hf
        refine lv_idiv hx hb dX6_partsPlain_54 hz8 ?_
        obtain ⟨t9, et9, hf⟩ := lj_e hf
        refine lv_ren et9 ?_
        cases hf
        exact kri hQ hAe hx hb hr hlocks hP hD hK hS dX6_partsPlain_55
      · replace hf := if_fe c7 hf
        refine lv_iconst (v := 0) hx hb dX6_partsPlain_40 rfl ?_
        refine lv_goto (tgt := 55) hx hb dX6_partsPlain_41 (by decide) ?_
        cases hf
        exact kri hQ hAe hx hb hr hlocks hP hD hK hS dX6_partsPlain_55
    obtain ⟨j10, hj10, hf⟩ := lj_e hf
    have Hj10 : ∀ (H : Heap) (locs : List Loc) (ls : Array Slot), va_P D vwCl (oMM C e0 e1 e2 e3 e4 e5 e6 e7 e8 e9 e10 e11 e12 e13 e14 e15 m_s m_held m_aside m_before m_isHeld m_tape m_taped m_token m_from m_to m_value m_isWrong m_due m_firsts m_rows m_rowN m_sortOf m_sizeOf m_numbers m_holdsWhat m_holdsWhich m_holdsMany v1 v2 m_actKind m_actN m_actA m_isParted []) H → va_D A (oMM C e0 e1 e2 e3 e4 e5 e6 e7 e8 e9 e10 e11 e12 e13 e14 e15 m_s m_held m_aside m_before m_isHeld m_tape m_taped m_token m_from m_to m_value m_isWrong m_due m_firsts m_rows m_rowN m_sortOf m_sizeOf m_numbers m_holdsWhat m_holdsWhich m_holdsMany v1 v2 m_actKind m_actN m_actA m_isParted []) → va_S A s.heap H locs → lv_has ls 2 [(0, .ref e0), (1, .int x0)] → j10 = some (r, m_bodies', m_ran', m_isParted') → W p l e (headSpec wsX6_partsPlain (rmX6_partsPlain)).room s m (List.toArray [Value.ref e0, Value.int x0]) below meth c H locs 0 0 Q (F0 m 25 ls [.ref e0]) := by
      intro H locs ls hP hD hS hl hf
      rw [hj10] at hf
      refine lv_iconst (v := 1) hx hb dX6_partsPlain_25 rfl ?_
      refine lv_goto (tgt := 30) hx hb dX6_partsPlain_26 (by decide) ?_
      exact Hj5 1 H locs ls hP hD hS (lv_sub hl [0, 1] rfl) hf
    refine lv_if_ne (tgt := 25) hx hb dX6_partsPlain_11 (by decide) (fun c11 => ?_) (fun c11 => ?_)
    · replace hf := if_fe c11 hf
      exact Hj10 H locs ls hP hD hS (lv_sub hl [0, 1] rfl) hf
    · replace hf := if_te c11 hf
      refine lv_aload_n hx hb dX6_partsPlain_14 rfl (lv_at hl 0 rfl) ?_
      refine va_get (D := D) (ci := 6) (v := .int m_actN) (C := RX6) (T := TX6) (N := 28) hx hb hts hi_RX6 hown hK hP 0 rfl rfl 25 (by decide) (hts (.fieldLink RX6 305 "TravelMarksModel" "actN" "I") (List.mem_of_getElem? (i := 2) rfl)) (fun _ h9 => h9) rfl dX6_partsPlain_15 ?_
      refine lv_aload_n hx hb dX6_partsPlain_18 rfl (lv_at hl 0 rfl) ?_
      refine va_get (D := D) (ci := 6) (v := .int m_actA) (C := RX6) (T := TX6) (N := 28) hx hb hts hi_RX6 hown hK hP 0 rfl rfl 26 (by decide) (hts (.fieldLink RX6 317 "TravelMarksModel" "actA" "I") (List.mem_of_getElem? (i := 3) rfl)) (fun _ h9 => h9) rfl dX6_partsPlain_19 ?_
      refine lv_icmp_ne (tgt := 29) hx hb dX6_partsPlain_22 (by decide) (fun c12 => ?_) (fun c12 => ?_)
      · replace hf := if_fe c12 hf
        refine lv_iconst (v := 0) hx hb dX6_partsPlain_29 rfl ?_
        exact Hj5 0 H locs ls hP hD hS (lv_sub hl [0, 1] rfl) hf
      · replace hf := if_te c12 hf
        exact Hj10 H locs ls hP hD hS (lv_sub hl [0, 1] rfl) hf
  exact main _ _ hP hD hS

def rmX6_parts : Room := { frames := 4, cells := 0, slots := 0, locals := 84 }
theorem hdX6_parts : yX6_parts.cls = RX6 ∧ yX6_parts.cls ≠ "java/lang/invoke/MethodHandle" ∧ yX6_parts.cls ≠ "java/lang/invoke/VarHandle" ∧ (parseMethodDescriptor yX6_parts.desc).map (fun d => d.parameters.length) = some 1 := by decide +kernel
set_option maxHeartbeats 40000000 in
set_option maxRecDepth 100000 in
theorem c_X6_parts (l : Launch) (E : Nat → Nat) (D : va_G) (C : Nat → ClassId) (e0 e1 e2 e3 e4 e5 e6 e7 e8 e9 e10 e11 e12 e13 e14 e15 : Nat) (sz : Nat) (m_s : Nat → Int32) (m_held : Nat → Int32) (m_aside : Nat → Int32) (m_before : Nat → Int32) (m_isHeld : Int32) (m_tape : Nat → Int32) (m_taped : Int32) (m_token : Int32) (m_from : Int32) (m_to : Int32) (m_value : Int32) (m_isWrong : Int32) (m_due : Nat → Int32) (m_firsts : Nat → Int32) (m_rows : Nat → Int32) (m_rowN : Int32) (m_sortOf : Nat → Int32) (m_sizeOf : Nat → Int32) (m_numbers : Nat → Int32) (m_holdsWhat : Nat → Int32) (m_holdsWhich : Nat → Int32) (m_holdsMany : Nat → Int32) (m_bodies : Nat → Int32) (m_ran : Int32) (m_actKind : Int32) (m_actN : Int32) (m_actA : Int32) (m_isParted : Int32) (x0 : Int32) (r : Int32) (m_bodies' : Nat → Int32) (m_ran' : Int32) (m_isParted' : Int32) (hf : f_X6_parts m_bodies m_ran m_actKind m_actN m_actA m_isParted x0 = some (r, m_bodies', m_ran', m_isParted')) : Met l yX6_parts wsX6_parts rmX6_parts (PC E D C [.ref e0, .int x0] (oMM C e0 e1 e2 e3 e4 e5 e6 e7 e8 e9 e10 e11 e12 e13 e14 e15 m_s m_held m_aside m_before m_isHeld m_tape m_taped m_token m_from m_to m_value m_isWrong m_due m_firsts m_rows m_rowN m_sortOf m_sizeOf m_numbers m_holdsWhat m_holdsWhich m_holdsMany m_bodies m_ran m_actKind m_actN m_actA m_isParted []) sz) (QI D C (oMM C e0 e1 e2 e3 e4 e5 e6 e7 e8 e9 e10 e11 e12 e13 e14 e15 m_s m_held m_aside m_before m_isHeld m_tape m_taped m_token m_from m_to m_value m_isWrong m_due m_firsts m_rows m_rowN m_sortOf m_sizeOf m_numbers m_holdsWhat m_holdsWhich m_holdsMany m_bodies m_ran m_actKind m_actN m_actA m_isParted []) (oMM C e0 e1 e2 e3 e4 e5 e6 e7 e8 e9 e10 e11 e12 e13 e14 e15 m_s m_held m_aside m_before m_isHeld m_tape m_taped m_token m_from m_to m_value m_isWrong m_due m_firsts m_rows m_rowN m_sortOf m_sizeOf m_numbers m_holdsWhat m_holdsWhich m_holdsMany (m_bodies') (m_ran') m_actKind m_actN m_actA (m_isParted') []) sz r) 0 0 (va_A (oMM C e0 e1 e2 e3 e4 e5 e6 e7 e8 e9 e10 e11 e12 e13 e14 e15 m_s m_held m_aside m_before m_isHeld m_tape m_taped m_token m_from m_to m_value m_isWrong m_due m_firsts m_rows m_rowN m_sortOf m_sizeOf m_numbers m_holdsWhat m_holdsWhich m_holdsMany m_bodies m_ran m_actKind m_actN m_actA m_isParted []) sz) := by
  refine Met.ofW (cc := cX6_parts) (maxL := 3) (ret := (some .int)) (by decide) rfl ?_
  intro p e s m args below meth c s₁ B hml hv
  obtain ⟨rfl, hsz, hP, hK, hD0, hE⟩ := hv
  have hx := B.exec
  have hb := B.bytes
  have hr := B.returns
  have hts := atoms_spec (ws := wsX6_parts) B.pre
  have hown : s.vm.findClass RX6 = some m.cls := findClass_of_methodNamed B.named
  have hlocks := B.notSynchronized
  subst hsz
  have hi_RX6 : ∀ w ∈ wsX60, w ∈ wsX6_parts := fun _ h => List.mem_cons_of_mem _ (List.mem_append_right _ h)
  have hD := hD0.self (sz := s.heap.size)
  obtain ⟨A, hAe⟩ := nm_ex (va_A (oMM C e0 e1 e2 e3 e4 e5 e6 e7 e8 e9 e10 e11 e12 e13 e14 e15 m_s m_held m_aside m_before m_isHeld m_tape m_taped m_token m_from m_to m_value m_isWrong m_due m_firsts m_rows m_rowN m_sortOf m_sizeOf m_numbers m_holdsWhat m_holdsWhich m_holdsMany m_bodies m_ran m_actKind m_actN m_actA m_isParted []) s.heap.size)
  rw [← hAe] at hD hE ⊢
  have hA : ∀ q : Nat, s.heap.size ≤ q → A q := fun q h => by rw [hAe]; exact Or.inr h
  have hS : va_S A s.heap s.heap [] := va_S.rf
  have hl := lv_entry ([.ref e0, .int x0]) (n := 3) (Nat.le_of_ble_eq_true rfl)
  rw [lg_entry_eq]
  generalize (lg_sl ([.ref e0, .int x0]) ++ List.replicate (3 - (lg_sl ([.ref e0, .int x0])).length) Slot.unset).toArray = ls at hl ⊢
  have hl : lv_has ls 3 [(0, .ref e0), (1, .int x0)] := hl
  obtain ⟨Q, hQ⟩ := nm_ex (MQ below (QI D C (oMM C e0 e1 e2 e3 e4 e5 e6 e7 e8 e9 e10 e11 e12 e13 e14 e15 m_s m_held m_aside m_before m_isHeld m_tape m_taped m_token m_from m_to m_value m_isWrong m_due m_firsts m_rows m_rowN m_sortOf m_sizeOf m_numbers m_holdsWhat m_holdsWhich m_holdsMany m_bodies m_ran m_actKind m_actN m_actA m_isParted []) (oMM C e0 e1 e2 e3 e4 e5 e6 e7 e8 e9 e10 e11 e12 e13 e14 e15 m_s m_held m_aside m_before m_isHeld m_tape m_taped m_token m_from m_to m_value m_isWrong m_due m_firsts m_rows m_rowN m_sortOf m_sizeOf m_numbers m_holdsWhat m_holdsWhich m_holdsMany (m_bodies') (m_ran') m_actKind m_actN m_actA (m_isParted') []) s.heap.size r) (List.toArray [Value.ref e0, Value.int x0]) s 0 0 A)
  show W p l e (headSpec wsX6_parts (rmX6_parts)).room s m (List.toArray [Value.ref e0, Value.int x0]) below meth c s.heap [] 0 0 (MQ below (QI D C (oMM C e0 e1 e2 e3 e4 e5 e6 e7 e8 e9 e10 e11 e12 e13 e14 e15 m_s m_held m_aside m_before m_isHeld m_tape m_taped m_token m_from m_to m_value m_isWrong m_due m_firsts m_rows m_rowN m_sortOf m_sizeOf m_numbers m_holdsWhat m_holdsWhich m_holdsMany m_bodies m_ran m_actKind m_actN m_actA m_isParted []) (oMM C e0 e1 e2 e3 e4 e5 e6 e7 e8 e9 e10 e11 e12 e13 e14 e15 m_s m_held m_aside m_before m_isHeld m_tape m_taped m_token m_from m_to m_value m_isWrong m_due m_firsts m_rows m_rowN m_sortOf m_sizeOf m_numbers m_holdsWhat m_holdsWhich m_holdsMany (m_bodies') (m_ran') m_actKind m_actN m_actA (m_isParted') []) s.heap.size r) (List.toArray [Value.ref e0, Value.int x0]) s 0 0 A) _
  rw [← hQ]
  unfold f_X6_parts at hf
  have main : ∀ (H : Heap) (locs : List Loc), va_P D vwCl (oMM C e0 e1 e2 e3 e4 e5 e6 e7 e8 e9 e10 e11 e12 e13 e14 e15 m_s m_held m_aside m_before m_isHeld m_tape m_taped m_token m_from m_to m_value m_isWrong m_due m_firsts m_rows m_rowN m_sortOf m_sizeOf m_numbers m_holdsWhat m_holdsWhich m_holdsMany m_bodies m_ran m_actKind m_actN m_actA m_isParted []) H → va_D A (oMM C e0 e1 e2 e3 e4 e5 e6 e7 e8 e9 e10 e11 e12 e13 e14 e15 m_s m_held m_aside m_before m_isHeld m_tape m_taped m_token m_from m_to m_value m_isWrong m_due m_firsts m_rows m_rowN m_sortOf m_sizeOf m_numbers m_holdsWhat m_holdsWhich m_holdsMany m_bodies m_ran m_actKind m_actN m_actA m_isParted []) → va_S A s.heap H locs → W p l e (headSpec wsX6_parts (rmX6_parts)).room s m (List.toArray [Value.ref e0, Value.int x0]) below meth c H locs 0 0 Q (F0 m 0 ls []) := by
    intro H locs hP hD hS
    refine lv_aload_n hx hb dX6_parts_0 rfl (lv_at hl 0 rfl) ?_
    refine va_get (D := D) (ci := 6) (v := .int m_actKind) (C := RX6) (T := TX6) (N := 28) hx hb hts hi_RX6 hown hK hP 0 rfl rfl 24 (by decide) (hts (.fieldLink RX6 311 "TravelMarksModel" "actKind" "I") (List.mem_of_getElem? (i := 1) rfl)) (fun _ h9 => h9) rfl dX6_parts_1 ?_
    refine lv_iconst (v := 3) hx hb dX6_parts_4 rfl ?_
    refine lv_icmp_ne (tgt := 24) hx hb dX6_parts_5 (by decide) (fun c1 => ?_) (fun c1 => ?_)
    · replace hf := if_fe c1 hf
      refine lv_aload_n hx hb dX6_parts_24 rfl (lv_at hl 0 rfl) ?_
      refine va_get (D := D) (ci := 6) (v := .int m_actKind) (C := RX6) (T := TX6) (N := 28) hx hb hts hi_RX6 hown hK hP 0 rfl rfl 24 (by decide) (hts (.fieldLink RX6 311 "TravelMarksModel" "actKind" "I") (List.mem_of_getElem? (i := 1) rfl)) (fun _ h9 => h9) rfl dX6_parts_25 ?_
      refine lv_iconst (v := 5) hx hb dX6_parts_28 rfl ?_
      refine lv_icmp_ne (tgt := 66) hx hb dX6_parts_29 (by decide) (fun c2 => ?_) (fun c2 => ?_)
      · replace hf := if_fe c2 hf
        refine lv_aload_n hx hb dX6_parts_66 rfl (lv_at hl 0 rfl) ?_
        refine lv_iload_n hx hb dX6_parts_67 rfl (lv_at hl 1 rfl) ?_
        obtain ⟨r3, v4, v5, v6, h7, hf⟩ := ob4_e hf
        refine kci (Wx := (oMM C e0 e1 e2 e3 e4 e5 e6 e7 e8 e9 e10 e11 e12 e13 e14 e15 m_s m_held m_aside m_before m_isHeld m_tape m_taped m_token m_from m_to m_value m_isWrong m_due m_firsts m_rows m_rowN m_sortOf m_sizeOf m_numbers m_holdsWhat m_holdsWhich m_holdsMany v4 v5 m_actKind m_actN m_actA v6 [])) (va_runV (As := [.int x0]) (rest := []) ⟨hx, hb, hml, hown, hts⟩ (c_X6_partsPlain l E D C e0 e1 e2 e3 e4 e5 e6 e7 e8 e9 e10 e11 e12 e13 e14 e15 H.size m_s m_held m_aside m_before m_isHeld m_tape m_taped m_token m_from m_to m_value m_isWrong m_due m_firsts m_rows m_rowN m_sortOf m_sizeOf m_numbers m_holdsWhat m_holdsWhich m_holdsMany m_bodies m_ran m_actKind m_actN m_actA m_isParted x0 r3 v4 v5 v6 h7) (cwV 1 hts gX6_parts_X6_partsPlain rfl rfl rfl hdX6_partsPlain ⟨Nat.le_of_ble_eq_true rfl, Nat.le_of_ble_eq_true rfl⟩) (kpreV hP hD hK hS hE hA [0, 1, 2, 3, 4, 5, 6, 7, 8, 9, 10, 11, 12, 13, 14, 15] rfl rfl 0 rfl rfl rfl) rfl rfl hl.1 rfl (lv_room (Nat.le_of_ble_eq_true rfl)) dX6_parts_68 ⟨Nat.zero_le _, Nat.zero_le _⟩) hP hD hS hA [0, 1, 2, 3, 4, 5, 6, 7, 8, 9, 10, 11, 12, 13, 14, 15] rfl rfl rfl (fun H locs hP hD hS => ?_)
        cases hf
        exact kri hQ hAe hx hb hr hlocks hP hD hK hS dX6_parts_71
      · replace hf := if_te c2 hf
        refine lv_aload_n hx hb dX6_parts_32 rfl (lv_at hl 0 rfl) ?_
        refine lv_bipush (v := 61) hx hb dX6_parts_33 rfl ?_
        obtain ⟨v8, v9, h10, hf⟩ := ob2_e hf
        refine kcv (Wx := (oMM C e0 e1 e2 e3 e4 e5 e6 e7 e8 e9 e10 e11 e12 e13 e14 e15 m_s m_held m_aside m_before m_isHeld m_tape m_taped m_token m_from m_to m_value m_isWrong m_due m_firsts m_rows m_rowN m_sortOf m_sizeOf m_numbers m_holdsWhat m_holdsWhich m_holdsMany v8 v9 m_actKind m_actN m_actA m_isParted [])) (va_runV (As := [.int 61]) (rest := []) ⟨hx, hb, hml, hown, hts⟩ (c_X6_runs l E D C e0 e1 e2 e3 e4 e5 e6 e7 e8 e9 e10 e11 e12 e13 e14 e15 H.size m_s m_held m_aside m_before m_isHeld m_tape m_taped m_token m_from m_to m_value m_isWrong m_due m_firsts m_rows m_rowN m_sortOf m_sizeOf m_numbers m_holdsWhat m_holdsWhich m_holdsMany m_bodies m_ran m_actKind m_actN m_actA m_isParted 61 v8 v9 h10) (cwV 1 hts gX6_parts_X6_runs rfl rfl rfl hdX6_runs ⟨Nat.le_of_ble_eq_true rfl, Nat.le_of_ble_eq_true rfl⟩) (kpreV hP hD hK hS hE hA [0, 1, 2, 3, 4, 5, 6, 7, 8, 9, 10, 11, 12, 13, 14, 15] rfl rfl 0 rfl rfl rfl) rfl rfl hl.1 rfl (lv_room (Nat.le_of_ble_eq_true rfl)) dX6_parts_35 ⟨Nat.zero_le _, Nat.zero_le _⟩) hP hD hS hA [0, 1, 2, 3, 4, 5, 6, 7, 8, 9, 10, 11, 12, 13, 14, 15] rfl rfl rfl (fun H locs hP hD hS => ?_)
        refine lv_aload_n hx hb dX6_parts_38 rfl (lv_at hl 0 rfl) ?_
        refine lv_iload_n hx hb dX6_parts_39 rfl (lv_at hl 1 rfl) ?_
        obtain ⟨r11, v12, v13, v14, h15, hf⟩ := ob4_e hf
        refine kci (Wx := (oMM C e0 e1 e2 e3 e4 e5 e6 e7 e8 e9 e10 e11 e12 e13 e14 e15 m_s m_held m_aside m_before m_isHeld m_tape m_taped m_token m_from m_to m_value m_isWrong m_due m_firsts m_rows m_rowN m_sortOf m_sizeOf m_numbers m_holdsWhat m_holdsWhich m_holdsMany v12 v13 m_actKind m_actN m_actA v14 [])) (va_runV (As := [.int x0]) (rest := []) ⟨hx, hb, hml, hown, hts⟩ (c_X6_partsPlain l E D C e0 e1 e2 e3 e4 e5 e6 e7 e8 e9 e10 e11 e12 e13 e14 e15 H.size m_s m_held m_aside m_before m_isHeld m_tape m_taped m_token m_from m_to m_value m_isWrong m_due m_firsts m_rows m_rowN m_sortOf m_sizeOf m_numbers m_holdsWhat m_holdsWhich m_holdsMany v8 v9 m_actKind m_actN m_actA m_isParted x0 r11 v12 v13 v14 h15) (cwV 1 hts gX6_parts_X6_partsPlain rfl rfl rfl hdX6_partsPlain ⟨Nat.le_of_ble_eq_true rfl, Nat.le_of_ble_eq_true rfl⟩) (kpreV hP hD hK hS hE hA [0, 1, 2, 3, 4, 5, 6, 7, 8, 9, 10, 11, 12, 13, 14, 15] rfl rfl 0 rfl rfl rfl) rfl rfl hl.1 rfl (lv_room (Nat.le_of_ble_eq_true rfl)) dX6_parts_40 ⟨Nat.zero_le _, Nat.zero_le _⟩) hP hD hS hA [0, 1, 2, 3, 4, 5, 6, 7, 8, 9, 10, 11, 12, 13, 14, 15] rfl rfl rfl (fun H locs hP hD hS => ?_)
        refine lv_istore_n (lv' := [(2, .int r11), (0, .ref e0), (1, .int x0)]) hx hb dX6_parts_43 rfl hl (by decide) rfl (fun ls hl => ?_)
        refine lv_aload_n hx hb dX6_parts_44 rfl (lv_at hl 1 rfl) ?_
        refine va_get (D := D) (ci := 6) (v := .int v14) (C := RX6) (T := TX6) (N := 28) hx hb hts hi_RX6 hown hK hP 0 rfl rfl 27 (by decide) (hts (.fieldLink RX6 326 "TravelMarksModel" "isParted" "Z") (List.mem_of_getElem? (i := 2) rfl)) (fun _ h9 => h9) rfl dX6_parts_45 ?_
        refine lv_if_eq (tgt := 55) hx hb dX6_parts_48 (by decide) (fun c16 => ?_) (fun c16 => ?_)
        · replace hf := if_te c16 hf
          refine lv_iload_n hx hb dX6_parts_55 rfl (lv_at hl 0 rfl) ?_
          refine lv_aload_n hx hb dX6_parts_56 rfl (lv_at hl 1 rfl) ?_
          refine lv_aload_n hx hb dX6_parts_57 rfl (lv_at hl 1 rfl) ?_
          refine va_get (D := D) (ci := 6) (v := .int m_actN) (C := RX6) (T := TX6) (N := 28) hx hb hts hi_RX6 hown hK hP 0 rfl rfl 25 (by decide) (hts (.fieldLink RX6 305 "TravelMarksModel" "actN" "I") (List.mem_of_getElem? (i := 3) rfl)) (fun _ h9 => h9) rfl dX6_parts_58 ?_
          obtain ⟨r17, v18, v19, h20, hf⟩ := ob3_e hf
          refine kci (Wx := (oMM C e0 e1 e2 e3 e4 e5 e6 e7 e8 e9 e10 e11 e12 e13 e14 e15 m_s m_held m_aside m_before m_isHeld m_tape m_taped m_token m_from m_to m_value m_isWrong m_due m_firsts m_rows m_rowN m_sortOf m_sizeOf m_numbers m_holdsWhat m_holdsWhich m_holdsMany v18 v19 m_actKind m_actN m_actA v14 [])) (va_runV (As := [.int m_actN]) (rest := [.int r11]) ⟨hx, hb, hml, hown, hts⟩ (c_X6_itches l E D C e0 e1 e2 e3 e4 e5 e6 e7 e8 e9 e10 e11 e12 e13 e14 e15 H.size m_s m_held m_aside m_before m_isHeld m_tape m_taped m_token m_from m_to m_value m_isWrong m_due m_firsts m_rows m_rowN m_sortOf m_sizeOf m_numbers m_holdsWhat m_holdsWhich m_holdsMany v12 v13 m_actKind m_actN m_actA v14 m_actN r17 v18 v19 h20) (cwV 1 hts gX6_parts_X6_itches rfl rfl rfl hdX6_itches ⟨Nat.le_of_ble_eq_true rfl, Nat.le_of_ble_eq_true rfl⟩) (kpreV hP hD hK hS hE hA [0, 1, 2, 3, 4, 5, 6, 7, 8, 9, 10, 11, 12, 13, 14, 15] rfl rfl 0 rfl rfl rfl) rfl rfl hl.1 rfl (lv_room (Nat.le_of_ble_eq_true rfl)) dX6_parts_61 ⟨Nat.zero_le _, Nat.zero_le _⟩) hP hD hS hA [0, 1, 2, 3, 4, 5, 6, 7, 8, 9, 10, 11, 12, 13, 14, 15] rfl rfl rfl (fun H locs hP hD hS => ?_)
          refine lv_isub hx hb dX6_parts_64 ?_
          obtain ⟨t21, et21, hf⟩ := lj_e hf
          refine lv_ren et21 ?_
          cases hf
          exact kri hQ hAe hx hb hr hlocks hP hD hK hS dX6_parts_65
        · replace hf := if_fe c16 hf
          refine lv_iconst (v := 0) hx hb dX6_parts_51 rfl ?_
          refine lv_goto (tgt := 65) hx hb dX6_parts_52 (by decide) ?_
          cases hf
          exact kri hQ hAe hx hb hr hlocks hP hD hK hS dX6_parts_65
    · replace hf := if_te c1 hf
      refine lv_aload_n hx hb dX6_parts_8 rfl (lv_at hl 0 rfl) ?_
      refine lv_bipush (v := 50) hx hb dX6_parts_9 rfl ?_
      obtain ⟨v22, v23, h24, hf⟩ := ob2_e hf
      refine kcv (Wx := (oMM C e0 e1 e2 e3 e4 e5 e6 e7 e8 e9 e10 e11 e12 e13 e14 e15 m_s m_held m_aside m_before m_isHeld m_tape m_taped m_token m_from m_to m_value m_isWrong m_due m_firsts m_rows m_rowN m_sortOf m_sizeOf m_numbers m_holdsWhat m_holdsWhich m_holdsMany v22 v23 m_actKind m_actN m_actA m_isParted [])) (va_runV (As := [.int 50]) (rest := []) ⟨hx, hb, hml, hown, hts⟩ (c_X6_runs l E D C e0 e1 e2 e3 e4 e5 e6 e7 e8 e9 e10 e11 e12 e13 e14 e15 H.size m_s m_held m_aside m_before m_isHeld m_tape m_taped m_token m_from m_to m_value m_isWrong m_due m_firsts m_rows m_rowN m_sortOf m_sizeOf m_numbers m_holdsWhat m_holdsWhich m_holdsMany m_bodies m_ran m_actKind m_actN m_actA m_isParted 50 v22 v23 h24) (cwV 1 hts gX6_parts_X6_runs rfl rfl rfl hdX6_runs ⟨Nat.le_of_ble_eq_true rfl, Nat.le_of_ble_eq_true rfl⟩) (kpreV hP hD hK hS hE hA [0, 1, 2, 3, 4, 5, 6, 7, 8, 9, 10, 11, 12, 13, 14, 15] rfl rfl 0 rfl rfl rfl) rfl rfl hl.1 rfl (lv_room (Nat.le_of_ble_eq_true rfl)) dX6_parts_11 ⟨Nat.zero_le _, Nat.zero_le _⟩) hP hD hS hA [0, 1, 2, 3, 4, 5, 6, 7, 8, 9, 10, 11, 12, 13, 14, 15] rfl rfl rfl (fun H locs hP hD hS => ?_)
      refine lv_aload_n hx hb dX6_parts_14 rfl (lv_at hl 0 rfl) ?_
      refine lv_iload_n hx hb dX6_parts_15 rfl (lv_at hl 1 rfl) ?_
      refine lv_iconst (v := 2) hx hb dX6_parts_16 rfl ?_
      refine lv_imul hx hb dX6_parts_17 ?_
      obtain ⟨r25, v26, v27, v28, h29, hf⟩ := ob4_e hf
      refine kci (Wx := (oMM C e0 e1 e2 e3 e4 e5 e6 e7 e8 e9 e10 e11 e12 e13 e14 e15 m_s m_held m_aside m_before m_isHeld m_tape m_taped m_token m_from m_to m_value m_isWrong m_due m_firsts m_rows m_rowN m_sortOf m_sizeOf m_numbers m_holdsWhat m_holdsWhich m_holdsMany v26 v27 m_actKind m_actN m_actA v28 [])) (va_runV (As := [.int (x0 * 2)]) (rest := []) ⟨hx, hb, hml, hown, hts⟩ (c_X6_partsPlain l E D C e0 e1 e2 e3 e4 e5 e6 e7 e8 e9 e10 e11 e12 e13 e14 e15 H.size m_s m_held m_aside m_before m_isHeld m_tape m_taped m_token m_from m_to m_value m_isWrong m_due m_firsts m_rows m_rowN m_sortOf m_sizeOf m_numbers m_holdsWhat m_holdsWhich m_holdsMany v22 v23 m_actKind m_actN m_actA m_isParted (x0 * 2) r25 v26 v27 v28 h29) (cwV 1 hts gX6_parts_X6_partsPlain rfl rfl rfl hdX6_partsPlain ⟨Nat.le_of_ble_eq_true rfl, Nat.le_of_ble_eq_true rfl⟩) (kpreV hP hD hK hS hE hA [0, 1, 2, 3, 4, 5, 6, 7, 8, 9, 10, 11, 12, 13, 14, 15] rfl rfl 0 rfl rfl rfl) rfl rfl hl.1 rfl (lv_room (Nat.le_of_ble_eq_true rfl)) dX6_parts_18 ⟨Nat.zero_le _, Nat.zero_le _⟩) hP hD hS hA [0, 1, 2, 3, 4, 5, 6, 7, 8, 9, 10, 11, 12, 13, 14, 15] rfl rfl rfl (fun H locs hP hD hS => ?_)
      refine lv_iconst (v := 3) hx hb dX6_parts_21 rfl ?_
      refine lv_isub hx hb dX6_parts_22 ?_
      obtain ⟨t30, et30, hf⟩ := lj_e hf
      refine lv_ren et30 ?_
      cases hf
      exact kri hQ hAe hx hb hr hlocks hP hD hK hS dX6_parts_23
  exact main _ _ hP hD hS

def rmX6_bitesPlain : Room := { frames := 6, cells := 0, slots := 0, locals := 127 }
theorem hdX6_bitesPlain : yX6_bitesPlain.cls = RX6 ∧ yX6_bitesPlain.cls ≠ "java/lang/invoke/MethodHandle" ∧ yX6_bitesPlain.cls ≠ "java/lang/invoke/VarHandle" ∧ (parseMethodDescriptor yX6_bitesPlain.desc).map (fun d => d.parameters.length) = some 1 := by decide +kernel
set_option maxHeartbeats 40000000 in
set_option maxRecDepth 100000 in
theorem c_X6_bitesPlain (l : Launch) (E : Nat → Nat) (D : va_G) (C : Nat → ClassId) (e0 e1 e2 e3 e4 e5 e6 e7 e8 e9 e10 e11 e12 e13 e14 e15 : Nat) (sz : Nat) (m_s : Nat → Int32) (m_held : Nat → Int32) (m_aside : Nat → Int32) (m_before : Nat → Int32) (m_isHeld : Int32) (m_tape : Nat → Int32) (m_taped : Int32) (m_token : Int32) (m_from : Int32) (m_to : Int32) (m_value : Int32) (m_isWrong : Int32) (m_due : Nat → Int32) (m_firsts : Nat → Int32) (m_rows : Nat → Int32) (m_rowN : Int32) (m_sortOf : Nat → Int32) (m_sizeOf : Nat → Int32) (m_numbers : Nat → Int32) (m_holdsWhat : Nat → Int32) (m_holdsWhich : Nat → Int32) (m_holdsMany : Nat → Int32) (m_bodies : Nat → Int32) (m_ran : Int32) (m_actKind : Int32) (m_actN : Int32) (m_actA : Int32) (m_isParted : Int32) (x0 : Int32) (r : Int32) (m_bodies' : Nat → Int32) (m_ran' : Int32) (hf : f_X6_bitesPlain m_bodies m_ran m_actKind m_actN m_actA x0 = some (r, m_bodies', m_ran')) : Met l yX6_bitesPlain wsX6_bitesPlain rmX6_bitesPlain (PC E D C [.ref e0, .int x0] (oMM C e0 e1 e2 e3 e4 e5 e6 e7 e8 e9 e10 e11 e12 e13 e14 e15 m_s m_held m_aside m_before m_isHeld m_tape m_taped m_token m_from m_to m_value m_isWrong m_due m_firsts m_rows m_rowN m_sortOf m_sizeOf m_numbers m_holdsWhat m_holdsWhich m_holdsMany m_bodies m_ran m_actKind m_actN m_actA m_isParted []) sz) (QI D C (oMM C e0 e1 e2 e3 e4 e5 e6 e7 e8 e9 e10 e11 e12 e13 e14 e15 m_s m_held m_aside m_before m_isHeld m_tape m_taped m_token m_from m_to m_value m_isWrong m_due m_firsts m_rows m_rowN m_sortOf m_sizeOf m_numbers m_holdsWhat m_holdsWhich m_holdsMany m_bodies m_ran m_actKind m_actN m_actA m_isParted []) (oMM C e0 e1 e2 e3 e4 e5 e6 e7 e8 e9 e10 e11 e12 e13 e14 e15 m_s m_held m_aside m_before m_isHeld m_tape m_taped m_token m_from m_to m_value m_isWrong m_due m_firsts m_rows m_rowN m_sortOf m_sizeOf m_numbers m_holdsWhat m_holdsWhich m_holdsMany (m_bodies') (m_ran') m_actKind m_actN m_actA m_isParted []) sz r) 0 0 (va_A (oMM C e0 e1 e2 e3 e4 e5 e6 e7 e8 e9 e10 e11 e12 e13 e14 e15 m_s m_held m_aside m_before m_isHeld m_tape m_taped m_token m_from m_to m_value m_isWrong m_due m_firsts m_rows m_rowN m_sortOf m_sizeOf m_numbers m_holdsWhat m_holdsWhich m_holdsMany m_bodies m_ran m_actKind m_actN m_actA m_isParted []) sz) := by
  refine Met.ofW (cc := cX6_bitesPlain) (maxL := 2) (ret := (some .int)) (by decide) rfl ?_
  intro p e s m args below meth c s₁ B hml hv
  obtain ⟨rfl, hsz, hP, hK, hD0, hE⟩ := hv
  have hx := B.exec
  have hb := B.bytes
  have hr := B.returns
  have hts := atoms_spec (ws := wsX6_bitesPlain) B.pre
  have hown : s.vm.findClass RX6 = some m.cls := findClass_of_methodNamed B.named
  have hlocks := B.notSynchronized
  subst hsz
  have hD := hD0.self (sz := s.heap.size)
  obtain ⟨A, hAe⟩ := nm_ex (va_A (oMM C e0 e1 e2 e3 e4 e5 e6 e7 e8 e9 e10 e11 e12 e13 e14 e15 m_s m_held m_aside m_before m_isHeld m_tape m_taped m_token m_from m_to m_value m_isWrong m_due m_firsts m_rows m_rowN m_sortOf m_sizeOf m_numbers m_holdsWhat m_holdsWhich m_holdsMany m_bodies m_ran m_actKind m_actN m_actA m_isParted []) s.heap.size)
  rw [← hAe] at hD hE ⊢
  have hA : ∀ q : Nat, s.heap.size ≤ q → A q := fun q h => by rw [hAe]; exact Or.inr h
  have hS : va_S A s.heap s.heap [] := va_S.rf
  have hl := lv_entry ([.ref e0, .int x0]) (n := 2) (Nat.le_of_ble_eq_true rfl)
  rw [lg_entry_eq]
  generalize (lg_sl ([.ref e0, .int x0]) ++ List.replicate (2 - (lg_sl ([.ref e0, .int x0])).length) Slot.unset).toArray = ls at hl ⊢
  have hl : lv_has ls 2 [(0, .ref e0), (1, .int x0)] := hl
  obtain ⟨Q, hQ⟩ := nm_ex (MQ below (QI D C (oMM C e0 e1 e2 e3 e4 e5 e6 e7 e8 e9 e10 e11 e12 e13 e14 e15 m_s m_held m_aside m_before m_isHeld m_tape m_taped m_token m_from m_to m_value m_isWrong m_due m_firsts m_rows m_rowN m_sortOf m_sizeOf m_numbers m_holdsWhat m_holdsWhich m_holdsMany m_bodies m_ran m_actKind m_actN m_actA m_isParted []) (oMM C e0 e1 e2 e3 e4 e5 e6 e7 e8 e9 e10 e11 e12 e13 e14 e15 m_s m_held m_aside m_before m_isHeld m_tape m_taped m_token m_from m_to m_value m_isWrong m_due m_firsts m_rows m_rowN m_sortOf m_sizeOf m_numbers m_holdsWhat m_holdsWhich m_holdsMany (m_bodies') (m_ran') m_actKind m_actN m_actA m_isParted []) s.heap.size r) (List.toArray [Value.ref e0, Value.int x0]) s 0 0 A)
  show W p l e (headSpec wsX6_bitesPlain (rmX6_bitesPlain)).room s m (List.toArray [Value.ref e0, Value.int x0]) below meth c s.heap [] 0 0 (MQ below (QI D C (oMM C e0 e1 e2 e3 e4 e5 e6 e7 e8 e9 e10 e11 e12 e13 e14 e15 m_s m_held m_aside m_before m_isHeld m_tape m_taped m_token m_from m_to m_value m_isWrong m_due m_firsts m_rows m_rowN m_sortOf m_sizeOf m_numbers m_holdsWhat m_holdsWhich m_holdsMany m_bodies m_ran m_actKind m_actN m_actA m_isParted []) (oMM C e0 e1 e2 e3 e4 e5 e6 e7 e8 e9 e10 e11 e12 e13 e14 e15 m_s m_held m_aside m_before m_isHeld m_tape m_taped m_token m_from m_to m_value m_isWrong m_due m_firsts m_rows m_rowN m_sortOf m_sizeOf m_numbers m_holdsWhat m_holdsWhich m_holdsMany (m_bodies') (m_ran') m_actKind m_actN m_actA m_isParted []) s.heap.size r) (List.toArray [Value.ref e0, Value.int x0]) s 0 0 A) _
  rw [← hQ]
  unfold f_X6_bitesPlain at hf
  have main : ∀ (H : Heap) (locs : List Loc), va_P D vwCl (oMM C e0 e1 e2 e3 e4 e5 e6 e7 e8 e9 e10 e11 e12 e13 e14 e15 m_s m_held m_aside m_before m_isHeld m_tape m_taped m_token m_from m_to m_value m_isWrong m_due m_firsts m_rows m_rowN m_sortOf m_sizeOf m_numbers m_holdsWhat m_holdsWhich m_holdsMany m_bodies m_ran m_actKind m_actN m_actA m_isParted []) H → va_D A (oMM C e0 e1 e2 e3 e4 e5 e6 e7 e8 e9 e10 e11 e12 e13 e14 e15 m_s m_held m_aside m_before m_isHeld m_tape m_taped m_token m_from m_to m_value m_isWrong m_due m_firsts m_rows m_rowN m_sortOf m_sizeOf m_numbers m_holdsWhat m_holdsWhich m_holdsMany m_bodies m_ran m_actKind m_actN m_actA m_isParted []) → va_S A s.heap H locs → W p l e (headSpec wsX6_bitesPlain (rmX6_bitesPlain)).room s m (List.toArray [Value.ref e0, Value.int x0]) below meth c H locs 0 0 Q (F0 m 0 ls []) := by
    intro H locs hP hD hS
    refine lv_aload_n hx hb dX6_bitesPlain_0 rfl (lv_at hl 0 rfl) ?_
    refine lv_bipush (v := 13) hx hb dX6_bitesPlain_1 rfl ?_
    obtain ⟨v1, v2, h3, hf⟩ := ob2_e hf
    refine kcv (Wx := (oMM C e0 e1 e2 e3 e4 e5 e6 e7 e8 e9 e10 e11 e12 e13 e14 e15 m_s m_held m_aside m_before m_isHeld m_tape m_taped m_token m_from m_to m_value m_isWrong m_due m_firsts m_rows m_rowN m_sortOf m_sizeOf m_numbers m_holdsWhat m_holdsWhich m_holdsMany v1 v2 m_actKind m_actN m_actA m_isParted [])) (va_runV (As := [.int 13]) (rest := []) ⟨hx, hb, hml, hown, hts⟩ (c_X6_runs l E D C e0 e1 e2 e3 e4 e5 e6 e7 e8 e9 e10 e11 e12 e13 e14 e15 H.size m_s m_held m_aside m_before m_isHeld m_tape m_taped m_token m_from m_to m_value m_isWrong m_due m_firsts m_rows m_rowN m_sortOf m_sizeOf m_numbers m_holdsWhat m_holdsWhich m_holdsMany m_bodies m_ran m_actKind m_actN m_actA m_isParted 13 v1 v2 h3) (cwV 1 hts gX6_bitesPlain_X6_runs rfl rfl rfl hdX6_runs ⟨Nat.le_of_ble_eq_true rfl, Nat.le_of_ble_eq_true rfl⟩) (kpreV hP hD hK hS hE hA [0, 1, 2, 3, 4, 5, 6, 7, 8, 9, 10, 11, 12, 13, 14, 15] rfl rfl 0 rfl rfl rfl) rfl rfl hl.1 rfl (lv_room (Nat.le_of_ble_eq_true rfl)) dX6_bitesPlain_3 ⟨Nat.zero_le _, Nat.zero_le _⟩) hP hD hS hA [0, 1, 2, 3, 4, 5, 6, 7, 8, 9, 10, 11, 12, 13, 14, 15] rfl rfl rfl (fun H locs hP hD hS => ?_)
    refine lv_aload_n hx hb dX6_bitesPlain_6 rfl (lv_at hl 0 rfl) ?_
    refine lv_iload_n hx hb dX6_bitesPlain_7 rfl (lv_at hl 1 rfl) ?_
    obtain ⟨r4, v5, v6, h7, hf⟩ := ob3_e hf
    refine kci (Wx := (oMM C e0 e1 e2 e3 e4 e5 e6 e7 e8 e9 e10 e11 e12 e13 e14 e15 m_s m_held m_aside m_before m_isHeld m_tape m_taped m_token m_from m_to m_value m_isWrong m_due m_firsts m_rows m_rowN m_sortOf m_sizeOf m_numbers m_holdsWhat m_holdsWhich m_holdsMany v5 v6 m_actKind m_actN m_actA m_isParted [])) (va_runV (As := [.int x0]) (rest := []) ⟨hx, hb, hml, hown, hts⟩ (c_X6_crawls l E D C e0 e1 e2 e3 e4 e5 e6 e7 e8 e9 e10 e11 e12 e13 e14 e15 H.size m_s m_held m_aside m_before m_isHeld m_tape m_taped m_token m_from m_to m_value m_isWrong m_due m_firsts m_rows m_rowN m_sortOf m_sizeOf m_numbers m_holdsWhat m_holdsWhich m_holdsMany v1 v2 m_actKind m_actN m_actA m_isParted x0 r4 v5 v6 h7) (cwV 1 hts gX6_bitesPlain_X6_crawls rfl rfl rfl hdX6_crawls ⟨Nat.le_of_ble_eq_true rfl, Nat.le_of_ble_eq_true rfl⟩) (kpreV hP hD hK hS hE hA [0, 1, 2, 3, 4, 5, 6, 7, 8, 9, 10, 11, 12, 13, 14, 15] rfl rfl 0 rfl rfl rfl) rfl rfl hl.1 rfl (lv_room (Nat.le_of_ble_eq_true rfl)) dX6_bitesPlain_8 ⟨Nat.zero_le _, Nat.zero_le _⟩) hP hD hS hA [0, 1, 2, 3, 4, 5, 6, 7, 8, 9, 10, 11, 12, 13, 14, 15] rfl rfl rfl (fun H locs hP hD hS => ?_)
    refine lv_bipush (v := 120) hx hb dX6_bitesPlain_11 rfl ?_
    refine lv_ixor hx hb dX6_bitesPlain_13 ?_
    obtain ⟨t8, et8, hf⟩ := lj_e hf
    refine lv_ren et8 ?_
    cases hf
    exact kri hQ hAe hx hb hr hlocks hP hD hK hS dX6_bitesPlain_14
  exact main _ _ hP hD hS

def rmX6_bites : Room := { frames := 7, cells := 0, slots := 0, locals := 148 }
theorem hdX6_bites : yX6_bites.cls = RX6 ∧ yX6_bites.cls ≠ "java/lang/invoke/MethodHandle" ∧ yX6_bites.cls ≠ "java/lang/invoke/VarHandle" ∧ (parseMethodDescriptor yX6_bites.desc).map (fun d => d.parameters.length) = some 1 := by decide +kernel
set_option maxHeartbeats 40000000 in
set_option maxRecDepth 100000 in
theorem c_X6_bites (l : Launch) (E : Nat → Nat) (D : va_G) (C : Nat → ClassId) (e0 e1 e2 e3 e4 e5 e6 e7 e8 e9 e10 e11 e12 e13 e14 e15 : Nat) (sz : Nat) (m_s : Nat → Int32) (m_held : Nat → Int32) (m_aside : Nat → Int32) (m_before : Nat → Int32) (m_isHeld : Int32) (m_tape : Nat → Int32) (m_taped : Int32) (m_token : Int32) (m_from : Int32) (m_to : Int32) (m_value : Int32) (m_isWrong : Int32) (m_due : Nat → Int32) (m_firsts : Nat → Int32) (m_rows : Nat → Int32) (m_rowN : Int32) (m_sortOf : Nat → Int32) (m_sizeOf : Nat → Int32) (m_numbers : Nat → Int32) (m_holdsWhat : Nat → Int32) (m_holdsWhich : Nat → Int32) (m_holdsMany : Nat → Int32) (m_bodies : Nat → Int32) (m_ran : Int32) (m_actKind : Int32) (m_actN : Int32) (m_actA : Int32) (m_isParted : Int32) (x0 : Int32) (r : Int32) (m_bodies' : Nat → Int32) (m_ran' : Int32) (m_isParted' : Int32) (hf : f_X6_bites m_bodies m_ran m_actKind m_actN m_actA m_isParted x0 = some (r, m_bodies', m_ran', m_isParted')) : Met l yX6_bites wsX6_bites rmX6_bites (PC E D C [.ref e0, .int x0] (oMM C e0 e1 e2 e3 e4 e5 e6 e7 e8 e9 e10 e11 e12 e13 e14 e15 m_s m_held m_aside m_before m_isHeld m_tape m_taped m_token m_from m_to m_value m_isWrong m_due m_firsts m_rows m_rowN m_sortOf m_sizeOf m_numbers m_holdsWhat m_holdsWhich m_holdsMany m_bodies m_ran m_actKind m_actN m_actA m_isParted []) sz) (QI D C (oMM C e0 e1 e2 e3 e4 e5 e6 e7 e8 e9 e10 e11 e12 e13 e14 e15 m_s m_held m_aside m_before m_isHeld m_tape m_taped m_token m_from m_to m_value m_isWrong m_due m_firsts m_rows m_rowN m_sortOf m_sizeOf m_numbers m_holdsWhat m_holdsWhich m_holdsMany m_bodies m_ran m_actKind m_actN m_actA m_isParted []) (oMM C e0 e1 e2 e3 e4 e5 e6 e7 e8 e9 e10 e11 e12 e13 e14 e15 m_s m_held m_aside m_before m_isHeld m_tape m_taped m_token m_from m_to m_value m_isWrong m_due m_firsts m_rows m_rowN m_sortOf m_sizeOf m_numbers m_holdsWhat m_holdsWhich m_holdsMany (m_bodies') (m_ran') m_actKind m_actN m_actA (m_isParted') []) sz r) 0 0 (va_A (oMM C e0 e1 e2 e3 e4 e5 e6 e7 e8 e9 e10 e11 e12 e13 e14 e15 m_s m_held m_aside m_before m_isHeld m_tape m_taped m_token m_from m_to m_value m_isWrong m_due m_firsts m_rows m_rowN m_sortOf m_sizeOf m_numbers m_holdsWhat m_holdsWhich m_holdsMany m_bodies m_ran m_actKind m_actN m_actA m_isParted []) sz) := by
  refine Met.ofW (cc := cX6_bites) (maxL := 3) (ret := (some .int)) (by decide) rfl ?_
  intro p e s m args below meth c s₁ B hml hv
  obtain ⟨rfl, hsz, hP, hK, hD0, hE⟩ := hv
  have hx := B.exec
  have hb := B.bytes
  have hr := B.returns
  have hts := atoms_spec (ws := wsX6_bites) B.pre
  have hown : s.vm.findClass RX6 = some m.cls := findClass_of_methodNamed B.named
  have hlocks := B.notSynchronized
  subst hsz
  have hi_RX6 : ∀ w ∈ wsX60, w ∈ wsX6_bites := fun _ h => List.mem_cons_of_mem _ (List.mem_append_right _ h)
  have hD := hD0.self (sz := s.heap.size)
  obtain ⟨A, hAe⟩ := nm_ex (va_A (oMM C e0 e1 e2 e3 e4 e5 e6 e7 e8 e9 e10 e11 e12 e13 e14 e15 m_s m_held m_aside m_before m_isHeld m_tape m_taped m_token m_from m_to m_value m_isWrong m_due m_firsts m_rows m_rowN m_sortOf m_sizeOf m_numbers m_holdsWhat m_holdsWhich m_holdsMany m_bodies m_ran m_actKind m_actN m_actA m_isParted []) s.heap.size)
  rw [← hAe] at hD hE ⊢
  have hA : ∀ q : Nat, s.heap.size ≤ q → A q := fun q h => by rw [hAe]; exact Or.inr h
  have hS : va_S A s.heap s.heap [] := va_S.rf
  have hl := lv_entry ([.ref e0, .int x0]) (n := 3) (Nat.le_of_ble_eq_true rfl)
  rw [lg_entry_eq]
  generalize (lg_sl ([.ref e0, .int x0]) ++ List.replicate (3 - (lg_sl ([.ref e0, .int x0])).length) Slot.unset).toArray = ls at hl ⊢
  have hl : lv_has ls 3 [(0, .ref e0), (1, .int x0)] := hl
  obtain ⟨Q, hQ⟩ := nm_ex (MQ below (QI D C (oMM C e0 e1 e2 e3 e4 e5 e6 e7 e8 e9 e10 e11 e12 e13 e14 e15 m_s m_held m_aside m_before m_isHeld m_tape m_taped m_token m_from m_to m_value m_isWrong m_due m_firsts m_rows m_rowN m_sortOf m_sizeOf m_numbers m_holdsWhat m_holdsWhich m_holdsMany m_bodies m_ran m_actKind m_actN m_actA m_isParted []) (oMM C e0 e1 e2 e3 e4 e5 e6 e7 e8 e9 e10 e11 e12 e13 e14 e15 m_s m_held m_aside m_before m_isHeld m_tape m_taped m_token m_from m_to m_value m_isWrong m_due m_firsts m_rows m_rowN m_sortOf m_sizeOf m_numbers m_holdsWhat m_holdsWhich m_holdsMany (m_bodies') (m_ran') m_actKind m_actN m_actA (m_isParted') []) s.heap.size r) (List.toArray [Value.ref e0, Value.int x0]) s 0 0 A)
  show W p l e (headSpec wsX6_bites (rmX6_bites)).room s m (List.toArray [Value.ref e0, Value.int x0]) below meth c s.heap [] 0 0 (MQ below (QI D C (oMM C e0 e1 e2 e3 e4 e5 e6 e7 e8 e9 e10 e11 e12 e13 e14 e15 m_s m_held m_aside m_before m_isHeld m_tape m_taped m_token m_from m_to m_value m_isWrong m_due m_firsts m_rows m_rowN m_sortOf m_sizeOf m_numbers m_holdsWhat m_holdsWhich m_holdsMany m_bodies m_ran m_actKind m_actN m_actA m_isParted []) (oMM C e0 e1 e2 e3 e4 e5 e6 e7 e8 e9 e10 e11 e12 e13 e14 e15 m_s m_held m_aside m_before m_isHeld m_tape m_taped m_token m_from m_to m_value m_isWrong m_due m_firsts m_rows m_rowN m_sortOf m_sizeOf m_numbers m_holdsWhat m_holdsWhich m_holdsMany (m_bodies') (m_ran') m_actKind m_actN m_actA (m_isParted') []) s.heap.size r) (List.toArray [Value.ref e0, Value.int x0]) s 0 0 A) _
  rw [← hQ]
  unfold f_X6_bites at hf
  have main : ∀ (H : Heap) (locs : List Loc), va_P D vwCl (oMM C e0 e1 e2 e3 e4 e5 e6 e7 e8 e9 e10 e11 e12 e13 e14 e15 m_s m_held m_aside m_before m_isHeld m_tape m_taped m_token m_from m_to m_value m_isWrong m_due m_firsts m_rows m_rowN m_sortOf m_sizeOf m_numbers m_holdsWhat m_holdsWhich m_holdsMany m_bodies m_ran m_actKind m_actN m_actA m_isParted []) H → va_D A (oMM C e0 e1 e2 e3 e4 e5 e6 e7 e8 e9 e10 e11 e12 e13 e14 e15 m_s m_held m_aside m_before m_isHeld m_tape m_taped m_token m_from m_to m_value m_isWrong m_due m_firsts m_rows m_rowN m_sortOf m_sizeOf m_numbers m_holdsWhat m_holdsWhich m_holdsMany m_bodies m_ran m_actKind m_actN m_actA m_isParted []) → va_S A s.heap H locs → W p l e (headSpec wsX6_bites (rmX6_bites)).room s m (List.toArray [Value.ref e0, Value.int x0]) below meth c H locs 0 0 Q (F0 m 0 ls []) := by
    intro H locs hP hD hS
    refine lv_aload_n hx hb dX6_bites_0 rfl (lv_at hl 0 rfl) ?_
    refine va_get (D := D) (ci := 6) (v := .int m_actKind) (C := RX6) (T := TX6) (N := 28) hx hb hts hi_RX6 hown hK hP 0 rfl rfl 24 (by decide) (hts (.fieldLink RX6 311 "TravelMarksModel" "actKind" "I") (List.mem_of_getElem? (i := 1) rfl)) (fun _ h9 => h9) rfl dX6_bites_1 ?_
    refine lv_iconst (v := 2) hx hb dX6_bites_4 rfl ?_
    obtain ⟨j1, hj1, hf⟩ := lj_e hf
    have Hj1 : ∀ (H : Heap) (locs : List Loc) (ls : Array Slot), va_P D vwCl (oMM C e0 e1 e2 e3 e4 e5 e6 e7 e8 e9 e10 e11 e12 e13 e14 e15 m_s m_held m_aside m_before m_isHeld m_tape m_taped m_token m_from m_to m_value m_isWrong m_due m_firsts m_rows m_rowN m_sortOf m_sizeOf m_numbers m_holdsWhat m_holdsWhich m_holdsMany m_bodies m_ran m_actKind m_actN m_actA m_isParted []) H → va_D A (oMM C e0 e1 e2 e3 e4 e5 e6 e7 e8 e9 e10 e11 e12 e13 e14 e15 m_s m_held m_aside m_before m_isHeld m_tape m_taped m_token m_from m_to m_value m_isWrong m_due m_firsts m_rows m_rowN m_sortOf m_sizeOf m_numbers m_holdsWhat m_holdsWhich m_holdsMany m_bodies m_ran m_actKind m_actN m_actA m_isParted []) → va_S A s.heap H locs → lv_has ls 3 [(0, .ref e0), (1, .int x0)] → j1 = some (r, m_bodies', m_ran', m_isParted') → W p l e (headSpec wsX6_bites (rmX6_bites)).room s m (List.toArray [Value.ref e0, Value.int x0]) below meth c H locs 0 0 Q (F0 m 16 ls []) := by
      intro H locs ls hP hD hS hl hf
      rw [hj1] at hf
      refine lv_aload_n hx hb dX6_bites_16 rfl (lv_at hl 0 rfl) ?_
      refine lv_bipush (v := 31) hx hb dX6_bites_17 rfl ?_
      obtain ⟨v2, v3, h4, hf⟩ := ob2_e hf
      refine kcv (Wx := (oMM C e0 e1 e2 e3 e4 e5 e6 e7 e8 e9 e10 e11 e12 e13 e14 e15 m_s m_held m_aside m_before m_isHeld m_tape m_taped m_token m_from m_to m_value m_isWrong m_due m_firsts m_rows m_rowN m_sortOf m_sizeOf m_numbers m_holdsWhat m_holdsWhich m_holdsMany v2 v3 m_actKind m_actN m_actA m_isParted [])) (va_runV (As := [.int 31]) (rest := []) ⟨hx, hb, hml, hown, hts⟩ (c_X6_runs l E D C e0 e1 e2 e3 e4 e5 e6 e7 e8 e9 e10 e11 e12 e13 e14 e15 H.size m_s m_held m_aside m_before m_isHeld m_tape m_taped m_token m_from m_to m_value m_isWrong m_due m_firsts m_rows m_rowN m_sortOf m_sizeOf m_numbers m_holdsWhat m_holdsWhich m_holdsMany m_bodies m_ran m_actKind m_actN m_actA m_isParted 31 v2 v3 h4) (cwV 1 hts gX6_bites_X6_runs rfl rfl rfl hdX6_runs ⟨Nat.le_of_ble_eq_true rfl, Nat.le_of_ble_eq_true rfl⟩) (kpreV hP hD hK hS hE hA [0, 1, 2, 3, 4, 5, 6, 7, 8, 9, 10, 11, 12, 13, 14, 15] rfl rfl 0 rfl rfl rfl) rfl rfl hl.1 rfl (lv_room (Nat.le_of_ble_eq_true rfl)) dX6_bites_19 ⟨Nat.zero_le _, Nat.zero_le _⟩) hP hD hS hA [0, 1, 2, 3, 4, 5, 6, 7, 8, 9, 10, 11, 12, 13, 14, 15] rfl rfl rfl (fun H locs hP hD hS => ?_)
      refine lv_aload_n hx hb dX6_bites_22 rfl (lv_at hl 0 rfl) ?_
      refine lv_iload_n hx hb dX6_bites_23 rfl (lv_at hl 1 rfl) ?_
      obtain ⟨r5, v6, v7, h8, hf⟩ := ob3_e hf
      refine kci (Wx := (oMM C e0 e1 e2 e3 e4 e5 e6 e7 e8 e9 e10 e11 e12 e13 e14 e15 m_s m_held m_aside m_before m_isHeld m_tape m_taped m_token m_from m_to m_value m_isWrong m_due m_firsts m_rows m_rowN m_sortOf m_sizeOf m_numbers m_holdsWhat m_holdsWhich m_holdsMany v6 v7 m_actKind m_actN m_actA m_isParted [])) (va_runV (As := [.int x0]) (rest := []) ⟨hx, hb, hml, hown, hts⟩ (c_X6_bitesPlain l E D C e0 e1 e2 e3 e4 e5 e6 e7 e8 e9 e10 e11 e12 e13 e14 e15 H.size m_s m_held m_aside m_before m_isHeld m_tape m_taped m_token m_from m_to m_value m_isWrong m_due m_firsts m_rows m_rowN m_sortOf m_sizeOf m_numbers m_holdsWhat m_holdsWhich m_holdsMany v2 v3 m_actKind m_actN m_actA m_isParted x0 r5 v6 v7 h8) (cwV 1 hts gX6_bites_X6_bitesPlain rfl rfl rfl hdX6_bitesPlain ⟨Nat.le_of_ble_eq_true rfl, Nat.le_of_ble_eq_true rfl⟩) (kpreV hP hD hK hS hE hA [0, 1, 2, 3, 4, 5, 6, 7, 8, 9, 10, 11, 12, 13, 14, 15] rfl rfl 0 rfl rfl rfl) rfl rfl hl.1 rfl (lv_room (Nat.le_of_ble_eq_true rfl)) dX6_bites_24 ⟨Nat.zero_le _, Nat.zero_le _⟩) hP hD hS hA [0, 1, 2, 3, 4, 5, 6, 7, 8, 9, 10, 11, 12, 13, 14, 15] rfl rfl rfl (fun H locs hP hD hS => ?_)
      refine lv_istore_n (lv' := [(2, .int r5), (0, .ref e0), (1, .int x0)]) hx hb dX6_bites_27 rfl hl (by decide) rfl (fun ls hl => ?_)
      refine lv_iload_n hx hb dX6_bites_28 rfl (lv_at hl 0 rfl) ?_
      refine lv_aload_n hx hb dX6_bites_29 rfl (lv_at hl 1 rfl) ?_
      refine lv_aload_n hx hb dX6_bites_30 rfl (lv_at hl 1 rfl) ?_
      refine va_get (D := D) (ci := 6) (v := .int m_actN) (C := RX6) (T := TX6) (N := 28) hx hb hts hi_RX6 hown hK hP 0 rfl rfl 25 (by decide) (hts (.fieldLink RX6 305 "TravelMarksModel" "actN" "I") (List.mem_of_getElem? (i := 2) rfl)) (fun _ h9 => h9) rfl dX6_bites_31 ?_
      obtain ⟨r9, v10, v11, v12, h13, hf⟩ := ob4_e hf
      refine kci (Wx := (oMM C e0 e1 e2 e3 e4 e5 e6 e7 e8 e9 e10 e11 e12 e13 e14 e15 m_s m_held m_aside m_before m_isHeld m_tape m_taped m_token m_from m_to m_value m_isWrong m_due m_firsts m_rows m_rowN m_sortOf m_sizeOf m_numbers m_holdsWhat m_holdsWhich m_holdsMany v10 v11 m_actKind m_actN m_actA v12 [])) (va_runV (As := [.int m_actN]) (rest := [.int r5]) ⟨hx, hb, hml, hown, hts⟩ (c_X6_parts l E D C e0 e1 e2 e3 e4 e5 e6 e7 e8 e9 e10 e11 e12 e13 e14 e15 H.size m_s m_held m_aside m_before m_isHeld m_tape m_taped m_token m_from m_to m_value m_isWrong m_due m_firsts m_rows m_rowN m_sortOf m_sizeOf m_numbers m_holdsWhat m_holdsWhich m_holdsMany v6 v7 m_actKind m_actN m_actA m_isParted m_actN r9 v10 v11 v12 h13) (cwV 1 hts gX6_bites_X6_parts rfl rfl rfl hdX6_parts ⟨Nat.le_of_ble_eq_true rfl, Nat.le_of_ble_eq_true rfl⟩) (kpreV hP hD hK hS hE hA [0, 1, 2, 3, 4, 5, 6, 7, 8, 9, 10, 11, 12, 13, 14, 15] rfl rfl 0 rfl rfl rfl) rfl rfl hl.1 rfl (lv_room (Nat.le_of_ble_eq_true rfl)) dX6_bites_34 ⟨Nat.zero_le _, Nat.zero_le _⟩) hP hD hS hA [0, 1, 2, 3, 4, 5, 6, 7, 8, 9, 10, 11, 12, 13, 14, 15] rfl rfl rfl (fun H locs hP hD hS => ?_)
      refine lv_iadd hx hb dX6_bites_37 ?_
      obtain ⟨t14, et14, hf⟩ := lj_e hf
      refine lv_ren et14 ?_
      cases hf
      exact kri hQ hAe hx hb hr hlocks hP hD hK hS dX6_bites_38
    refine lv_icmp_eq (tgt := 16) hx hb dX6_bites_5 (by decide) (fun c15 => ?_) (fun c15 => ?_)
    · replace hf := if_te c15 hf
      exact Hj1 H locs ls hP hD hS (lv_sub hl [0, 1] rfl) hf
    · replace hf := if_fe c15 hf
      refine lv_aload_n hx hb dX6_bites_8 rfl (lv_at hl 0 rfl) ?_
      refine va_get (D := D) (ci := 6) (v := .int m_actKind) (C := RX6) (T := TX6) (N := 28) hx hb hts hi_RX6 hown hK hP 0 rfl rfl 24 (by decide) (hts (.fieldLink RX6 311 "TravelMarksModel" "actKind" "I") (List.mem_of_getElem? (i := 1) rfl)) (fun _ h9 => h9) rfl dX6_bites_9 ?_
      refine lv_iconst (v := 4) hx hb dX6_bites_12 rfl ?_
      refine lv_icmp_ne (tgt := 39) hx hb dX6_bites_13 (by decide) (fun c16 => ?_) (fun c16 => ?_)
      · replace hf := if_fe c16 hf
        refine lv_aload_n hx hb dX6_bites_39 rfl (lv_at hl 0 rfl) ?_
        refine va_get (D := D) (ci := 6) (v := .int m_actKind) (C := RX6) (T := TX6) (N := 28) hx hb hts hi_RX6 hown hK hP 0 rfl rfl 24 (by decide) (hts (.fieldLink RX6 311 "TravelMarksModel" "actKind" "I") (List.mem_of_getElem? (i := 1) rfl)) (fun _ h9 => h9) rfl dX6_bites_40 ?_
        refine lv_iconst (v := 5) hx hb dX6_bites_43 rfl ?_
        refine lv_icmp_ne (tgt := 62) hx hb dX6_bites_44 (by decide) (fun c17 => ?_) (fun c17 => ?_)
        · replace hf := if_fe c17 hf
          refine lv_aload_n hx hb dX6_bites_62 rfl (lv_at hl 0 rfl) ?_
          refine lv_iload_n hx hb dX6_bites_63 rfl (lv_at hl 1 rfl) ?_
          obtain ⟨r18, v19, v20, h21, hf⟩ := ob3_e hf
          refine kci (Wx := (oMM C e0 e1 e2 e3 e4 e5 e6 e7 e8 e9 e10 e11 e12 e13 e14 e15 m_s m_held m_aside m_before m_isHeld m_tape m_taped m_token m_from m_to m_value m_isWrong m_due m_firsts m_rows m_rowN m_sortOf m_sizeOf m_numbers m_holdsWhat m_holdsWhich m_holdsMany v19 v20 m_actKind m_actN m_actA m_isParted [])) (va_runV (As := [.int x0]) (rest := []) ⟨hx, hb, hml, hown, hts⟩ (c_X6_bitesPlain l E D C e0 e1 e2 e3 e4 e5 e6 e7 e8 e9 e10 e11 e12 e13 e14 e15 H.size m_s m_held m_aside m_before m_isHeld m_tape m_taped m_token m_from m_to m_value m_isWrong m_due m_firsts m_rows m_rowN m_sortOf m_sizeOf m_numbers m_holdsWhat m_holdsWhich m_holdsMany m_bodies m_ran m_actKind m_actN m_actA m_isParted x0 r18 v19 v20 h21) (cwV 1 hts gX6_bites_X6_bitesPlain rfl rfl rfl hdX6_bitesPlain ⟨Nat.le_of_ble_eq_true rfl, Nat.le_of_ble_eq_true rfl⟩) (kpreV hP hD hK hS hE hA [0, 1, 2, 3, 4, 5, 6, 7, 8, 9, 10, 11, 12, 13, 14, 15] rfl rfl 0 rfl rfl rfl) rfl rfl hl.1 rfl (lv_room (Nat.le_of_ble_eq_true rfl)) dX6_bites_64 ⟨Nat.zero_le _, Nat.zero_le _⟩) hP hD hS hA [0, 1, 2, 3, 4, 5, 6, 7, 8, 9, 10, 11, 12, 13, 14, 15] rfl rfl rfl (fun H locs hP hD hS => ?_)
          cases hf
          exact kri hQ hAe hx hb hr hlocks hP hD hK hS dX6_bites_67
        · replace hf := if_te c17 hf
          refine lv_aload_n hx hb dX6_bites_47 rfl (lv_at hl 0 rfl) ?_
          refine lv_bipush (v := 60) hx hb dX6_bites_48 rfl ?_
          obtain ⟨v22, v23, h24, hf⟩ := ob2_e hf
          refine kcv (Wx := (oMM C e0 e1 e2 e3 e4 e5 e6 e7 e8 e9 e10 e11 e12 e13 e14 e15 m_s m_held m_aside m_before m_isHeld m_tape m_taped m_token m_from m_to m_value m_isWrong m_due m_firsts m_rows m_rowN m_sortOf m_sizeOf m_numbers m_holdsWhat m_holdsWhich m_holdsMany v22 v23 m_actKind m_actN m_actA m_isParted [])) (va_runV (As := [.int 60]) (rest := []) ⟨hx, hb, hml, hown, hts⟩ (c_X6_runs l E D C e0 e1 e2 e3 e4 e5 e6 e7 e8 e9 e10 e11 e12 e13 e14 e15 H.size m_s m_held m_aside m_before m_isHeld m_tape m_taped m_token m_from m_to m_value m_isWrong m_due m_firsts m_rows m_rowN m_sortOf m_sizeOf m_numbers m_holdsWhat m_holdsWhich m_holdsMany m_bodies m_ran m_actKind m_actN m_actA m_isParted 60 v22 v23 h24) (cwV 1 hts gX6_bites_X6_runs rfl rfl rfl hdX6_runs ⟨Nat.le_of_ble_eq_true rfl, Nat.le_of_ble_eq_true rfl⟩) (kpreV hP hD hK hS hE hA [0, 1, 2, 3, 4, 5, 6, 7, 8, 9, 10, 11, 12, 13, 14, 15] rfl rfl 0 rfl rfl rfl) rfl rfl hl.1 rfl (lv_room (Nat.le_of_ble_eq_true rfl)) dX6_bites_50 ⟨Nat.zero_le _, Nat.zero_le _⟩) hP hD hS hA [0, 1, 2, 3, 4, 5, 6, 7, 8, 9, 10, 11, 12, 13, 14, 15] rfl rfl rfl (fun H locs hP hD hS => ?_)
          refine lv_bipush (v := 7) hx hb dX6_bites_53 rfl ?_
          refine lv_aload_n hx hb dX6_bites_55 rfl (lv_at hl 0 rfl) ?_
          refine lv_iload_n hx hb dX6_bites_56 rfl (lv_at hl 1 rfl) ?_
          obtain ⟨r25, v26, v27, h28, hf⟩ := ob3_e hf
          refine kci (Wx := (oMM C e0 e1 e2 e3 e4 e5 e6 e7 e8 e9 e10 e11 e12 e13 e14 e15 m_s m_held m_aside m_before m_isHeld m_tape m_taped m_token m_from m_to m_value m_isWrong m_due m_firsts m_rows m_rowN m_sortOf m_sizeOf m_numbers m_holdsWhat m_holdsWhich m_holdsMany v26 v27 m_actKind m_actN m_actA m_isParted [])) (va_runV (As := [.int x0]) (rest := [.int 7]) ⟨hx, hb, hml, hown, hts⟩ (c_X6_bitesPlain l E D C e0 e1 e2 e3 e4 e5 e6 e7 e8 e9 e10 e11 e12 e13 e14 e15 H.size m_s m_held m_aside m_before m_isHeld m_tape m_taped m_token m_from m_to m_value m_isWrong m_due m_firsts m_rows m_rowN m_sortOf m_sizeOf m_numbers m_holdsWhat m_holdsWhich m_holdsMany v22 v23 m_actKind m_actN m_actA m_isParted x0 r25 v26 v27 h28) (cwV 1 hts gX6_bites_X6_bitesPlain rfl rfl rfl hdX6_bitesPlain ⟨Nat.le_of_ble_eq_true rfl, Nat.le_of_ble_eq_true rfl⟩) (kpreV hP hD hK hS hE hA [0, 1, 2, 3, 4, 5, 6, 7, 8, 9, 10, 11, 12, 13, 14, 15] rfl rfl 0 rfl rfl rfl) rfl rfl hl.1 rfl (lv_room (Nat.le_of_ble_eq_true rfl)) dX6_bites_57 ⟨Nat.zero_le _, Nat.zero_le _⟩) hP hD hS hA [0, 1, 2, 3, 4, 5, 6, 7, 8, 9, 10, 11, 12, 13, 14, 15] rfl rfl rfl (fun H locs hP hD hS => ?_)
          refine lv_isub hx hb dX6_bites_60 ?_
          obtain ⟨t29, et29, hf⟩ := lj_e hf
          refine lv_ren et29 ?_
          cases hf
          exact kri hQ hAe hx hb hr hlocks hP hD hK hS dX6_bites_61
      · replace hf := if_te c16 hf
        exact Hj1 H locs ls hP hD hS (lv_sub hl [0, 1] rfl) hf
  exact main _ _ hP hD hS

def rmX6_act : Room := { frames := 8, cells := 0, slots := 0, locals := 170 }
theorem hdX6_act : yX6_act.cls = RX6 ∧ yX6_act.cls ≠ "java/lang/invoke/MethodHandle" ∧ yX6_act.cls ≠ "java/lang/invoke/VarHandle" ∧ (parseMethodDescriptor yX6_act.desc).map (fun d => d.parameters.length) = some 3 := by decide +kernel
set_option maxHeartbeats 40000000 in
set_option maxRecDepth 100000 in
theorem c_X6_act (l : Launch) (E : Nat → Nat) (D : va_G) (C : Nat → ClassId) (e0 e1 e2 e3 e4 e5 e6 e7 e8 e9 e10 e11 e12 e13 e14 e15 : Nat) (sz : Nat) (m_s : Nat → Int32) (m_held : Nat → Int32) (m_aside : Nat → Int32) (m_before : Nat → Int32) (m_isHeld : Int32) (m_tape : Nat → Int32) (m_taped : Int32) (m_token : Int32) (m_from : Int32) (m_to : Int32) (m_value : Int32) (m_isWrong : Int32) (m_due : Nat → Int32) (m_firsts : Nat → Int32) (m_rows : Nat → Int32) (m_rowN : Int32) (m_sortOf : Nat → Int32) (m_sizeOf : Nat → Int32) (m_numbers : Nat → Int32) (m_holdsWhat : Nat → Int32) (m_holdsWhich : Nat → Int32) (m_holdsMany : Nat → Int32) (m_bodies : Nat → Int32) (m_ran : Int32) (m_actKind : Int32) (m_actN : Int32) (m_actA : Int32) (m_isParted : Int32) (x0 : Int32) (x1 : Int32) (x2 : Int32) (r : Int32) (m_bodies' : Nat → Int32) (m_ran' : Int32) (m_actKind' : Int32) (m_actN' : Int32) (m_actA' : Int32) (m_isParted' : Int32) (hf : f_X6_act m_s m_holdsWhat m_holdsWhich m_bodies m_ran m_actKind m_actN m_actA m_isParted x0 x1 x2 = some (r, m_bodies', m_ran', m_actKind', m_actN', m_actA', m_isParted')) : Met l yX6_act wsX6_act rmX6_act (PC E D C [.ref e0, .int x0, .int x1, .int x2] (oMM C e0 e1 e2 e3 e4 e5 e6 e7 e8 e9 e10 e11 e12 e13 e14 e15 m_s m_held m_aside m_before m_isHeld m_tape m_taped m_token m_from m_to m_value m_isWrong m_due m_firsts m_rows m_rowN m_sortOf m_sizeOf m_numbers m_holdsWhat m_holdsWhich m_holdsMany m_bodies m_ran m_actKind m_actN m_actA m_isParted []) sz) (QI D C (oMM C e0 e1 e2 e3 e4 e5 e6 e7 e8 e9 e10 e11 e12 e13 e14 e15 m_s m_held m_aside m_before m_isHeld m_tape m_taped m_token m_from m_to m_value m_isWrong m_due m_firsts m_rows m_rowN m_sortOf m_sizeOf m_numbers m_holdsWhat m_holdsWhich m_holdsMany m_bodies m_ran m_actKind m_actN m_actA m_isParted []) (oMM C e0 e1 e2 e3 e4 e5 e6 e7 e8 e9 e10 e11 e12 e13 e14 e15 m_s m_held m_aside m_before m_isHeld m_tape m_taped m_token m_from m_to m_value m_isWrong m_due m_firsts m_rows m_rowN m_sortOf m_sizeOf m_numbers m_holdsWhat m_holdsWhich m_holdsMany (m_bodies') (m_ran') (m_actKind') (m_actN') (m_actA') (m_isParted') []) sz r) 0 0 (va_A (oMM C e0 e1 e2 e3 e4 e5 e6 e7 e8 e9 e10 e11 e12 e13 e14 e15 m_s m_held m_aside m_before m_isHeld m_tape m_taped m_token m_from m_to m_value m_isWrong m_due m_firsts m_rows m_rowN m_sortOf m_sizeOf m_numbers m_holdsWhat m_holdsWhich m_holdsMany m_bodies m_ran m_actKind m_actN m_actA m_isParted []) sz) := by
  refine Met.ofW (cc := cX6_act) (maxL := 5) (ret := (some .int)) (by decide) rfl ?_
  intro p e s m args below meth c s₁ B hml hv
  obtain ⟨rfl, hsz, hP, hK, hD0, hE⟩ := hv
  have hx := B.exec
  have hb := B.bytes
  have hr := B.returns
  have hts := atoms_spec (ws := wsX6_act) B.pre
  have hown : s.vm.findClass RX6 = some m.cls := findClass_of_methodNamed B.named
  have hlocks := B.notSynchronized
  subst hsz
  have hi_RX6 : ∀ w ∈ wsX60, w ∈ wsX6_act := fun _ h => List.mem_cons_of_mem _ (List.mem_append_right _ h)
  have hD := hD0.self (sz := s.heap.size)
  obtain ⟨A, hAe⟩ := nm_ex (va_A (oMM C e0 e1 e2 e3 e4 e5 e6 e7 e8 e9 e10 e11 e12 e13 e14 e15 m_s m_held m_aside m_before m_isHeld m_tape m_taped m_token m_from m_to m_value m_isWrong m_due m_firsts m_rows m_rowN m_sortOf m_sizeOf m_numbers m_holdsWhat m_holdsWhich m_holdsMany m_bodies m_ran m_actKind m_actN m_actA m_isParted []) s.heap.size)
  rw [← hAe] at hD hE ⊢
  have hA : ∀ q : Nat, s.heap.size ≤ q → A q := fun q h => by rw [hAe]; exact Or.inr h
  have hS : va_S A s.heap s.heap [] := va_S.rf
  have hl := lv_entry ([.ref e0, .int x0, .int x1, .int x2]) (n := 5) (Nat.le_of_ble_eq_true rfl)
  rw [lg_entry_eq]
  generalize (lg_sl ([.ref e0, .int x0, .int x1, .int x2]) ++ List.replicate (5 - (lg_sl ([.ref e0, .int x0, .int x1, .int x2])).length) Slot.unset).toArray = ls at hl ⊢
  have hl : lv_has ls 5 [(0, .ref e0), (1, .int x0), (2, .int x1), (3, .int x2)] := hl
  obtain ⟨Q, hQ⟩ := nm_ex (MQ below (QI D C (oMM C e0 e1 e2 e3 e4 e5 e6 e7 e8 e9 e10 e11 e12 e13 e14 e15 m_s m_held m_aside m_before m_isHeld m_tape m_taped m_token m_from m_to m_value m_isWrong m_due m_firsts m_rows m_rowN m_sortOf m_sizeOf m_numbers m_holdsWhat m_holdsWhich m_holdsMany m_bodies m_ran m_actKind m_actN m_actA m_isParted []) (oMM C e0 e1 e2 e3 e4 e5 e6 e7 e8 e9 e10 e11 e12 e13 e14 e15 m_s m_held m_aside m_before m_isHeld m_tape m_taped m_token m_from m_to m_value m_isWrong m_due m_firsts m_rows m_rowN m_sortOf m_sizeOf m_numbers m_holdsWhat m_holdsWhich m_holdsMany (m_bodies') (m_ran') (m_actKind') (m_actN') (m_actA') (m_isParted') []) s.heap.size r) (List.toArray [Value.ref e0, Value.int x0, Value.int x1, Value.int x2]) s 0 0 A)
  show W p l e (headSpec wsX6_act (rmX6_act)).room s m (List.toArray [Value.ref e0, Value.int x0, Value.int x1, Value.int x2]) below meth c s.heap [] 0 0 (MQ below (QI D C (oMM C e0 e1 e2 e3 e4 e5 e6 e7 e8 e9 e10 e11 e12 e13 e14 e15 m_s m_held m_aside m_before m_isHeld m_tape m_taped m_token m_from m_to m_value m_isWrong m_due m_firsts m_rows m_rowN m_sortOf m_sizeOf m_numbers m_holdsWhat m_holdsWhich m_holdsMany m_bodies m_ran m_actKind m_actN m_actA m_isParted []) (oMM C e0 e1 e2 e3 e4 e5 e6 e7 e8 e9 e10 e11 e12 e13 e14 e15 m_s m_held m_aside m_before m_isHeld m_tape m_taped m_token m_from m_to m_value m_isWrong m_due m_firsts m_rows m_rowN m_sortOf m_sizeOf m_numbers m_holdsWhat m_holdsWhich m_holdsMany (m_bodies') (m_ran') (m_actKind') (m_actN') (m_actA') (m_isParted') []) s.heap.size r) (List.toArray [Value.ref e0, Value.int x0, Value.int x1, Value.int x2]) s 0 0 A) _
  rw [← hQ]
  unfold f_X6_act at hf
  have main : ∀ (H : Heap) (locs : List Loc), va_P D vwCl (oMM C e0 e1 e2 e3 e4 e5 e6 e7 e8 e9 e10 e11 e12 e13 e14 e15 m_s m_held m_aside m_before m_isHeld m_tape m_taped m_token m_from m_to m_value m_isWrong m_due m_firsts m_rows m_rowN m_sortOf m_sizeOf m_numbers m_holdsWhat m_holdsWhich m_holdsMany m_bodies m_ran m_actKind m_actN m_actA m_isParted []) H → va_D A (oMM C e0 e1 e2 e3 e4 e5 e6 e7 e8 e9 e10 e11 e12 e13 e14 e15 m_s m_held m_aside m_before m_isHeld m_tape m_taped m_token m_from m_to m_value m_isWrong m_due m_firsts m_rows m_rowN m_sortOf m_sizeOf m_numbers m_holdsWhat m_holdsWhich m_holdsMany m_bodies m_ran m_actKind m_actN m_actA m_isParted []) → va_S A s.heap H locs → W p l e (headSpec wsX6_act (rmX6_act)).room s m (List.toArray [Value.ref e0, Value.int x0, Value.int x1, Value.int x2]) below meth c H locs 0 0 Q (F0 m 0 ls []) := by
    intro H locs hP hD hS
    refine lv_aload_n hx hb dX6_act_0 rfl (lv_at hl 0 rfl) ?_
    refine lv_iconst (v := 0) hx hb dX6_act_1 rfl ?_
    refine va_put (D := D) (ci := 6) (v := .int 0) (ty := .int) (C := RX6) (T := TX6) (N := 28) hx hb hts hi_RX6 tyX6 tyX6_ok nmX6 hown hK hP hD hS 0 rfl rfl 23 (by decide) (hts (.fieldLink RX6 299 "TravelMarksModel" "ran" "I") (List.mem_of_getElem? (i := 1) rfl)) (fun _ h9 => h9) rfl (tyX6_ok 23 (by decide)) rfl rfl (Nat.le_of_ble_eq_true rfl) dX6_act_2 (fun H locs hP hD hS => ?_)
    have hP : va_P D vwCl (oMM C e0 e1 e2 e3 e4 e5 e6 e7 e8 e9 e10 e11 e12 e13 e14 e15 m_s m_held m_aside m_before m_isHeld m_tape m_taped m_token m_from m_to m_value m_isWrong m_due m_firsts m_rows m_rowN m_sortOf m_sizeOf m_numbers m_holdsWhat m_holdsWhich m_holdsMany m_bodies 0 m_actKind m_actN m_actA m_isParted []) H := hP
    have hD : va_D A (oMM C e0 e1 e2 e3 e4 e5 e6 e7 e8 e9 e10 e11 e12 e13 e14 e15 m_s m_held m_aside m_before m_isHeld m_tape m_taped m_token m_from m_to m_value m_isWrong m_due m_firsts m_rows m_rowN m_sortOf m_sizeOf m_numbers m_holdsWhat m_holdsWhich m_holdsMany m_bodies 0 m_actKind m_actN m_actA m_isParted []) := hD
    refine lv_iload_n hx hb dX6_act_5 rfl (lv_at hl 1 rfl) ?_
    refine kcz (Wx := (oMM C e0 e1 e2 e3 e4 e5 e6 e7 e8 e9 e10 e11 e12 e13 e14 e15 m_s m_held m_aside m_before m_isHeld m_tape m_taped m_token m_from m_to m_value m_isWrong m_due m_firsts m_rows m_rowN m_sortOf m_sizeOf m_numbers m_holdsWhat m_holdsWhich m_holdsMany m_bodies 0 m_actKind m_actN m_actA m_isParted [])) (va_runS (As := [.int x0]) (rest := []) ⟨hx, hb, hml, hown, hts⟩ (c_X6_isShelf l E D C H.size x0 _ rfl) (va_cwS 1 hts gX6_act_X6_isShelf rfl rfl rfl hdX6_isShelf ⟨Nat.le_of_ble_eq_true rfl, Nat.le_of_ble_eq_true rfl⟩) (kpre hP hD hK hS hE hA [] rfl rfl) rfl rfl hl.1 rfl (lv_room (Nat.le_of_ble_eq_true rfl)) dX6_act_6 ⟨Nat.zero_le _, Nat.zero_le _⟩) hP hD hS hA [] rfl rfl rfl (fun H locs hz1 hP hD hS => ?_)
    refine lv_if_eq (tgt := 33) hx hb dX6_act_9 (by decide) (fun c2 => ?_) (fun c2 => ?_)
    · replace hf := if_te c2 hf
      refine lv_iconst (v := 0) hx hb dX6_act_33 rfl ?_
      cases hf
      exact kri hQ hAe hx hb hr hlocks hP hD hK hS dX6_act_34
    · replace hf := if_fe c2 hf
      refine lv_iload_n hx hb dX6_act_12 rfl (lv_at hl 2 rfl) ?_
      refine lv_i2l hx hb dX6_act_13 rfl ?_
      refine lv_lconst (v := 0) hx hb dX6_act_14 rfl ?_
      refine lv_ldc2 (v := 3) hx hb hown (hts (.constantLong RX6 156 (3)) (List.mem_of_getElem? (i := 2) rfl)) dX6_act_15 ?_
      refine kcz (Wx := (oMM C e0 e1 e2 e3 e4 e5 e6 e7 e8 e9 e10 e11 e12 e13 e14 e15 m_s m_held m_aside m_before m_isHeld m_tape m_taped m_token m_from m_to m_value m_isWrong m_due m_firsts m_rows m_rowN m_sortOf m_sizeOf m_numbers m_holdsWhat m_holdsWhich m_holdsMany m_bodies 0 m_actKind m_actN m_actA m_isParted [])) (va_runS (As := [.long (Int32.toInt64 x1), .long 0, .long 3]) (rest := []) ⟨hx, hb, hml, hown, hts⟩ (c_X6_isIn l E D C H.size (Int32.toInt64 x1) 0 3 _ rfl) (va_cwS 3 hts gX6_act_X6_isIn rfl rfl rfl hdX6_isIn ⟨Nat.le_of_ble_eq_true rfl, Nat.le_of_ble_eq_true rfl⟩) (kpre hP hD hK hS hE hA [] rfl rfl) rfl rfl hl.1 rfl (lv_room (Nat.le_of_ble_eq_true rfl)) dX6_act_18 ⟨Nat.zero_le _, Nat.zero_le _⟩) hP hD hS hA [] rfl rfl rfl (fun H locs hz3 hP hD hS => ?_)
      refine lv_if_eq (tgt := 33) hx hb dX6_act_21 (by decide) (fun c4 => ?_) (fun c4 => ?_)
      · replace hf := if_te c4 hf
        refine lv_iconst (v := 0) hx hb dX6_act_33 rfl ?_
        cases hf
        exact kri hQ hAe hx hb hr hlocks hP hD hK hS dX6_act_34
      · replace hf := if_fe c4 hf
        refine lv_aload_n hx hb dX6_act_24 rfl (lv_at hl 0 rfl) ?_
        refine lv_iload_n hx hb dX6_act_25 rfl (lv_at hl 1 rfl) ?_
        obtain ⟨r5, h6, hf⟩ := ob1_e hf
        refine kci (Wx := (oMM C e0 e1 e2 e3 e4 e5 e6 e7 e8 e9 e10 e11 e12 e13 e14 e15 m_s m_held m_aside m_before m_isHeld m_tape m_taped m_token m_from m_to m_value m_isWrong m_due m_firsts m_rows m_rowN m_sortOf m_sizeOf m_numbers m_holdsWhat m_holdsWhich m_holdsMany m_bodies 0 m_actKind m_actN m_actA m_isParted [])) (va_runV (As := [.int x0]) (rest := []) ⟨hx, hb, hml, hown, hts⟩ (c_X6_heldOn l E D C e0 e1 e2 e3 e4 e5 e6 e7 e8 e9 e10 e11 e12 e13 e14 e15 H.size m_s m_held m_aside m_before m_isHeld m_tape m_taped m_token m_from m_to m_value m_isWrong m_due m_firsts m_rows m_rowN m_sortOf m_sizeOf m_numbers m_holdsWhat m_holdsWhich m_holdsMany m_bodies 0 m_actKind m_actN m_actA m_isParted x0 r5 h6) (cwV 1 hts gX6_act_X6_heldOn rfl rfl rfl hdX6_heldOn ⟨Nat.le_of_ble_eq_true rfl, Nat.le_of_ble_eq_true rfl⟩) (kpreV hP hD hK hS hE hA [0, 1, 2, 3, 4, 5, 6, 7, 8, 9, 10, 11, 12, 13, 14, 15] rfl rfl 0 rfl rfl rfl) rfl rfl hl.1 rfl (lv_room (Nat.le_of_ble_eq_true rfl)) dX6_act_26 ⟨Nat.zero_le _, Nat.zero_le _⟩) hP hD hS hA [0, 1, 2, 3, 4, 5, 6, 7, 8, 9, 10, 11, 12, 13, 14, 15] rfl rfl rfl (fun H locs hP hD hS => ?_)
        refine lv_iconst (v := 1) hx hb dX6_act_29 rfl ?_
        refine lv_icmp_eq (tgt := 35) hx hb dX6_act_30 (by decide) (fun c7 => ?_) (fun c7 => ?_)
        · replace hf := if_te c7 hf
          refine lv_aload_n hx hb dX6_act_35 rfl (lv_at hl 0 rfl) ?_
          refine lv_iconst (v := 0) hx hb dX6_act_36 rfl ?_
          refine va_put (D := D) (ci := 6) (v := .int 0) (ty := .boolean) (C := RX6) (T := TX6) (N := 28) hx hb hts hi_RX6 tyX6 tyX6_ok nmX6 hown hK hP hD hS 0 rfl rfl 27 (by decide) (hts (.fieldLink RX6 326 "TravelMarksModel" "isParted" "Z") (List.mem_of_getElem? (i := 3) rfl)) (fun _ h9 => h9) rfl (tyX6_ok 27 (by decide)) zb_0.1 zb_0.2 (Nat.le_of_ble_eq_true rfl) dX6_act_37 (fun H locs hP hD hS => ?_)
          have hP : va_P D vwCl (oMM C e0 e1 e2 e3 e4 e5 e6 e7 e8 e9 e10 e11 e12 e13 e14 e15 m_s m_held m_aside m_before m_isHeld m_tape m_taped m_token m_from m_to m_value m_isWrong m_due m_firsts m_rows m_rowN m_sortOf m_sizeOf m_numbers m_holdsWhat m_holdsWhich m_holdsMany m_bodies 0 m_actKind m_actN m_actA 0 []) H := hP
          have hD : va_D A (oMM C e0 e1 e2 e3 e4 e5 e6 e7 e8 e9 e10 e11 e12 e13 e14 e15 m_s m_held m_aside m_before m_isHeld m_tape m_taped m_token m_from m_to m_value m_isWrong m_due m_firsts m_rows m_rowN m_sortOf m_sizeOf m_numbers m_holdsWhat m_holdsWhich m_holdsMany m_bodies 0 m_actKind m_actN m_actA 0 []) := hD
          refine lv_aload_n hx hb dX6_act_40 rfl (lv_at hl 0 rfl) ?_
          refine lv_aload_n hx hb dX6_act_41 rfl (lv_at hl 0 rfl) ?_
          refine lv_aload_n hx hb dX6_act_42 rfl (lv_at hl 0 rfl) ?_
          refine va_get (D := D) (ci := 6) (v := .ref e13) (C := RX6) (T := TX6) (N := 28) hx hb hts hi_RX6 hown hK hP 0 rfl rfl 20 (by decide) (hts (.fieldLink RX6 46 "TravelMarksModel" "holdsWhich" "[I") (List.mem_of_getElem? (i := 4) rfl)) (fun _ h9 => h9) rfl dX6_act_43 ?_
          refine lv_iload_n hx hb dX6_act_46 rfl (lv_at hl 1 rfl) ?_
          obtain ⟨y9, ey9, hi8, hf⟩ := rdA_x hf
          refine va_iald hx hb hK hP 13 0 rfl rfl hi8 dX6_act_47 ?_
          refine lv_ren ey9 ?_
          refine lv_iconst (v := 0) hx hb dX6_act_48 rfl ?_
          obtain ⟨r10, h11, hf⟩ := ob1_e hf
          refine kci (Wx := (oMM C e0 e1 e2 e3 e4 e5 e6 e7 e8 e9 e10 e11 e12 e13 e14 e15 m_s m_held m_aside m_before m_isHeld m_tape m_taped m_token m_from m_to m_value m_isWrong m_due m_firsts m_rows m_rowN m_sortOf m_sizeOf m_numbers m_holdsWhat m_holdsWhich m_holdsMany m_bodies 0 m_actKind m_actN m_actA 0 [])) (va_runV (As := [.int y9, .int 0]) (rest := [.ref e0]) ⟨hx, hb, hml, hown, hts⟩ (c_X6_its l E D C e0 e1 e2 e3 e4 e5 e6 e7 e8 e9 e10 e11 e12 e13 e14 e15 H.size m_s m_held m_aside m_before m_isHeld m_tape m_taped m_token m_from m_to m_value m_isWrong m_due m_firsts m_rows m_rowN m_sortOf m_sizeOf m_numbers m_holdsWhat m_holdsWhich m_holdsMany m_bodies 0 m_actKind m_actN m_actA 0 y9 0 r10 h11) (cwV 2 hts gX6_act_X6_its rfl rfl rfl hdX6_its ⟨Nat.le_of_ble_eq_true rfl, Nat.le_of_ble_eq_true rfl⟩) (kpreV hP hD hK hS hE hA [0, 1, 2, 3, 4, 5, 6, 7, 8, 9, 10, 11, 12, 13, 14, 15] rfl rfl 0 rfl rfl rfl) rfl rfl hl.1 rfl (lv_room (Nat.le_of_ble_eq_true rfl)) dX6_act_49 ⟨Nat.zero_le _, Nat.zero_le _⟩) hP hD hS hA [0, 1, 2, 3, 4, 5, 6, 7, 8, 9, 10, 11, 12, 13, 14, 15] rfl rfl rfl (fun H locs hP hD hS => ?_)
          refine va_put (D := D) (ci := 6) (v := .int r10) (ty := .int) (C := RX6) (T := TX6) (N := 28) hx hb hts hi_RX6 tyX6 tyX6_ok nmX6 hown hK hP hD hS 0 rfl rfl 24 (by decide) (hts (.fieldLink RX6 311 "TravelMarksModel" "actKind" "I") (List.mem_of_getElem? (i := 5) rfl)) (fun _ h9 => h9) rfl (tyX6_ok 24 (by decide)) rfl rfl (Nat.le_of_ble_eq_true rfl) dX6_act_52 (fun H locs hP hD hS => ?_)
          have hP : va_P D vwCl (oMM C e0 e1 e2 e3 e4 e5 e6 e7 e8 e9 e10 e11 e12 e13 e14 e15 m_s m_held m_aside m_before m_isHeld m_tape m_taped m_token m_from m_to m_value m_isWrong m_due m_firsts m_rows m_rowN m_sortOf m_sizeOf m_numbers m_holdsWhat m_holdsWhich m_holdsMany m_bodies 0 r10 m_actN m_actA 0 []) H := hP
          have hD : va_D A (oMM C e0 e1 e2 e3 e4 e5 e6 e7 e8 e9 e10 e11 e12 e13 e14 e15 m_s m_held m_aside m_before m_isHeld m_tape m_taped m_token m_from m_to m_value m_isWrong m_due m_firsts m_rows m_rowN m_sortOf m_sizeOf m_numbers m_holdsWhat m_holdsWhich m_holdsMany m_bodies 0 r10 m_actN m_actA 0 []) := hD
          refine lv_aload_n hx hb dX6_act_55 rfl (lv_at hl 0 rfl) ?_
          refine lv_aload_n hx hb dX6_act_56 rfl (lv_at hl 0 rfl) ?_
          refine va_get (D := D) (ci := 6) (v := .ref e13) (C := RX6) (T := TX6) (N := 28) hx hb hts hi_RX6 hown hK hP 0 rfl rfl 20 (by decide) (hts (.fieldLink RX6 46 "TravelMarksModel" "holdsWhich" "[I") (List.mem_of_getElem? (i := 4) rfl)) (fun _ h9 => h9) rfl dX6_act_57 ?_
          refine lv_iload_n hx hb dX6_act_60 rfl (lv_at hl 1 rfl) ?_
          obtain ⟨y13, ey13, hi12, hf⟩ := rdA_x hf
          refine va_iald hx hb hK hP 13 0 rfl rfl hi12 dX6_act_61 ?_
          refine lv_ren ey13 ?_
          refine va_put (D := D) (ci := 6) (v := .int y13) (ty := .int) (C := RX6) (T := TX6) (N := 28) hx hb hts hi_RX6 tyX6 tyX6_ok nmX6 hown hK hP hD hS 0 rfl rfl 25 (by decide) (hts (.fieldLink RX6 305 "TravelMarksModel" "actN" "I") (List.mem_of_getElem? (i := 6) rfl)) (fun _ h9 => h9) rfl (tyX6_ok 25 (by decide)) rfl rfl (Nat.le_of_ble_eq_true rfl) dX6_act_62 (fun H locs hP hD hS => ?_)
          have hP : va_P D vwCl (oMM C e0 e1 e2 e3 e4 e5 e6 e7 e8 e9 e10 e11 e12 e13 e14 e15 m_s m_held m_aside m_before m_isHeld m_tape m_taped m_token m_from m_to m_value m_isWrong m_due m_firsts m_rows m_rowN m_sortOf m_sizeOf m_numbers m_holdsWhat m_holdsWhich m_holdsMany m_bodies 0 r10 y13 m_actA 0 []) H := hP
          have hD : va_D A (oMM C e0 e1 e2 e3 e4 e5 e6 e7 e8 e9 e10 e11 e12 e13 e14 e15 m_s m_held m_aside m_before m_isHeld m_tape m_taped m_token m_from m_to m_value m_isWrong m_due m_firsts m_rows m_rowN m_sortOf m_sizeOf m_numbers m_holdsWhat m_holdsWhich m_holdsMany m_bodies 0 r10 y13 m_actA 0 []) := hD
          refine lv_aload_n hx hb dX6_act_65 rfl (lv_at hl 0 rfl) ?_
          refine lv_aload_n hx hb dX6_act_66 rfl (lv_at hl 0 rfl) ?_
          refine lv_aload_n hx hb dX6_act_67 rfl (lv_at hl 0 rfl) ?_
          refine va_get (D := D) (ci := 6) (v := .ref e13) (C := RX6) (T := TX6) (N := 28) hx hb hts hi_RX6 hown hK hP 0 rfl rfl 20 (by decide) (hts (.fieldLink RX6 46 "TravelMarksModel" "holdsWhich" "[I") (List.mem_of_getElem? (i := 4) rfl)) (fun _ h9 => h9) rfl dX6_act_68 ?_
          refine lv_iload_n hx hb dX6_act_71 rfl (lv_at hl 1 rfl) ?_
          obtain ⟨y15, ey15, hi14, hf⟩ := rdA_x hf
          refine va_iald hx hb hK hP 13 0 rfl rfl hi14 dX6_act_72 ?_
          refine lv_ren ey15 ?_
          refine lv_iconst (v := 2) hx hb dX6_act_73 rfl ?_
          obtain ⟨r16, h17, hf⟩ := ob1_e hf
          refine kci (Wx := (oMM C e0 e1 e2 e3 e4 e5 e6 e7 e8 e9 e10 e11 e12 e13 e14 e15 m_s m_held m_aside m_before m_isHeld m_tape m_taped m_token m_from m_to m_value m_isWrong m_due m_firsts m_rows m_rowN m_sortOf m_sizeOf m_numbers m_holdsWhat m_holdsWhich m_holdsMany m_bodies 0 r10 y13 m_actA 0 [])) (va_runV (As := [.int y15, .int 2]) (rest := [.ref e0]) ⟨hx, hb, hml, hown, hts⟩ (c_X6_its l E D C e0 e1 e2 e3 e4 e5 e6 e7 e8 e9 e10 e11 e12 e13 e14 e15 H.size m_s m_held m_aside m_before m_isHeld m_tape m_taped m_token m_from m_to m_value m_isWrong m_due m_firsts m_rows m_rowN m_sortOf m_sizeOf m_numbers m_holdsWhat m_holdsWhich m_holdsMany m_bodies 0 r10 y13 m_actA 0 y15 2 r16 h17) (cwV 2 hts gX6_act_X6_its rfl rfl rfl hdX6_its ⟨Nat.le_of_ble_eq_true rfl, Nat.le_of_ble_eq_true rfl⟩) (kpreV hP hD hK hS hE hA [0, 1, 2, 3, 4, 5, 6, 7, 8, 9, 10, 11, 12, 13, 14, 15] rfl rfl 0 rfl rfl rfl) rfl rfl hl.1 rfl (lv_room (Nat.le_of_ble_eq_true rfl)) dX6_act_74 ⟨Nat.zero_le _, Nat.zero_le _⟩) hP hD hS hA [0, 1, 2, 3, 4, 5, 6, 7, 8, 9, 10, 11, 12, 13, 14, 15] rfl rfl rfl (fun H locs hP hD hS => ?_)
          refine va_put (D := D) (ci := 6) (v := .int r16) (ty := .int) (C := RX6) (T := TX6) (N := 28) hx hb hts hi_RX6 tyX6 tyX6_ok nmX6 hown hK hP hD hS 0 rfl rfl 26 (by decide) (hts (.fieldLink RX6 317 "TravelMarksModel" "actA" "I") (List.mem_of_getElem? (i := 7) rfl)) (fun _ h9 => h9) rfl (tyX6_ok 26 (by decide)) rfl rfl (Nat.le_of_ble_eq_true rfl) dX6_act_77 (fun H locs hP hD hS => ?_)
          have hP : va_P D vwCl (oMM C e0 e1 e2 e3 e4 e5 e6 e7 e8 e9 e10 e11 e12 e13 e14 e15 m_s m_held m_aside m_before m_isHeld m_tape m_taped m_token m_from m_to m_value m_isWrong m_due m_firsts m_rows m_rowN m_sortOf m_sizeOf m_numbers m_holdsWhat m_holdsWhich m_holdsMany m_bodies 0 r10 y13 r16 0 []) H := hP
          have hD : va_D A (oMM C e0 e1 e2 e3 e4 e5 e6 e7 e8 e9 e10 e11 e12 e13 e14 e15 m_s m_held m_aside m_before m_isHeld m_tape m_taped m_token m_from m_to m_value m_isWrong m_due m_firsts m_rows m_rowN m_sortOf m_sizeOf m_numbers m_holdsWhat m_holdsWhich m_holdsMany m_bodies 0 r10 y13 r16 0 []) := hD
          refine lv_iload_n hx hb dX6_act_80 rfl (lv_at hl 2 rfl) ?_
          obtain ⟨j22, hj22, hf⟩ := lj_e hf
          have Hj22 : ∀ (k18 : Int32) (v19 : Nat → Int32) (v20 : Int32) (v21 : Int32) (H : Heap) (locs : List Loc) (ls : Array Slot), va_P D vwCl (oMM C e0 e1 e2 e3 e4 e5 e6 e7 e8 e9 e10 e11 e12 e13 e14 e15 m_s m_held m_aside m_before m_isHeld m_tape m_taped m_token m_from m_to m_value m_isWrong m_due m_firsts m_rows m_rowN m_sortOf m_sizeOf m_numbers m_holdsWhat m_holdsWhich m_holdsMany v19 v20 r10 y13 r16 v21 []) H → va_D A (oMM C e0 e1 e2 e3 e4 e5 e6 e7 e8 e9 e10 e11 e12 e13 e14 e15 m_s m_held m_aside m_before m_isHeld m_tape m_taped m_token m_from m_to m_value m_isWrong m_due m_firsts m_rows m_rowN m_sortOf m_sizeOf m_numbers m_holdsWhat m_holdsWhich m_holdsMany v19 v20 r10 y13 r16 v21 []) → va_S A s.heap H locs → lv_has ls 5 [(0, .ref e0)] → j22 k18 v19 v20 v21 = some (r, m_bodies', m_ran', m_actKind', m_actN', m_actA', m_isParted') → W p l e (headSpec wsX6_act (rmX6_act)).room s m (List.toArray [Value.ref e0, Value.int x0, Value.int x1, Value.int x2]) below meth c H locs 0 0 Q (F0 m 123 ls [.int k18]) := by
            intro k18 v19 v20 v21 H locs ls hP hD hS hl hf
            rw [hj22] at hf
            refine lv_istore (lv' := [(4, .int k18), (0, .ref e0)]) hx hb dX6_act_123 hl (by decide) rfl (fun ls hl => ?_)
            refine lv_aload_n hx hb dX6_act_125 rfl (lv_at hl 1 rfl) ?_
            refine va_get (D := D) (ci := 6) (v := .int v21) (C := RX6) (T := TX6) (N := 28) hx hb hts hi_RX6 hown hK hP 0 rfl rfl 27 (by decide) (hts (.fieldLink RX6 326 "TravelMarksModel" "isParted" "Z") (List.mem_of_getElem? (i := 3) rfl)) (fun _ h9 => h9) rfl dX6_act_126 ?_
            refine lv_if_eq (tgt := 137) hx hb dX6_act_129 (by decide) (fun c23 => ?_) (fun c23 => ?_)
            · replace hf := if_te c23 hf
              refine lv_iload hx hb dX6_act_137 (lv_at hl 0 rfl) ?_
              cases hf
              exact kri hQ hAe hx hb hr hlocks hP hD hK hS dX6_act_139
            · replace hf := if_fe c23 hf
              refine lv_bipush (v := (-15)) hx hb dX6_act_132 rfl ?_
              refine lv_goto (tgt := 139) hx hb dX6_act_134 (by decide) ?_
              cases hf
              exact kri hQ hAe hx hb hr hlocks hP hD hK hS dX6_act_139
          refine lv_if_ne (tgt := 92) hx hb dX6_act_81 (by decide) (fun c24 => ?_) (fun c24 => ?_)
          · replace hf := if_fe c24 hf
            refine lv_iload_n hx hb dX6_act_92 rfl (lv_at hl 2 rfl) ?_
            refine lv_iconst (v := 1) hx hb dX6_act_93 rfl ?_
            refine lv_icmp_ne (tgt := 105) hx hb dX6_act_94 (by decide) (fun c25 => ?_) (fun c25 => ?_)
            · replace hf := if_fe c25 hf
              refine lv_iload_n hx hb dX6_act_105 rfl (lv_at hl 2 rfl) ?_
              refine lv_iconst (v := 2) hx hb dX6_act_106 rfl ?_
              refine lv_icmp_ne (tgt := 118) hx hb dX6_act_107 (by decide) (fun c26 => ?_) (fun c26 => ?_)
              · replace hf := if_fe c26 hf
                refine lv_aload_n hx hb dX6_act_118 rfl (lv_at hl 0 rfl) ?_
                refine lv_iload_n hx hb dX6_act_119 rfl (lv_at hl 3 rfl) ?_
                obtain ⟨r27, v28, v29, v30, h31, hf⟩ := ob4_e hf
                refine kci (Wx := (oMM C e0 e1 e2 e3 e4 e5 e6 e7 e8 e9 e10 e11 e12 e13 e14 e15 m_s m_held m_aside m_before m_isHeld m_tape m_taped m_token m_from m_to m_value m_isWrong m_due m_firsts m_rows m_rowN m_sortOf m_sizeOf m_numbers m_holdsWhat m_holdsWhich m_holdsMany v28 v29 r10 y13 r16 v30 [])) (va_runV (As := [.int x2]) (rest := []) ⟨hx, hb, hml, hown, hts⟩ (c_X6_bites l E D C e0 e1 e2 e3 e4 e5 e6 e7 e8 e9 e10 e11 e12 e13 e14 e15 H.size m_s m_held m_aside m_before m_isHeld m_tape m_taped m_token m_from m_to m_value m_isWrong m_due m_firsts m_rows m_rowN m_sortOf m_sizeOf m_numbers m_holdsWhat m_holdsWhich m_holdsMany m_bodies 0 r10 y13 r16 0 x2 r27 v28 v29 v30 h31) (cwV 1 hts gX6_act_X6_bites rfl rfl rfl hdX6_bites ⟨Nat.le_of_ble_eq_true rfl, Nat.le_of_ble_eq_true rfl⟩) (kpreV hP hD hK hS hE hA [0, 1, 2, 3, 4, 5, 6, 7, 8, 9, 10, 11, 12, 13, 14, 15] rfl rfl 0 rfl rfl rfl) rfl rfl hl.1 rfl (lv_room (Nat.le_of_ble_eq_true rfl)) dX6_act_120 ⟨Nat.zero_le _, Nat.zero_le _⟩) hP hD hS hA [0, 1, 2, 3, 4, 5, 6, 7, 8, 9, 10, 11, 12, 13, 14, 15] rfl rfl rfl (fun H locs hP hD hS => ?_)
                exact Hj22 r27 v28 v29 v30 H locs ls hP hD hS (lv_sub hl [0] rfl) hf
              · replace hf := if_te c26 hf
                refine lv_aload_n hx hb dX6_act_110 rfl (lv_at hl 0 rfl) ?_
                refine lv_iload_n hx hb dX6_act_111 rfl (lv_at hl 3 rfl) ?_
                obtain ⟨r32, v33, v34, v35, h36, hf⟩ := ob4_e hf
                refine kci (Wx := (oMM C e0 e1 e2 e3 e4 e5 e6 e7 e8 e9 e10 e11 e12 e13 e14 e15 m_s m_held m_aside m_before m_isHeld m_tape m_taped m_token m_from m_to m_value m_isWrong m_due m_firsts m_rows m_rowN m_sortOf m_sizeOf m_numbers m_holdsWhat m_holdsWhich m_holdsMany v33 v34 r10 y13 r16 v35 [])) (va_runV (As := [.int x2]) (rest := []) ⟨hx, hb, hml, hown, hts⟩ (c_X6_parts l E D C e0 e1 e2 e3 e4 e5 e6 e7 e8 e9 e10 e11 e12 e13 e14 e15 H.size m_s m_held m_aside m_before m_isHeld m_tape m_taped m_token m_from m_to m_value m_isWrong m_due m_firsts m_rows m_rowN m_sortOf m_sizeOf m_numbers m_holdsWhat m_holdsWhich m_holdsMany m_bodies 0 r10 y13 r16 0 x2 r32 v33 v34 v35 h36) (cwV 1 hts gX6_act_X6_parts rfl rfl rfl hdX6_parts ⟨Nat.le_of_ble_eq_true rfl, Nat.le_of_ble_eq_true rfl⟩) (kpreV hP hD hK hS hE hA [0, 1, 2, 3, 4, 5, 6, 7, 8, 9, 10, 11, 12, 13, 14, 15] rfl rfl 0 rfl rfl rfl) rfl rfl hl.1 rfl (lv_room (Nat.le_of_ble_eq_true rfl)) dX6_act_112 ⟨Nat.zero_le _, Nat.zero_le _⟩) hP hD hS hA [0, 1, 2, 3, 4, 5, 6, 7, 8, 9, 10, 11, 12, 13, 14, 15] rfl rfl rfl (fun H locs hP hD hS => ?_)
                refine lv_goto (tgt := 123) hx hb dX6_act_115 (by decide) ?_
                exact Hj22 r32 v33 v34 v35 H locs ls hP hD hS (lv_sub hl [0] rfl) hf
            · replace hf := if_te c25 hf
              refine lv_aload_n hx hb dX6_act_97 rfl (lv_at hl 0 rfl) ?_
              refine lv_iload_n hx hb dX6_act_98 rfl (lv_at hl 3 rfl) ?_
              obtain ⟨r37, v38, v39, h40, hf⟩ := ob3_e hf
              refine kci (Wx := (oMM C e0 e1 e2 e3 e4 e5 e6 e7 e8 e9 e10 e11 e12 e13 e14 e15 m_s m_held m_aside m_before m_isHeld m_tape m_taped m_token m_from m_to m_value m_isWrong m_due m_firsts m_rows m_rowN m_sortOf m_sizeOf m_numbers m_holdsWhat m_holdsWhich m_holdsMany v38 v39 r10 y13 r16 0 [])) (va_runV (As := [.int x2]) (rest := []) ⟨hx, hb, hml, hown, hts⟩ (c_X6_crawls l E D C e0 e1 e2 e3 e4 e5 e6 e7 e8 e9 e10 e11 e12 e13 e14 e15 H.size m_s m_held m_aside m_before m_isHeld m_tape m_taped m_token m_from m_to m_value m_isWrong m_due m_firsts m_rows m_rowN m_sortOf m_sizeOf m_numbers m_holdsWhat m_holdsWhich m_holdsMany m_bodies 0 r10 y13 r16 0 x2 r37 v38 v39 h40) (cwV 1 hts gX6_act_X6_crawls rfl rfl rfl hdX6_crawls ⟨Nat.le_of_ble_eq_true rfl, Nat.le_of_ble_eq_true rfl⟩) (kpreV hP hD hK hS hE hA [0, 1, 2, 3, 4, 5, 6, 7, 8, 9, 10, 11, 12, 13, 14, 15] rfl rfl 0 rfl rfl rfl) rfl rfl hl.1 rfl (lv_room (Nat.le_of_ble_eq_true rfl)) dX6_act_99 ⟨Nat.zero_le _, Nat.zero_le _⟩) hP hD hS hA [0, 1, 2, 3, 4, 5, 6, 7, 8, 9, 10, 11, 12, 13, 14, 15] rfl rfl rfl (fun H locs hP hD hS => ?_)
              refine lv_goto (tgt := 123) hx hb dX6_act_102 (by decide) ?_
              exact Hj22 r37 v38 v39 0 H locs ls hP hD hS (lv_sub hl [0] rfl) hf
          · replace hf := if_te c24 hf
            refine lv_aload_n hx hb dX6_act_84 rfl (lv_at hl 0 rfl) ?_
            refine lv_iload_n hx hb dX6_act_85 rfl (lv_at hl 3 rfl) ?_
            obtain ⟨r41, v42, v43, h44, hf⟩ := ob3_e hf
            refine kci (Wx := (oMM C e0 e1 e2 e3 e4 e5 e6 e7 e8 e9 e10 e11 e12 e13 e14 e15 m_s m_held m_aside m_before m_isHeld m_tape m_taped m_token m_from m_to m_value m_isWrong m_due m_firsts m_rows m_rowN m_sortOf m_sizeOf m_numbers m_holdsWhat m_holdsWhich m_holdsMany v42 v43 r10 y13 r16 0 [])) (va_runV (As := [.int x2]) (rest := []) ⟨hx, hb, hml, hown, hts⟩ (c_X6_itches l E D C e0 e1 e2 e3 e4 e5 e6 e7 e8 e9 e10 e11 e12 e13 e14 e15 H.size m_s m_held m_aside m_before m_isHeld m_tape m_taped m_token m_from m_to m_value m_isWrong m_due m_firsts m_rows m_rowN m_sortOf m_sizeOf m_numbers m_holdsWhat m_holdsWhich m_holdsMany m_bodies 0 r10 y13 r16 0 x2 r41 v42 v43 h44) (cwV 1 hts gX6_act_X6_itches rfl rfl rfl hdX6_itches ⟨Nat.le_of_ble_eq_true rfl, Nat.le_of_ble_eq_true rfl⟩) (kpreV hP hD hK hS hE hA [0, 1, 2, 3, 4, 5, 6, 7, 8, 9, 10, 11, 12, 13, 14, 15] rfl rfl 0 rfl rfl rfl) rfl rfl hl.1 rfl (lv_room (Nat.le_of_ble_eq_true rfl)) dX6_act_86 ⟨Nat.zero_le _, Nat.zero_le _⟩) hP hD hS hA [0, 1, 2, 3, 4, 5, 6, 7, 8, 9, 10, 11, 12, 13, 14, 15] rfl rfl rfl (fun H locs hP hD hS => ?_)
            refine lv_goto (tgt := 123) hx hb dX6_act_89 (by decide) ?_
            exact Hj22 r41 v42 v43 0 H locs ls hP hD hS (lv_sub hl [0] rfl) hf
        · replace hf := if_fe c7 hf
          refine lv_iconst (v := 0) hx hb dX6_act_33 rfl ?_
          cases hf
          exact kri hQ hAe hx hb hr hlocks hP hD hK hS dX6_act_34
  exact main _ _ hP hD hS

def rmX6_trace : Room := { frames := 1, cells := 0, slots := 0, locals := 25 }
theorem hdX6_trace : yX6_trace.cls = RX6 ∧ yX6_trace.cls ≠ "java/lang/invoke/MethodHandle" ∧ yX6_trace.cls ≠ "java/lang/invoke/VarHandle" ∧ (parseMethodDescriptor yX6_trace.desc).map (fun d => d.parameters.length) = some 1 := by decide +kernel
set_option maxHeartbeats 40000000 in
set_option maxRecDepth 100000 in
theorem c_X6_trace (l : Launch) (E : Nat → Nat) (D : va_G) (C : Nat → ClassId) (e0 e1 e2 e3 e4 e5 e6 e7 e8 e9 e10 e11 e12 e13 e14 e15 : Nat) (sz : Nat) (m_s : Nat → Int32) (m_held : Nat → Int32) (m_aside : Nat → Int32) (m_before : Nat → Int32) (m_isHeld : Int32) (m_tape : Nat → Int32) (m_taped : Int32) (m_token : Int32) (m_from : Int32) (m_to : Int32) (m_value : Int32) (m_isWrong : Int32) (m_due : Nat → Int32) (m_firsts : Nat → Int32) (m_rows : Nat → Int32) (m_rowN : Int32) (m_sortOf : Nat → Int32) (m_sizeOf : Nat → Int32) (m_numbers : Nat → Int32) (m_holdsWhat : Nat → Int32) (m_holdsWhich : Nat → Int32) (m_holdsMany : Nat → Int32) (m_bodies : Nat → Int32) (m_ran : Int32) (m_actKind : Int32) (m_actN : Int32) (m_actA : Int32) (m_isParted : Int32) (x0 : Int32) (r : Int32) (hf : f_X6_trace m_bodies m_ran x0 = some r) : Met l yX6_trace wsX6_trace rmX6_trace (PC E D C [.ref e0, .int x0] (oMM C e0 e1 e2 e3 e4 e5 e6 e7 e8 e9 e10 e11 e12 e13 e14 e15 m_s m_held m_aside m_before m_isHeld m_tape m_taped m_token m_from m_to m_value m_isWrong m_due m_firsts m_rows m_rowN m_sortOf m_sizeOf m_numbers m_holdsWhat m_holdsWhich m_holdsMany m_bodies m_ran m_actKind m_actN m_actA m_isParted []) sz) (QI D C (oMM C e0 e1 e2 e3 e4 e5 e6 e7 e8 e9 e10 e11 e12 e13 e14 e15 m_s m_held m_aside m_before m_isHeld m_tape m_taped m_token m_from m_to m_value m_isWrong m_due m_firsts m_rows m_rowN m_sortOf m_sizeOf m_numbers m_holdsWhat m_holdsWhich m_holdsMany m_bodies m_ran m_actKind m_actN m_actA m_isParted []) (oMM C e0 e1 e2 e3 e4 e5 e6 e7 e8 e9 e10 e11 e12 e13 e14 e15 m_s m_held m_aside m_before m_isHeld m_tape m_taped m_token m_from m_to m_value m_isWrong m_due m_firsts m_rows m_rowN m_sortOf m_sizeOf m_numbers m_holdsWhat m_holdsWhich m_holdsMany m_bodies m_ran m_actKind m_actN m_actA m_isParted []) sz r) 0 0 (va_A (oMM C e0 e1 e2 e3 e4 e5 e6 e7 e8 e9 e10 e11 e12 e13 e14 e15 m_s m_held m_aside m_before m_isHeld m_tape m_taped m_token m_from m_to m_value m_isWrong m_due m_firsts m_rows m_rowN m_sortOf m_sizeOf m_numbers m_holdsWhat m_holdsWhich m_holdsMany m_bodies m_ran m_actKind m_actN m_actA m_isParted []) sz) := by
  refine Met.ofW (cc := cX6_trace) (maxL := 2) (ret := (some .int)) (by decide) rfl ?_
  intro p e s m args below meth c s₁ B hml hv
  obtain ⟨rfl, hsz, hP, hK, hD0, hE⟩ := hv
  have hx := B.exec
  have hb := B.bytes
  have hr := B.returns
  have hts := atoms_spec (ws := wsX6_trace) B.pre
  have hown : s.vm.findClass RX6 = some m.cls := findClass_of_methodNamed B.named
  have hlocks := B.notSynchronized
  subst hsz
  have hi_RX6 : ∀ w ∈ wsX60, w ∈ wsX6_trace := fun _ h => List.mem_cons_of_mem _ (List.mem_append_right _ h)
  have hD := hD0.self (sz := s.heap.size)
  obtain ⟨A, hAe⟩ := nm_ex (va_A (oMM C e0 e1 e2 e3 e4 e5 e6 e7 e8 e9 e10 e11 e12 e13 e14 e15 m_s m_held m_aside m_before m_isHeld m_tape m_taped m_token m_from m_to m_value m_isWrong m_due m_firsts m_rows m_rowN m_sortOf m_sizeOf m_numbers m_holdsWhat m_holdsWhich m_holdsMany m_bodies m_ran m_actKind m_actN m_actA m_isParted []) s.heap.size)
  rw [← hAe] at hD hE ⊢
  have hA : ∀ q : Nat, s.heap.size ≤ q → A q := fun q h => by rw [hAe]; exact Or.inr h
  have hS : va_S A s.heap s.heap [] := va_S.rf
  have hl := lv_entry ([.ref e0, .int x0]) (n := 2) (Nat.le_of_ble_eq_true rfl)
  rw [lg_entry_eq]
  generalize (lg_sl ([.ref e0, .int x0]) ++ List.replicate (2 - (lg_sl ([.ref e0, .int x0])).length) Slot.unset).toArray = ls at hl ⊢
  have hl : lv_has ls 2 [(0, .ref e0), (1, .int x0)] := hl
  obtain ⟨Q, hQ⟩ := nm_ex (MQ below (QI D C (oMM C e0 e1 e2 e3 e4 e5 e6 e7 e8 e9 e10 e11 e12 e13 e14 e15 m_s m_held m_aside m_before m_isHeld m_tape m_taped m_token m_from m_to m_value m_isWrong m_due m_firsts m_rows m_rowN m_sortOf m_sizeOf m_numbers m_holdsWhat m_holdsWhich m_holdsMany m_bodies m_ran m_actKind m_actN m_actA m_isParted []) (oMM C e0 e1 e2 e3 e4 e5 e6 e7 e8 e9 e10 e11 e12 e13 e14 e15 m_s m_held m_aside m_before m_isHeld m_tape m_taped m_token m_from m_to m_value m_isWrong m_due m_firsts m_rows m_rowN m_sortOf m_sizeOf m_numbers m_holdsWhat m_holdsWhich m_holdsMany m_bodies m_ran m_actKind m_actN m_actA m_isParted []) s.heap.size r) (List.toArray [Value.ref e0, Value.int x0]) s 0 0 A)
  show W p l e (headSpec wsX6_trace (rmX6_trace)).room s m (List.toArray [Value.ref e0, Value.int x0]) below meth c s.heap [] 0 0 (MQ below (QI D C (oMM C e0 e1 e2 e3 e4 e5 e6 e7 e8 e9 e10 e11 e12 e13 e14 e15 m_s m_held m_aside m_before m_isHeld m_tape m_taped m_token m_from m_to m_value m_isWrong m_due m_firsts m_rows m_rowN m_sortOf m_sizeOf m_numbers m_holdsWhat m_holdsWhich m_holdsMany m_bodies m_ran m_actKind m_actN m_actA m_isParted []) (oMM C e0 e1 e2 e3 e4 e5 e6 e7 e8 e9 e10 e11 e12 e13 e14 e15 m_s m_held m_aside m_before m_isHeld m_tape m_taped m_token m_from m_to m_value m_isWrong m_due m_firsts m_rows m_rowN m_sortOf m_sizeOf m_numbers m_holdsWhat m_holdsWhich m_holdsMany m_bodies m_ran m_actKind m_actN m_actA m_isParted []) s.heap.size r) (List.toArray [Value.ref e0, Value.int x0]) s 0 0 A) _
  rw [← hQ]
  unfold f_X6_trace at hf
  have main : ∀ (H : Heap) (locs : List Loc), va_P D vwCl (oMM C e0 e1 e2 e3 e4 e5 e6 e7 e8 e9 e10 e11 e12 e13 e14 e15 m_s m_held m_aside m_before m_isHeld m_tape m_taped m_token m_from m_to m_value m_isWrong m_due m_firsts m_rows m_rowN m_sortOf m_sizeOf m_numbers m_holdsWhat m_holdsWhich m_holdsMany m_bodies m_ran m_actKind m_actN m_actA m_isParted []) H → va_D A (oMM C e0 e1 e2 e3 e4 e5 e6 e7 e8 e9 e10 e11 e12 e13 e14 e15 m_s m_held m_aside m_before m_isHeld m_tape m_taped m_token m_from m_to m_value m_isWrong m_due m_firsts m_rows m_rowN m_sortOf m_sizeOf m_numbers m_holdsWhat m_holdsWhich m_holdsMany m_bodies m_ran m_actKind m_actN m_actA m_isParted []) → va_S A s.heap H locs → W p l e (headSpec wsX6_trace (rmX6_trace)).room s m (List.toArray [Value.ref e0, Value.int x0]) below meth c H locs 0 0 Q (F0 m 0 ls []) := by
    intro H locs hP hD hS
    refine lv_iload_n hx hb dX6_trace_0 rfl (lv_at hl 1 rfl) ?_
    refine lv_i2l hx hb dX6_trace_1 rfl ?_
    refine lv_lconst (v := 0) hx hb dX6_trace_2 rfl ?_
    refine lv_aload_n hx hb dX6_trace_3 rfl (lv_at hl 0 rfl) ?_
    refine va_get (D := D) (ci := 6) (v := .int m_ran) (C := RX6) (T := TX6) (N := 28) hx hb hts hi_RX6 hown hK hP 0 rfl rfl 23 (by decide) (hts (.fieldLink RX6 299 "TravelMarksModel" "ran" "I") (List.mem_of_getElem? (i := 1) rfl)) (fun _ h9 => h9) rfl dX6_trace_4 ?_
    refine lv_iconst (v := 1) hx hb dX6_trace_7 rfl ?_
    refine lv_isub hx hb dX6_trace_8 ?_
    refine lv_i2l hx hb dX6_trace_9 rfl ?_
    refine kcz (Wx := (oMM C e0 e1 e2 e3 e4 e5 e6 e7 e8 e9 e10 e11 e12 e13 e14 e15 m_s m_held m_aside m_before m_isHeld m_tape m_taped m_token m_from m_to m_value m_isWrong m_due m_firsts m_rows m_rowN m_sortOf m_sizeOf m_numbers m_holdsWhat m_holdsWhich m_holdsMany m_bodies m_ran m_actKind m_actN m_actA m_isParted [])) (va_runS (As := [.long (Int32.toInt64 x0), .long 0, .long (Int32.toInt64 (m_ran - 1))]) (rest := []) ⟨hx, hb, hml, hown, hts⟩ (c_X6_isIn l E D C H.size (Int32.toInt64 x0) 0 (Int32.toInt64 (m_ran - 1)) _ rfl) (va_cwS 3 hts gX6_trace_X6_isIn rfl rfl rfl hdX6_isIn ⟨Nat.le_of_ble_eq_true rfl, Nat.le_of_ble_eq_true rfl⟩) (kpre hP hD hK hS hE hA [] rfl rfl) rfl rfl hl.1 rfl (lv_room (Nat.le_of_ble_eq_true rfl)) dX6_trace_10 ⟨Nat.zero_le _, Nat.zero_le _⟩) hP hD hS hA [] rfl rfl rfl (fun H locs hz1 hP hD hS => ?_)
    refine lv_if_eq (tgt := 25) hx hb dX6_trace_13 (by decide) (fun c2 => ?_) (fun c2 => ?_)
    · replace hf := if_te c2 hf
      refine lv_bipush (v := (-3)) hx hb dX6_trace_25 rfl ?_
      cases hf
      exact kri hQ hAe hx hb hr hlocks hP hD hK hS dX6_trace_27
    · replace hf := if_fe c2 hf
      refine lv_aload_n hx hb dX6_trace_16 rfl (lv_at hl 0 rfl) ?_
      refine va_get (D := D) (ci := 6) (v := .ref e15) (C := RX6) (T := TX6) (N := 28) hx hb hts hi_RX6 hown hK hP 0 rfl rfl 22 (by decide) (hts (.fieldLink RX6 52 "TravelMarksModel" "bodies" "[I") (List.mem_of_getElem? (i := 2) rfl)) (fun _ h9 => h9) rfl dX6_trace_17 ?_
      refine lv_iload_n hx hb dX6_trace_20 rfl (lv_at hl 1 rfl) ?_
      obtain ⟨y4, ey4, hi3, hf⟩ := rdA_x hf
      refine va_iald hx hb hK hP 15 0 rfl rfl hi3 dX6_trace_21 ?_
      refine lv_ren ey4 ?_
      refine lv_goto (tgt := 27) hx hb dX6_trace_22 (by decide) ?_
      cases hf
      exact kri hQ hAe hx hb hr hlocks hP hD hK hS dX6_trace_27
  exact main _ _ hP hD hS

def rmX6_many : Room := { frames := 2, cells := 0, slots := 0, locals := 44 }
theorem hdX6_many : yX6_many.cls = RX6 ∧ yX6_many.cls ≠ "java/lang/invoke/MethodHandle" ∧ yX6_many.cls ≠ "java/lang/invoke/VarHandle" ∧ (parseMethodDescriptor yX6_many.desc).map (fun d => d.parameters.length) = some 1 := by decide +kernel
set_option maxHeartbeats 40000000 in
set_option maxRecDepth 100000 in
theorem c_X6_many (l : Launch) (E : Nat → Nat) (D : va_G) (C : Nat → ClassId) (e0 e1 e2 e3 e4 e5 e6 e7 e8 e9 e10 e11 e12 e13 e14 e15 : Nat) (sz : Nat) (N : Nat) (m_s : Nat → Int32) (m_held : Nat → Int32) (m_aside : Nat → Int32) (m_before : Nat → Int32) (m_isHeld : Int32) (m_tape : Nat → Int32) (m_taped : Int32) (m_token : Int32) (m_from : Int32) (m_to : Int32) (m_value : Int32) (m_isWrong : Int32) (m_due : Nat → Int32) (m_firsts : Nat → Int32) (m_rows : Nat → Int32) (m_rowN : Int32) (m_sortOf : Nat → Int32) (m_sizeOf : Nat → Int32) (m_numbers : Nat → Int32) (m_holdsWhat : Nat → Int32) (m_holdsWhich : Nat → Int32) (m_holdsMany : Nat → Int32) (m_bodies : Nat → Int32) (m_ran : Int32) (m_actKind : Int32) (m_actN : Int32) (m_actA : Int32) (m_isParted : Int32) (x0 : Int32) (r : Int32) (hf : f_X6_many N m_s m_taped m_rowN m_ran x0 = some r) : Met l yX6_many wsX6_many rmX6_many (PC E D C [.ref e0, .int x0] (oMM C e0 e1 e2 e3 e4 e5 e6 e7 e8 e9 e10 e11 e12 e13 e14 e15 m_s m_held m_aside m_before m_isHeld m_tape m_taped m_token m_from m_to m_value m_isWrong m_due m_firsts m_rows m_rowN m_sortOf m_sizeOf m_numbers m_holdsWhat m_holdsWhich m_holdsMany m_bodies m_ran m_actKind m_actN m_actA m_isParted []) sz) (QI D C (oMM C e0 e1 e2 e3 e4 e5 e6 e7 e8 e9 e10 e11 e12 e13 e14 e15 m_s m_held m_aside m_before m_isHeld m_tape m_taped m_token m_from m_to m_value m_isWrong m_due m_firsts m_rows m_rowN m_sortOf m_sizeOf m_numbers m_holdsWhat m_holdsWhich m_holdsMany m_bodies m_ran m_actKind m_actN m_actA m_isParted []) (oMM C e0 e1 e2 e3 e4 e5 e6 e7 e8 e9 e10 e11 e12 e13 e14 e15 m_s m_held m_aside m_before m_isHeld m_tape m_taped m_token m_from m_to m_value m_isWrong m_due m_firsts m_rows m_rowN m_sortOf m_sizeOf m_numbers m_holdsWhat m_holdsWhich m_holdsMany m_bodies m_ran m_actKind m_actN m_actA m_isParted []) sz r) 0 0 (va_A (oMM C e0 e1 e2 e3 e4 e5 e6 e7 e8 e9 e10 e11 e12 e13 e14 e15 m_s m_held m_aside m_before m_isHeld m_tape m_taped m_token m_from m_to m_value m_isWrong m_due m_firsts m_rows m_rowN m_sortOf m_sizeOf m_numbers m_holdsWhat m_holdsWhich m_holdsMany m_bodies m_ran m_actKind m_actN m_actA m_isParted []) sz) := by
  refine Met.ofW (cc := cX6_many) (maxL := 4) (ret := (some .int)) (by decide) rfl ?_
  intro p e s m args below meth c s₁ B hml hv
  obtain ⟨rfl, hsz, hP, hK, hD0, hE⟩ := hv
  have hx := B.exec
  have hb := B.bytes
  have hr := B.returns
  have hts := atoms_spec (ws := wsX6_many) B.pre
  have hown : s.vm.findClass RX6 = some m.cls := findClass_of_methodNamed B.named
  have hlocks := B.notSynchronized
  subst hsz
  have hi_RX6 : ∀ w ∈ wsX60, w ∈ wsX6_many := fun _ h => List.mem_cons_of_mem _ (List.mem_append_right _ h)
  have hD := hD0.self (sz := s.heap.size)
  obtain ⟨A, hAe⟩ := nm_ex (va_A (oMM C e0 e1 e2 e3 e4 e5 e6 e7 e8 e9 e10 e11 e12 e13 e14 e15 m_s m_held m_aside m_before m_isHeld m_tape m_taped m_token m_from m_to m_value m_isWrong m_due m_firsts m_rows m_rowN m_sortOf m_sizeOf m_numbers m_holdsWhat m_holdsWhich m_holdsMany m_bodies m_ran m_actKind m_actN m_actA m_isParted []) s.heap.size)
  rw [← hAe] at hD hE ⊢
  have hA : ∀ q : Nat, s.heap.size ≤ q → A q := fun q h => by rw [hAe]; exact Or.inr h
  have hS : va_S A s.heap s.heap [] := va_S.rf
  have hl := lv_entry ([.ref e0, .int x0]) (n := 4) (Nat.le_of_ble_eq_true rfl)
  rw [lg_entry_eq]
  generalize (lg_sl ([.ref e0, .int x0]) ++ List.replicate (4 - (lg_sl ([.ref e0, .int x0])).length) Slot.unset).toArray = ls at hl ⊢
  have hl : lv_has ls 4 [(0, .ref e0), (1, .int x0)] := hl
  obtain ⟨Q, hQ⟩ := nm_ex (MQ below (QI D C (oMM C e0 e1 e2 e3 e4 e5 e6 e7 e8 e9 e10 e11 e12 e13 e14 e15 m_s m_held m_aside m_before m_isHeld m_tape m_taped m_token m_from m_to m_value m_isWrong m_due m_firsts m_rows m_rowN m_sortOf m_sizeOf m_numbers m_holdsWhat m_holdsWhich m_holdsMany m_bodies m_ran m_actKind m_actN m_actA m_isParted []) (oMM C e0 e1 e2 e3 e4 e5 e6 e7 e8 e9 e10 e11 e12 e13 e14 e15 m_s m_held m_aside m_before m_isHeld m_tape m_taped m_token m_from m_to m_value m_isWrong m_due m_firsts m_rows m_rowN m_sortOf m_sizeOf m_numbers m_holdsWhat m_holdsWhich m_holdsMany m_bodies m_ran m_actKind m_actN m_actA m_isParted []) s.heap.size r) (List.toArray [Value.ref e0, Value.int x0]) s 0 0 A)
  show W p l e (headSpec wsX6_many (rmX6_many)).room s m (List.toArray [Value.ref e0, Value.int x0]) below meth c s.heap [] 0 0 (MQ below (QI D C (oMM C e0 e1 e2 e3 e4 e5 e6 e7 e8 e9 e10 e11 e12 e13 e14 e15 m_s m_held m_aside m_before m_isHeld m_tape m_taped m_token m_from m_to m_value m_isWrong m_due m_firsts m_rows m_rowN m_sortOf m_sizeOf m_numbers m_holdsWhat m_holdsWhich m_holdsMany m_bodies m_ran m_actKind m_actN m_actA m_isParted []) (oMM C e0 e1 e2 e3 e4 e5 e6 e7 e8 e9 e10 e11 e12 e13 e14 e15 m_s m_held m_aside m_before m_isHeld m_tape m_taped m_token m_from m_to m_value m_isWrong m_due m_firsts m_rows m_rowN m_sortOf m_sizeOf m_numbers m_holdsWhat m_holdsWhich m_holdsMany m_bodies m_ran m_actKind m_actN m_actA m_isParted []) s.heap.size r) (List.toArray [Value.ref e0, Value.int x0]) s 0 0 A) _
  rw [← hQ]
  unfold f_X6_many at hf
  have main : ∀ (H : Heap) (locs : List Loc), va_P D vwCl (oMM C e0 e1 e2 e3 e4 e5 e6 e7 e8 e9 e10 e11 e12 e13 e14 e15 m_s m_held m_aside m_before m_isHeld m_tape m_taped m_token m_from m_to m_value m_isWrong m_due m_firsts m_rows m_rowN m_sortOf m_sizeOf m_numbers m_holdsWhat m_holdsWhich m_holdsMany m_bodies m_ran m_actKind m_actN m_actA m_isParted []) H → va_D A (oMM C e0 e1 e2 e3 e4 e5 e6 e7 e8 e9 e10 e11 e12 e13 e14 e15 m_s m_held m_aside m_before m_isHeld m_tape m_taped m_token m_from m_to m_value m_isWrong m_due m_firsts m_rows m_rowN m_sortOf m_sizeOf m_numbers m_holdsWhat m_holdsWhich m_holdsMany m_bodies m_ran m_actKind m_actN m_actA m_isParted []) → va_S A s.heap H locs → W p l e (headSpec wsX6_many (rmX6_many)).room s m (List.toArray [Value.ref e0, Value.int x0]) below meth c H locs 0 0 Q (F0 m 0 ls []) := by
    intro H locs hP hD hS
    refine lv_iconst (v := 0) hx hb dX6_many_0 rfl ?_
    refine lv_istore_n (lv' := [(2, .int 0), (0, .ref e0), (1, .int x0)]) hx hb dX6_many_1 rfl hl (by decide) rfl (fun ls hl => ?_)
    refine lv_iload_n hx hb dX6_many_2 rfl (lv_at hl 2 rfl) ?_
    by_cases c1 : x0 = 0
    · replace hf := if_te c1 hf
      refine lv_tableIn (x := x0) (tgt := 44) (off := 41) hx hb dX6_many_3 (by rw [c1]; decide) (by rw [c1]; decide) (by rw [c1]; try rfl) (by decide) ?_
      refine lv_aload_n hx hb dX6_many_44 rfl (lv_at hl 1 rfl) ?_
      refine va_get (D := D) (ci := 6) (v := .ref e1) (C := RX6) (T := TX6) (N := 28) hx hb hts hi_RX6 hown hK hP 0 rfl rfl 0 (by decide) (hts (.fieldLink RX6 7 "TravelMarksModel" "s" "[I") (List.mem_of_getElem? (i := 1) rfl)) (fun _ h9 => h9) rfl dX6_many_45 ?_
      refine lv_iconst (v := 0) hx hb dX6_many_48 rfl ?_
      refine va_iald hx hb hK hP 1 0 rfl rfl (i := 0) (vin (by decide)) dX6_many_49 ?_
      refine lv_ren (show (m_s 0) = m_s (Int32.toNatClampNeg 0) from rfl) ?_
      obtain ⟨t2, et2, hf⟩ := lj_e hf
      refine lv_ren et2 ?_
      cases hf
      exact kri hQ hAe hx hb hr hlocks hP hD hK hS dX6_many_50
    replace hf := if_fe c1 hf
    by_cases c3 : x0 = 1
    · replace hf := if_te c3 hf
      refine lv_tableIn (x := x0) (tgt := 51) (off := 48) hx hb dX6_many_3 (by rw [c3]; decide) (by rw [c3]; decide) (by rw [c3]; try rfl) (by decide) ?_
      refine lv_aload_n hx hb dX6_many_51 rfl (lv_at hl 1 rfl) ?_
      refine va_get (D := D) (ci := 6) (v := .ref e1) (C := RX6) (T := TX6) (N := 28) hx hb hts hi_RX6 hown hK hP 0 rfl rfl 0 (by decide) (hts (.fieldLink RX6 7 "TravelMarksModel" "s" "[I") (List.mem_of_getElem? (i := 1) rfl)) (fun _ h9 => h9) rfl dX6_many_52 ?_
      refine lv_iconst (v := 0) hx hb dX6_many_55 rfl ?_
      refine va_iald hx hb hK hP 1 0 rfl rfl (i := 0) (vin (by decide)) dX6_many_56 ?_
      refine lv_ren (show (m_s 0) = m_s (Int32.toNatClampNeg 0) from rfl) ?_
      refine lv_aload_n hx hb dX6_many_57 rfl (lv_at hl 1 rfl) ?_
      obtain ⟨r4, h5, hf⟩ := ob1_e hf
      refine kci (Wx := (oMM C e0 e1 e2 e3 e4 e5 e6 e7 e8 e9 e10 e11 e12 e13 e14 e15 m_s m_held m_aside m_before m_isHeld m_tape m_taped m_token m_from m_to m_value m_isWrong m_due m_firsts m_rows m_rowN m_sortOf m_sizeOf m_numbers m_holdsWhat m_holdsWhich m_holdsMany m_bodies m_ran m_actKind m_actN m_actA m_isParted [])) (va_runV (As := []) (rest := [.int (m_s 0)]) ⟨hx, hb, hml, hown, hts⟩ (c_X6_dryOnes l E D C e0 e1 e2 e3 e4 e5 e6 e7 e8 e9 e10 e11 e12 e13 e14 e15 H.size N m_s m_held m_aside m_before m_isHeld m_tape m_taped m_token m_from m_to m_value m_isWrong m_due m_firsts m_rows m_rowN m_sortOf m_sizeOf m_numbers m_holdsWhat m_holdsWhich m_holdsMany m_bodies m_ran m_actKind m_actN m_actA m_isParted r4 h5) (cwV 0 hts gX6_many_X6_dryOnes rfl rfl rfl hdX6_dryOnes ⟨Nat.le_of_ble_eq_true rfl, Nat.le_of_ble_eq_true rfl⟩) (kpreV hP hD hK hS hE hA [0, 1, 2, 3, 4, 5, 6, 7, 8, 9, 10, 11, 12, 13, 14, 15] rfl rfl 0 rfl rfl rfl) rfl rfl hl.1 rfl (lv_room (Nat.le_of_ble_eq_true rfl)) dX6_many_58 ⟨Nat.zero_le _, Nat.zero_le _⟩) hP hD hS hA [0, 1, 2, 3, 4, 5, 6, 7, 8, 9, 10, 11, 12, 13, 14, 15] rfl rfl rfl (fun H locs hP hD hS => ?_)
      obtain ⟨r6, h7, hf⟩ := ob1_e hf
      refine kci (Wx := (oMM C e0 e1 e2 e3 e4 e5 e6 e7 e8 e9 e10 e11 e12 e13 e14 e15 m_s m_held m_aside m_before m_isHeld m_tape m_taped m_token m_from m_to m_value m_isWrong m_due m_firsts m_rows m_rowN m_sortOf m_sizeOf m_numbers m_holdsWhat m_holdsWhich m_holdsMany m_bodies m_ran m_actKind m_actN m_actA m_isParted [])) (va_runS (As := [.int r4]) (rest := [.int (m_s 0)]) ⟨hx, hb, hml, hown, hts⟩ (c_X6_size l E D C H.size N r4 r6 h7) (va_cwS 1 hts gX6_many_X6_size rfl rfl rfl hdX6_size ⟨Nat.le_of_ble_eq_true rfl, Nat.le_of_ble_eq_true rfl⟩) (kpre hP hD hK hS hE hA [] rfl rfl) rfl rfl hl.1 rfl (lv_room (Nat.le_of_ble_eq_true rfl)) dX6_many_61 ⟨Nat.zero_le _, Nat.zero_le _⟩) hP hD hS hA [] rfl rfl rfl (fun H locs hP hD hS => ?_)
      refine lv_isub hx hb dX6_many_64 ?_
      obtain ⟨t8, et8, hf⟩ := lj_e hf
      refine lv_ren et8 ?_
      cases hf
      exact kri hQ hAe hx hb hr hlocks hP hD hK hS dX6_many_65
    replace hf := if_fe c3 hf
    by_cases c9 : x0 = 2
    · replace hf := if_te c9 hf
      refine lv_tableIn (x := x0) (tgt := 66) (off := 63) hx hb dX6_many_3 (by rw [c9]; decide) (by rw [c9]; decide) (by rw [c9]; try rfl) (by decide) ?_
      refine lv_aload_n hx hb dX6_many_66 rfl (lv_at hl 1 rfl) ?_
      obtain ⟨r10, h11, hf⟩ := ob1_e hf
      refine kci (Wx := (oMM C e0 e1 e2 e3 e4 e5 e6 e7 e8 e9 e10 e11 e12 e13 e14 e15 m_s m_held m_aside m_before m_isHeld m_tape m_taped m_token m_from m_to m_value m_isWrong m_due m_firsts m_rows m_rowN m_sortOf m_sizeOf m_numbers m_holdsWhat m_holdsWhich m_holdsMany m_bodies m_ran m_actKind m_actN m_actA m_isParted [])) (va_runV (As := []) (rest := []) ⟨hx, hb, hml, hown, hts⟩ (c_X6_marked l E D C e0 e1 e2 e3 e4 e5 e6 e7 e8 e9 e10 e11 e12 e13 e14 e15 H.size N m_s m_held m_aside m_before m_isHeld m_tape m_taped m_token m_from m_to m_value m_isWrong m_due m_firsts m_rows m_rowN m_sortOf m_sizeOf m_numbers m_holdsWhat m_holdsWhich m_holdsMany m_bodies m_ran m_actKind m_actN m_actA m_isParted r10 h11) (cwV 0 hts gX6_many_X6_marked rfl rfl rfl hdX6_marked ⟨Nat.le_of_ble_eq_true rfl, Nat.le_of_ble_eq_true rfl⟩) (kpreV hP hD hK hS hE hA [0, 1, 2, 3, 4, 5, 6, 7, 8, 9, 10, 11, 12, 13, 14, 15] rfl rfl 0 rfl rfl rfl) rfl rfl hl.1 rfl (lv_room (Nat.le_of_ble_eq_true rfl)) dX6_many_67 ⟨Nat.zero_le _, Nat.zero_le _⟩) hP hD hS hA [0, 1, 2, 3, 4, 5, 6, 7, 8, 9, 10, 11, 12, 13, 14, 15] rfl rfl rfl (fun H locs hP hD hS => ?_)
      obtain ⟨r12, h13, hf⟩ := ob1_e hf
      refine kci (Wx := (oMM C e0 e1 e2 e3 e4 e5 e6 e7 e8 e9 e10 e11 e12 e13 e14 e15 m_s m_held m_aside m_before m_isHeld m_tape m_taped m_token m_from m_to m_value m_isWrong m_due m_firsts m_rows m_rowN m_sortOf m_sizeOf m_numbers m_holdsWhat m_holdsWhich m_holdsMany m_bodies m_ran m_actKind m_actN m_actA m_isParted [])) (va_runS (As := [.int r10]) (rest := []) ⟨hx, hb, hml, hown, hts⟩ (c_X6_size l E D C H.size N r10 r12 h13) (va_cwS 1 hts gX6_many_X6_size rfl rfl rfl hdX6_size ⟨Nat.le_of_ble_eq_true rfl, Nat.le_of_ble_eq_true rfl⟩) (kpre hP hD hK hS hE hA [] rfl rfl) rfl rfl hl.1 rfl (lv_room (Nat.le_of_ble_eq_true rfl)) dX6_many_70 ⟨Nat.zero_le _, Nat.zero_le _⟩) hP hD hS hA [] rfl rfl rfl (fun H locs hP hD hS => ?_)
      cases hf
      exact kri hQ hAe hx hb hr hlocks hP hD hK hS dX6_many_73
    replace hf := if_fe c9 hf
    by_cases c14 : x0 = 3
    · replace hf := if_te c14 hf
      refine lv_tableIn (x := x0) (tgt := 74) (off := 71) hx hb dX6_many_3 (by rw [c14]; decide) (by rw [c14]; decide) (by rw [c14]; try rfl) (by decide) ?_
      refine lv_iconst (v := 0) hx hb dX6_many_74 rfl ?_
      refine lv_istore_n (lv' := [(3, .int 0), (2, .int 0), (0, .ref e0), (1, .int x0)]) hx hb dX6_many_75 rfl hl (by decide) rfl (fun ls hl => ?_)
      have hL76 : ∀ (n : Nat) (i15 : Int32) (i16 : Int32) (H : Heap) (locs : List Loc) (ls : Array Slot), va_P D vwCl (oMM C e0 e1 e2 e3 e4 e5 e6 e7 e8 e9 e10 e11 e12 e13 e14 e15 m_s m_held m_aside m_before m_isHeld m_tape m_taped m_token m_from m_to m_value m_isWrong m_due m_firsts m_rows m_rowN m_sortOf m_sizeOf m_numbers m_holdsWhat m_holdsWhich m_holdsMany m_bodies m_ran m_actKind m_actN m_actA m_isParted []) H → va_D A (oMM C e0 e1 e2 e3 e4 e5 e6 e7 e8 e9 e10 e11 e12 e13 e14 e15 m_s m_held m_aside m_before m_isHeld m_tape m_taped m_token m_from m_to m_value m_isWrong m_due m_firsts m_rows m_rowN m_sortOf m_sizeOf m_numbers m_holdsWhat m_holdsWhich m_holdsMany m_bodies m_ran m_actKind m_actN m_actA m_isParted []) → va_S A s.heap H locs → lv_has ls 4 [(3, .int i15), (2, .int i16), (0, .ref e0)] → f_X6_many_L76 m_s n i15 i16 = some r → W p l e (headSpec wsX6_many (rmX6_many)).room s m (List.toArray [Value.ref e0, Value.int x0]) below meth c H locs 0 0 Q (F0 m 76 ls []) := by
        intro n
        induction n with
        | zero =>
          intro i15 i16 H locs ls hP hD hS hl hf
          exact absurd hf (fun h => by cases h)
        | succ n ih =>
          intro i15 i16 H locs ls hP hD hS hl hf
          rw [f_X6_many_L76] at hf
          refine lv_iload_n hx hb dX6_many_76 rfl (lv_at hl 0 rfl) ?_
          refine lv_bipush (v := 6) hx hb dX6_many_77 rfl ?_
          refine lv_icmp_ge (tgt := 108) hx hb dX6_many_79 (by decide) (fun c17 => ?_) (fun c17 => ?_)
          · replace hf := if_te c17 hf
            refine lv_iload_n hx hb dX6_many_108 rfl (lv_at hl 1 rfl) ?_
            cases hf
            exact kri hQ hAe hx hb hr hlocks hP hD hK hS dX6_many_109
          · replace hf := if_fe c17 hf
            refine lv_iload_n hx hb dX6_many_82 rfl (lv_at hl 1 rfl) ?_
            refine lv_aload_n hx hb dX6_many_83 rfl (lv_at hl 2 rfl) ?_
            refine va_get (D := D) (ci := 6) (v := .ref e1) (C := RX6) (T := TX6) (N := 28) hx hb hts hi_RX6 hown hK hP 0 rfl rfl 0 (by decide) (hts (.fieldLink RX6 7 "TravelMarksModel" "s" "[I") (List.mem_of_getElem? (i := 1) rfl)) (fun _ h9 => h9) rfl dX6_many_84 ?_
            refine lv_bipush (v := 7) hx hb dX6_many_87 rfl ?_
            refine lv_iload_n hx hb dX6_many_89 rfl (lv_at hl 0 rfl) ?_
            refine lv_iadd hx hb dX6_many_90 ?_
            obtain ⟨y19, ey19, hi18, hf⟩ := rdA_x hf
            refine va_iald hx hb hK hP 1 0 rfl rfl hi18 dX6_many_91 ?_
            refine lv_ren ey19 ?_
            obtain ⟨j21, hj21, hf⟩ := lj_e hf
            have Hj21 : ∀ (k20 : Int32) (H : Heap) (locs : List Loc) (ls : Array Slot), va_P D vwCl (oMM C e0 e1 e2 e3 e4 e5 e6 e7 e8 e9 e10 e11 e12 e13 e14 e15 m_s m_held m_aside m_before m_isHeld m_tape m_taped m_token m_from m_to m_value m_isWrong m_due m_firsts m_rows m_rowN m_sortOf m_sizeOf m_numbers m_holdsWhat m_holdsWhich m_holdsMany m_bodies m_ran m_actKind m_actN m_actA m_isParted []) H → va_D A (oMM C e0 e1 e2 e3 e4 e5 e6 e7 e8 e9 e10 e11 e12 e13 e14 e15 m_s m_held m_aside m_before m_isHeld m_tape m_taped m_token m_from m_to m_value m_isWrong m_due m_firsts m_rows m_rowN m_sortOf m_sizeOf m_numbers m_holdsWhat m_holdsWhich m_holdsMany m_bodies m_ran m_actKind m_actN m_actA m_isParted []) → va_S A s.heap H locs → lv_has ls 4 [(3, .int i15), (0, .ref e0)] → j21 k20 = some r → W p l e (headSpec wsX6_many (rmX6_many)).room s m (List.toArray [Value.ref e0, Value.int x0]) below meth c H locs 0 0 Q (F0 m 100 ls [.int k20, .int i16]) := by
              intro k20 H locs ls hP hD hS hl hf
              rw [hj21] at hf
              refine lv_iadd hx hb dX6_many_100 ?_
              obtain ⟨t22, et22, hf⟩ := lj_e hf
              refine lv_ren et22 ?_
              refine lv_istore_n (lv' := [(2, .int t22), (3, .int i15), (0, .ref e0)]) hx hb dX6_many_101 rfl hl (by decide) rfl (fun ls hl => ?_)
              obtain ⟨t23, et23, hf⟩ := lj_e hf
              refine lv_iinc (v := t23) (lv' := [(3, .int t23), (2, .int t22), (0, .ref e0)]) hx hb dX6_many_102 hl (k := 1) rfl (by rw [et23]; rfl) (by decide) rfl (fun ls hl => ?_)
              refine lv_goto (tgt := 76) hx hb dX6_many_105 (by decide) ?_
              exact ih t23 t22 H locs ls hP hD hS (lv_sub hl [0, 1, 2] rfl) hf
            refine lv_if_ne (tgt := 99) hx hb dX6_many_92 (by decide) (fun c24 => ?_) (fun c24 => ?_)
            · replace hf := if_fe c24 hf
              refine lv_iconst (v := 1) hx hb dX6_many_99 rfl ?_
              exact Hj21 1 H locs ls hP hD hS (lv_sub hl [0, 2] rfl) hf
            · replace hf := if_te c24 hf
              refine lv_iconst (v := 0) hx hb dX6_many_95 rfl ?_
              refine lv_goto (tgt := 100) hx hb dX6_many_96 (by decide) ?_
              exact Hj21 0 H locs ls hP hD hS (lv_sub hl [0, 2] rfl) hf
      exact hL76 N 0 0 H locs ls hP hD hS (lv_sub hl [0, 1, 2] rfl) hf
    replace hf := if_fe c14 hf
    by_cases c25 : x0 = 4
    · replace hf := if_te c25 hf
      refine lv_tableIn (x := x0) (tgt := 110) (off := 107) hx hb dX6_many_3 (by rw [c25]; decide) (by rw [c25]; decide) (by rw [c25]; try rfl) (by decide) ?_
      refine lv_aload_n hx hb dX6_many_110 rfl (lv_at hl 1 rfl) ?_
      refine va_get (D := D) (ci := 6) (v := .int m_rowN) (C := RX6) (T := TX6) (N := 28) hx hb hts hi_RX6 hown hK hP 0 rfl rfl 15 (by decide) (hts (.fieldLink RX6 153 "TravelMarksModel" "rowN" "I") (List.mem_of_getElem? (i := 2) rfl)) (fun _ h9 => h9) rfl dX6_many_111 ?_
      cases hf
      exact kri hQ hAe hx hb hr hlocks hP hD hK hS dX6_many_114
    replace hf := if_fe c25 hf
    by_cases c26 : x0 = 5
    · replace hf := if_te c26 hf
      refine lv_tableIn (x := x0) (tgt := 115) (off := 112) hx hb dX6_many_3 (by rw [c26]; decide) (by rw [c26]; decide) (by rw [c26]; try rfl) (by decide) ?_
      refine lv_aload_n hx hb dX6_many_115 rfl (lv_at hl 1 rfl) ?_
      refine va_get (D := D) (ci := 6) (v := .int m_taped) (C := RX6) (T := TX6) (N := 28) hx hb hts hi_RX6 hown hK hP 0 rfl rfl 6 (by decide) (hts (.fieldLink RX6 64 "TravelMarksModel" "taped" "I") (List.mem_of_getElem? (i := 3) rfl)) (fun _ h9 => h9) rfl dX6_many_116 ?_
      cases hf
      exact kri hQ hAe hx hb hr hlocks hP hD hK hS dX6_many_119
    replace hf := if_fe c26 hf
    by_cases c27 : x0 = 6
    · replace hf := if_te c27 hf
      refine lv_tableIn (x := x0) (tgt := 120) (off := 117) hx hb dX6_many_3 (by rw [c27]; decide) (by rw [c27]; decide) (by rw [c27]; try rfl) (by decide) ?_
      refine lv_aload_n hx hb dX6_many_120 rfl (lv_at hl 1 rfl) ?_
      refine va_get (D := D) (ci := 6) (v := .int m_ran) (C := RX6) (T := TX6) (N := 28) hx hb hts hi_RX6 hown hK hP 0 rfl rfl 23 (by decide) (hts (.fieldLink RX6 299 "TravelMarksModel" "ran" "I") (List.mem_of_getElem? (i := 4) rfl)) (fun _ h9 => h9) rfl dX6_many_121 ?_
      cases hf
      exact kri hQ hAe hx hb hr hlocks hP hD hK hS dX6_many_124
    replace hf := if_fe c27 hf
    refine lv_tableOut (x := x0) (tgt := 125) hx hb dX6_many_3 (swo_0_6 c1 c3 c9 c14 c25 c26 c27) (by decide) ?_
    refine lv_iconst (v := (-1)) hx hb dX6_many_125 rfl ?_
    cases hf
    exact kri hQ hAe hx hb hr hlocks hP hD hK hS dX6_many_126
  exact main _ _ hP hD hS

def rmX6_keep : Room := { frames := 0, cells := 0, slots := 0, locals := 0 }
theorem hdX6_keep : yX6_keep.cls = RX6 ∧ yX6_keep.cls ≠ "java/lang/invoke/MethodHandle" ∧ yX6_keep.cls ≠ "java/lang/invoke/VarHandle" ∧ (parseMethodDescriptor yX6_keep.desc).map (fun d => d.parameters.length) = some 0 := by decide +kernel
set_option maxHeartbeats 40000000 in
set_option maxRecDepth 100000 in
theorem c_X6_keep (l : Launch) (E : Nat → Nat) (D : va_G) (C : Nat → ClassId) (e0 e1 e2 e3 e4 e5 e6 e7 e8 e9 e10 e11 e12 e13 e14 e15 : Nat) (sz : Nat) (N : Nat) (m_s : Nat → Int32) (m_held : Nat → Int32) (m_aside : Nat → Int32) (m_before : Nat → Int32) (m_isHeld : Int32) (m_tape : Nat → Int32) (m_taped : Int32) (m_token : Int32) (m_from : Int32) (m_to : Int32) (m_value : Int32) (m_isWrong : Int32) (m_due : Nat → Int32) (m_firsts : Nat → Int32) (m_rows : Nat → Int32) (m_rowN : Int32) (m_sortOf : Nat → Int32) (m_sizeOf : Nat → Int32) (m_numbers : Nat → Int32) (m_holdsWhat : Nat → Int32) (m_holdsWhich : Nat → Int32) (m_holdsMany : Nat → Int32) (m_bodies : Nat → Int32) (m_ran : Int32) (m_actKind : Int32) (m_actN : Int32) (m_actA : Int32) (m_isParted : Int32)  (r : Int32) (m_held' : Nat → Int32) (m_isHeld' : Int32) (hf : f_X6_keep N m_s m_held m_isHeld = some (r, m_held', m_isHeld')) : Met l yX6_keep wsX6_keep rmX6_keep (PC E D C [.ref e0] (oMM C e0 e1 e2 e3 e4 e5 e6 e7 e8 e9 e10 e11 e12 e13 e14 e15 m_s m_held m_aside m_before m_isHeld m_tape m_taped m_token m_from m_to m_value m_isWrong m_due m_firsts m_rows m_rowN m_sortOf m_sizeOf m_numbers m_holdsWhat m_holdsWhich m_holdsMany m_bodies m_ran m_actKind m_actN m_actA m_isParted []) sz) (QI D C (oMM C e0 e1 e2 e3 e4 e5 e6 e7 e8 e9 e10 e11 e12 e13 e14 e15 m_s m_held m_aside m_before m_isHeld m_tape m_taped m_token m_from m_to m_value m_isWrong m_due m_firsts m_rows m_rowN m_sortOf m_sizeOf m_numbers m_holdsWhat m_holdsWhich m_holdsMany m_bodies m_ran m_actKind m_actN m_actA m_isParted []) (oMM C e0 e1 e2 e3 e4 e5 e6 e7 e8 e9 e10 e11 e12 e13 e14 e15 m_s (m_held') m_aside m_before (m_isHeld') m_tape m_taped m_token m_from m_to m_value m_isWrong m_due m_firsts m_rows m_rowN m_sortOf m_sizeOf m_numbers m_holdsWhat m_holdsWhich m_holdsMany m_bodies m_ran m_actKind m_actN m_actA m_isParted []) sz r) 0 0 (va_A (oMM C e0 e1 e2 e3 e4 e5 e6 e7 e8 e9 e10 e11 e12 e13 e14 e15 m_s m_held m_aside m_before m_isHeld m_tape m_taped m_token m_from m_to m_value m_isWrong m_due m_firsts m_rows m_rowN m_sortOf m_sizeOf m_numbers m_holdsWhat m_holdsWhich m_holdsMany m_bodies m_ran m_actKind m_actN m_actA m_isParted []) sz) := by
  refine Met.ofW (cc := cX6_keep) (maxL := 2) (ret := (some .int)) (by decide) rfl ?_
  intro p e s m args below meth c s₁ B hml hv
  obtain ⟨rfl, hsz, hP, hK, hD0, hE⟩ := hv
  have hx := B.exec
  have hb := B.bytes
  have hr := B.returns
  have hts := atoms_spec (ws := wsX6_keep) B.pre
  have hown : s.vm.findClass RX6 = some m.cls := findClass_of_methodNamed B.named
  have hlocks := B.notSynchronized
  subst hsz
  have hi_RX6 : ∀ w ∈ wsX60, w ∈ wsX6_keep := fun _ h => List.mem_cons_of_mem _ (List.mem_append_right _ h)
  have hD := hD0.self (sz := s.heap.size)
  obtain ⟨A, hAe⟩ := nm_ex (va_A (oMM C e0 e1 e2 e3 e4 e5 e6 e7 e8 e9 e10 e11 e12 e13 e14 e15 m_s m_held m_aside m_before m_isHeld m_tape m_taped m_token m_from m_to m_value m_isWrong m_due m_firsts m_rows m_rowN m_sortOf m_sizeOf m_numbers m_holdsWhat m_holdsWhich m_holdsMany m_bodies m_ran m_actKind m_actN m_actA m_isParted []) s.heap.size)
  rw [← hAe] at hD hE ⊢
  have hA : ∀ q : Nat, s.heap.size ≤ q → A q := fun q h => by rw [hAe]; exact Or.inr h
  have hS : va_S A s.heap s.heap [] := va_S.rf
  have hl := lv_entry ([.ref e0]) (n := 2) (Nat.le_of_ble_eq_true rfl)
  rw [lg_entry_eq]
  generalize (lg_sl ([.ref e0]) ++ List.replicate (2 - (lg_sl ([.ref e0])).length) Slot.unset).toArray = ls at hl ⊢
  have hl : lv_has ls 2 [(0, .ref e0)] := hl
  obtain ⟨Q, hQ⟩ := nm_ex (MQ below (QI D C (oMM C e0 e1 e2 e3 e4 e5 e6 e7 e8 e9 e10 e11 e12 e13 e14 e15 m_s m_held m_aside m_before m_isHeld m_tape m_taped m_token m_from m_to m_value m_isWrong m_due m_firsts m_rows m_rowN m_sortOf m_sizeOf m_numbers m_holdsWhat m_holdsWhich m_holdsMany m_bodies m_ran m_actKind m_actN m_actA m_isParted []) (oMM C e0 e1 e2 e3 e4 e5 e6 e7 e8 e9 e10 e11 e12 e13 e14 e15 m_s (m_held') m_aside m_before (m_isHeld') m_tape m_taped m_token m_from m_to m_value m_isWrong m_due m_firsts m_rows m_rowN m_sortOf m_sizeOf m_numbers m_holdsWhat m_holdsWhich m_holdsMany m_bodies m_ran m_actKind m_actN m_actA m_isParted []) s.heap.size r) (List.toArray [Value.ref e0]) s 0 0 A)
  show W p l e (headSpec wsX6_keep (rmX6_keep)).room s m (List.toArray [Value.ref e0]) below meth c s.heap [] 0 0 (MQ below (QI D C (oMM C e0 e1 e2 e3 e4 e5 e6 e7 e8 e9 e10 e11 e12 e13 e14 e15 m_s m_held m_aside m_before m_isHeld m_tape m_taped m_token m_from m_to m_value m_isWrong m_due m_firsts m_rows m_rowN m_sortOf m_sizeOf m_numbers m_holdsWhat m_holdsWhich m_holdsMany m_bodies m_ran m_actKind m_actN m_actA m_isParted []) (oMM C e0 e1 e2 e3 e4 e5 e6 e7 e8 e9 e10 e11 e12 e13 e14 e15 m_s (m_held') m_aside m_before (m_isHeld') m_tape m_taped m_token m_from m_to m_value m_isWrong m_due m_firsts m_rows m_rowN m_sortOf m_sizeOf m_numbers m_holdsWhat m_holdsWhich m_holdsMany m_bodies m_ran m_actKind m_actN m_actA m_isParted []) s.heap.size r) (List.toArray [Value.ref e0]) s 0 0 A) _
  rw [← hQ]
  unfold f_X6_keep at hf
  have main : ∀ (H : Heap) (locs : List Loc), va_P D vwCl (oMM C e0 e1 e2 e3 e4 e5 e6 e7 e8 e9 e10 e11 e12 e13 e14 e15 m_s m_held m_aside m_before m_isHeld m_tape m_taped m_token m_from m_to m_value m_isWrong m_due m_firsts m_rows m_rowN m_sortOf m_sizeOf m_numbers m_holdsWhat m_holdsWhich m_holdsMany m_bodies m_ran m_actKind m_actN m_actA m_isParted []) H → va_D A (oMM C e0 e1 e2 e3 e4 e5 e6 e7 e8 e9 e10 e11 e12 e13 e14 e15 m_s m_held m_aside m_before m_isHeld m_tape m_taped m_token m_from m_to m_value m_isWrong m_due m_firsts m_rows m_rowN m_sortOf m_sizeOf m_numbers m_holdsWhat m_holdsWhich m_holdsMany m_bodies m_ran m_actKind m_actN m_actA m_isParted []) → va_S A s.heap H locs → W p l e (headSpec wsX6_keep (rmX6_keep)).room s m (List.toArray [Value.ref e0]) below meth c H locs 0 0 Q (F0 m 0 ls []) := by
    intro H locs hP hD hS
    refine lv_iconst (v := 0) hx hb dX6_keep_0 rfl ?_
    refine lv_istore_n (lv' := [(1, .int 0), (0, .ref e0)]) hx hb dX6_keep_1 rfl hl (by decide) rfl (fun ls hl => ?_)
    obtain ⟨j2, hj2, hf⟩ := lj_e hf
    have Hj2 : ∀ (v1 : Nat → Int32) (H : Heap) (locs : List Loc) (ls : Array Slot), va_P D vwCl (oMM C e0 e1 e2 e3 e4 e5 e6 e7 e8 e9 e10 e11 e12 e13 e14 e15 m_s v1 m_aside m_before m_isHeld m_tape m_taped m_token m_from m_to m_value m_isWrong m_due m_firsts m_rows m_rowN m_sortOf m_sizeOf m_numbers m_holdsWhat m_holdsWhich m_holdsMany m_bodies m_ran m_actKind m_actN m_actA m_isParted []) H → va_D A (oMM C e0 e1 e2 e3 e4 e5 e6 e7 e8 e9 e10 e11 e12 e13 e14 e15 m_s v1 m_aside m_before m_isHeld m_tape m_taped m_token m_from m_to m_value m_isWrong m_due m_firsts m_rows m_rowN m_sortOf m_sizeOf m_numbers m_holdsWhat m_holdsWhich m_holdsMany m_bodies m_ran m_actKind m_actN m_actA m_isParted []) → va_S A s.heap H locs → lv_has ls 2 [(0, .ref e0)] → j2 v1 = some (r, m_held', m_isHeld') → W p l e (headSpec wsX6_keep (rmX6_keep)).room s m (List.toArray [Value.ref e0]) below meth c H locs 0 0 Q (F0 m 26 ls []) := by
      intro v1 H locs ls hP hD hS hl hf
      rw [hj2] at hf
      refine lv_aload_n hx hb dX6_keep_26 rfl (lv_at hl 0 rfl) ?_
      refine lv_iconst (v := 1) hx hb dX6_keep_27 rfl ?_
      refine va_put (D := D) (ci := 6) (v := .int 1) (ty := .boolean) (C := RX6) (T := TX6) (N := 28) hx hb hts hi_RX6 tyX6 tyX6_ok nmX6 hown hK hP hD hS 0 rfl rfl 4 (by decide) (hts (.fieldLink RX6 344 "TravelMarksModel" "isHeld" "Z") (List.mem_of_getElem? (i := 3) rfl)) (fun _ h9 => h9) rfl (tyX6_ok 4 (by decide)) zb_1.1 zb_1.2 (Nat.le_of_ble_eq_true rfl) dX6_keep_28 (fun H locs hP hD hS => ?_)
      have hP : va_P D vwCl (oMM C e0 e1 e2 e3 e4 e5 e6 e7 e8 e9 e10 e11 e12 e13 e14 e15 m_s v1 m_aside m_before 1 m_tape m_taped m_token m_from m_to m_value m_isWrong m_due m_firsts m_rows m_rowN m_sortOf m_sizeOf m_numbers m_holdsWhat m_holdsWhich m_holdsMany m_bodies m_ran m_actKind m_actN m_actA m_isParted []) H := hP
      have hD : va_D A (oMM C e0 e1 e2 e3 e4 e5 e6 e7 e8 e9 e10 e11 e12 e13 e14 e15 m_s v1 m_aside m_before 1 m_tape m_taped m_token m_from m_to m_value m_isWrong m_due m_firsts m_rows m_rowN m_sortOf m_sizeOf m_numbers m_holdsWhat m_holdsWhich m_holdsMany m_bodies m_ran m_actKind m_actN m_actA m_isParted []) := hD
      refine lv_iconst (v := 1) hx hb dX6_keep_31 rfl ?_
      cases hf
      exact kri hQ hAe hx hb hr hlocks hP hD hK hS dX6_keep_32
    have hL2 : ∀ (n : Nat) (i3 : Int32) (v4 : Nat → Int32) (H : Heap) (locs : List Loc) (ls : Array Slot), va_P D vwCl (oMM C e0 e1 e2 e3 e4 e5 e6 e7 e8 e9 e10 e11 e12 e13 e14 e15 m_s v4 m_aside m_before m_isHeld m_tape m_taped m_token m_from m_to m_value m_isWrong m_due m_firsts m_rows m_rowN m_sortOf m_sizeOf m_numbers m_holdsWhat m_holdsWhich m_holdsMany m_bodies m_ran m_actKind m_actN m_actA m_isParted []) H → va_D A (oMM C e0 e1 e2 e3 e4 e5 e6 e7 e8 e9 e10 e11 e12 e13 e14 e15 m_s v4 m_aside m_before m_isHeld m_tape m_taped m_token m_from m_to m_value m_isWrong m_due m_firsts m_rows m_rowN m_sortOf m_sizeOf m_numbers m_holdsWhat m_holdsWhich m_holdsMany m_bodies m_ran m_actKind m_actN m_actA m_isParted []) → va_S A s.heap H locs → lv_has ls 2 [(1, .int i3), (0, .ref e0)] → f_X6_keep_L2 m_s j2 n i3 v4 = some (r, m_held', m_isHeld') → W p l e (headSpec wsX6_keep (rmX6_keep)).room s m (List.toArray [Value.ref e0]) below meth c H locs 0 0 Q (F0 m 2 ls []) := by
      intro n
      induction n with
      | zero =>
        intro i3 v4 H locs ls hP hD hS hl hf
        exact absurd hf (fun h => by cases h)
      | succ n ih =>
        intro i3 v4 H locs ls hP hD hS hl hf
        rw [f_X6_keep_L2] at hf
        refine lv_iload_n hx hb dX6_keep_2 rfl (lv_at hl 0 rfl) ?_
        refine lv_bipush (v := 43) hx hb dX6_keep_3 rfl ?_
        refine lv_icmp_ge (tgt := 26) hx hb dX6_keep_5 (by decide) (fun c5 => ?_) (fun c5 => ?_)
        · replace hf := if_te c5 hf
          exact Hj2 v4 H locs ls hP hD hS (lv_sub hl [1] rfl) hf
        · replace hf := if_fe c5 hf
          refine lv_aload_n hx hb dX6_keep_8 rfl (lv_at hl 1 rfl) ?_
          refine va_get (D := D) (ci := 6) (v := .ref e2) (C := RX6) (T := TX6) (N := 28) hx hb hts hi_RX6 hown hK hP 0 rfl rfl 1 (by decide) (hts (.fieldLink RX6 13 "TravelMarksModel" "held" "[I") (List.mem_of_getElem? (i := 1) rfl)) (fun _ h9 => h9) rfl dX6_keep_9 ?_
          refine lv_iload_n hx hb dX6_keep_12 rfl (lv_at hl 0 rfl) ?_
          refine lv_aload_n hx hb dX6_keep_13 rfl (lv_at hl 1 rfl) ?_
          refine va_get (D := D) (ci := 6) (v := .ref e1) (C := RX6) (T := TX6) (N := 28) hx hb hts hi_RX6 hown hK hP 0 rfl rfl 0 (by decide) (hts (.fieldLink RX6 7 "TravelMarksModel" "s" "[I") (List.mem_of_getElem? (i := 2) rfl)) (fun _ h9 => h9) rfl dX6_keep_14 ?_
          refine lv_iload_n hx hb dX6_keep_17 rfl (lv_at hl 0 rfl) ?_
          obtain ⟨y7, ey7, hi6, hf⟩ := rdA_x hf
          refine va_iald hx hb hK hP 1 0 rfl rfl hi6 dX6_keep_18 ?_
          refine lv_ren ey7 ?_
          obtain ⟨hi8, hf⟩ := ckA_e hf
          refine va_iast hx hb hK hP hD hS 2 0 rfl rfl hi8 dX6_keep_19 (fun H locs hP hD hS => ?_)
          obtain ⟨v9, ev9, hf⟩ := lj_e hf
          have hP : va_P D vwCl (oMM C e0 e1 e2 e3 e4 e5 e6 e7 e8 e9 e10 e11 e12 e13 e14 e15 m_s v9 m_aside m_before m_isHeld m_tape m_taped m_token m_from m_to m_value m_isWrong m_due m_firsts m_rows m_rowN m_sortOf m_sizeOf m_numbers m_holdsWhat m_holdsWhich m_holdsMany m_bodies m_ran m_actKind m_actN m_actA m_isParted []) H := by rw [ev9]; exact hP
          have hD : va_D A (oMM C e0 e1 e2 e3 e4 e5 e6 e7 e8 e9 e10 e11 e12 e13 e14 e15 m_s v9 m_aside m_before m_isHeld m_tape m_taped m_token m_from m_to m_value m_isWrong m_due m_firsts m_rows m_rowN m_sortOf m_sizeOf m_numbers m_holdsWhat m_holdsWhich m_holdsMany m_bodies m_ran m_actKind m_actN m_actA m_isParted []) := by rw [ev9]; exact hD
          obtain ⟨t10, et10, hf⟩ := lj_e hf
          refine lv_iinc (v := t10) (lv' := [(1, .int t10), (0, .ref e0)]) hx hb dX6_keep_20 hl (k := 0) rfl (by rw [et10]; rfl) (by decide) rfl (fun ls hl => ?_)
          refine lv_goto (tgt := 2) hx hb dX6_keep_23 (by decide) ?_
          exact ih t10 v9 H locs ls hP hD hS (lv_sub hl [0, 1] rfl) hf
    exact hL2 N 0 m_held H locs ls hP hD hS (lv_sub hl [0, 1] rfl) hf
  exact main _ _ hP hD hS

def rmX6_again : Room := { frames := 0, cells := 0, slots := 0, locals := 0 }
theorem hdX6_again : yX6_again.cls = RX6 ∧ yX6_again.cls ≠ "java/lang/invoke/MethodHandle" ∧ yX6_again.cls ≠ "java/lang/invoke/VarHandle" ∧ (parseMethodDescriptor yX6_again.desc).map (fun d => d.parameters.length) = some 0 := by decide +kernel
set_option maxHeartbeats 40000000 in
set_option maxRecDepth 100000 in
theorem c_X6_again (l : Launch) (E : Nat → Nat) (D : va_G) (C : Nat → ClassId) (e0 e1 e2 e3 e4 e5 e6 e7 e8 e9 e10 e11 e12 e13 e14 e15 : Nat) (sz : Nat) (N : Nat) (m_s : Nat → Int32) (m_held : Nat → Int32) (m_aside : Nat → Int32) (m_before : Nat → Int32) (m_isHeld : Int32) (m_tape : Nat → Int32) (m_taped : Int32) (m_token : Int32) (m_from : Int32) (m_to : Int32) (m_value : Int32) (m_isWrong : Int32) (m_due : Nat → Int32) (m_firsts : Nat → Int32) (m_rows : Nat → Int32) (m_rowN : Int32) (m_sortOf : Nat → Int32) (m_sizeOf : Nat → Int32) (m_numbers : Nat → Int32) (m_holdsWhat : Nat → Int32) (m_holdsWhich : Nat → Int32) (m_holdsMany : Nat → Int32) (m_bodies : Nat → Int32) (m_ran : Int32) (m_actKind : Int32) (m_actN : Int32) (m_actA : Int32) (m_isParted : Int32)  (r : Int32) (m_s' : Nat → Int32) (hf : f_X6_again N m_s m_held m_isHeld = some (r, m_s')) : Met l yX6_again wsX6_again rmX6_again (PC E D C [.ref e0] (oMM C e0 e1 e2 e3 e4 e5 e6 e7 e8 e9 e10 e11 e12 e13 e14 e15 m_s m_held m_aside m_before m_isHeld m_tape m_taped m_token m_from m_to m_value m_isWrong m_due m_firsts m_rows m_rowN m_sortOf m_sizeOf m_numbers m_holdsWhat m_holdsWhich m_holdsMany m_bodies m_ran m_actKind m_actN m_actA m_isParted []) sz) (QI D C (oMM C e0 e1 e2 e3 e4 e5 e6 e7 e8 e9 e10 e11 e12 e13 e14 e15 m_s m_held m_aside m_before m_isHeld m_tape m_taped m_token m_from m_to m_value m_isWrong m_due m_firsts m_rows m_rowN m_sortOf m_sizeOf m_numbers m_holdsWhat m_holdsWhich m_holdsMany m_bodies m_ran m_actKind m_actN m_actA m_isParted []) (oMM C e0 e1 e2 e3 e4 e5 e6 e7 e8 e9 e10 e11 e12 e13 e14 e15 (m_s') m_held m_aside m_before m_isHeld m_tape m_taped m_token m_from m_to m_value m_isWrong m_due m_firsts m_rows m_rowN m_sortOf m_sizeOf m_numbers m_holdsWhat m_holdsWhich m_holdsMany m_bodies m_ran m_actKind m_actN m_actA m_isParted []) sz r) 0 0 (va_A (oMM C e0 e1 e2 e3 e4 e5 e6 e7 e8 e9 e10 e11 e12 e13 e14 e15 m_s m_held m_aside m_before m_isHeld m_tape m_taped m_token m_from m_to m_value m_isWrong m_due m_firsts m_rows m_rowN m_sortOf m_sizeOf m_numbers m_holdsWhat m_holdsWhich m_holdsMany m_bodies m_ran m_actKind m_actN m_actA m_isParted []) sz) := by
  refine Met.ofW (cc := cX6_again) (maxL := 2) (ret := (some .int)) (by decide) rfl ?_
  intro p e s m args below meth c s₁ B hml hv
  obtain ⟨rfl, hsz, hP, hK, hD0, hE⟩ := hv
  have hx := B.exec
  have hb := B.bytes
  have hr := B.returns
  have hts := atoms_spec (ws := wsX6_again) B.pre
  have hown : s.vm.findClass RX6 = some m.cls := findClass_of_methodNamed B.named
  have hlocks := B.notSynchronized
  subst hsz
  have hi_RX6 : ∀ w ∈ wsX60, w ∈ wsX6_again := fun _ h => List.mem_cons_of_mem _ (List.mem_append_right _ h)
  have hD := hD0.self (sz := s.heap.size)
  obtain ⟨A, hAe⟩ := nm_ex (va_A (oMM C e0 e1 e2 e3 e4 e5 e6 e7 e8 e9 e10 e11 e12 e13 e14 e15 m_s m_held m_aside m_before m_isHeld m_tape m_taped m_token m_from m_to m_value m_isWrong m_due m_firsts m_rows m_rowN m_sortOf m_sizeOf m_numbers m_holdsWhat m_holdsWhich m_holdsMany m_bodies m_ran m_actKind m_actN m_actA m_isParted []) s.heap.size)
  rw [← hAe] at hD hE ⊢
  have hA : ∀ q : Nat, s.heap.size ≤ q → A q := fun q h => by rw [hAe]; exact Or.inr h
  have hS : va_S A s.heap s.heap [] := va_S.rf
  have hl := lv_entry ([.ref e0]) (n := 2) (Nat.le_of_ble_eq_true rfl)
  rw [lg_entry_eq]
  generalize (lg_sl ([.ref e0]) ++ List.replicate (2 - (lg_sl ([.ref e0])).length) Slot.unset).toArray = ls at hl ⊢
  have hl : lv_has ls 2 [(0, .ref e0)] := hl
  obtain ⟨Q, hQ⟩ := nm_ex (MQ below (QI D C (oMM C e0 e1 e2 e3 e4 e5 e6 e7 e8 e9 e10 e11 e12 e13 e14 e15 m_s m_held m_aside m_before m_isHeld m_tape m_taped m_token m_from m_to m_value m_isWrong m_due m_firsts m_rows m_rowN m_sortOf m_sizeOf m_numbers m_holdsWhat m_holdsWhich m_holdsMany m_bodies m_ran m_actKind m_actN m_actA m_isParted []) (oMM C e0 e1 e2 e3 e4 e5 e6 e7 e8 e9 e10 e11 e12 e13 e14 e15 (m_s') m_held m_aside m_before m_isHeld m_tape m_taped m_token m_from m_to m_value m_isWrong m_due m_firsts m_rows m_rowN m_sortOf m_sizeOf m_numbers m_holdsWhat m_holdsWhich m_holdsMany m_bodies m_ran m_actKind m_actN m_actA m_isParted []) s.heap.size r) (List.toArray [Value.ref e0]) s 0 0 A)
  show W p l e (headSpec wsX6_again (rmX6_again)).room s m (List.toArray [Value.ref e0]) below meth c s.heap [] 0 0 (MQ below (QI D C (oMM C e0 e1 e2 e3 e4 e5 e6 e7 e8 e9 e10 e11 e12 e13 e14 e15 m_s m_held m_aside m_before m_isHeld m_tape m_taped m_token m_from m_to m_value m_isWrong m_due m_firsts m_rows m_rowN m_sortOf m_sizeOf m_numbers m_holdsWhat m_holdsWhich m_holdsMany m_bodies m_ran m_actKind m_actN m_actA m_isParted []) (oMM C e0 e1 e2 e3 e4 e5 e6 e7 e8 e9 e10 e11 e12 e13 e14 e15 (m_s') m_held m_aside m_before m_isHeld m_tape m_taped m_token m_from m_to m_value m_isWrong m_due m_firsts m_rows m_rowN m_sortOf m_sizeOf m_numbers m_holdsWhat m_holdsWhich m_holdsMany m_bodies m_ran m_actKind m_actN m_actA m_isParted []) s.heap.size r) (List.toArray [Value.ref e0]) s 0 0 A) _
  rw [← hQ]
  unfold f_X6_again at hf
  have main : ∀ (H : Heap) (locs : List Loc), va_P D vwCl (oMM C e0 e1 e2 e3 e4 e5 e6 e7 e8 e9 e10 e11 e12 e13 e14 e15 m_s m_held m_aside m_before m_isHeld m_tape m_taped m_token m_from m_to m_value m_isWrong m_due m_firsts m_rows m_rowN m_sortOf m_sizeOf m_numbers m_holdsWhat m_holdsWhich m_holdsMany m_bodies m_ran m_actKind m_actN m_actA m_isParted []) H → va_D A (oMM C e0 e1 e2 e3 e4 e5 e6 e7 e8 e9 e10 e11 e12 e13 e14 e15 m_s m_held m_aside m_before m_isHeld m_tape m_taped m_token m_from m_to m_value m_isWrong m_due m_firsts m_rows m_rowN m_sortOf m_sizeOf m_numbers m_holdsWhat m_holdsWhich m_holdsMany m_bodies m_ran m_actKind m_actN m_actA m_isParted []) → va_S A s.heap H locs → W p l e (headSpec wsX6_again (rmX6_again)).room s m (List.toArray [Value.ref e0]) below meth c H locs 0 0 Q (F0 m 0 ls []) := by
    intro H locs hP hD hS
    refine lv_aload_n hx hb dX6_again_0 rfl (lv_at hl 0 rfl) ?_
    refine va_get (D := D) (ci := 6) (v := .int m_isHeld) (C := RX6) (T := TX6) (N := 28) hx hb hts hi_RX6 hown hK hP 0 rfl rfl 4 (by decide) (hts (.fieldLink RX6 344 "TravelMarksModel" "isHeld" "Z") (List.mem_of_getElem? (i := 1) rfl)) (fun _ h9 => h9) rfl dX6_again_1 ?_
    refine lv_if_ne (tgt := 10) hx hb dX6_again_4 (by decide) (fun c1 => ?_) (fun c1 => ?_)
    · replace hf := if_fe c1 hf
      refine lv_iconst (v := 0) hx hb dX6_again_10 rfl ?_
      refine lv_istore_n (lv' := [(1, .int 0), (0, .ref e0)]) hx hb dX6_again_11 rfl hl (by decide) rfl (fun ls hl => ?_)
      obtain ⟨j3, hj3, hf⟩ := lj_e hf
      have Hj3 : ∀ (v2 : Nat → Int32) (H : Heap) (locs : List Loc) (ls : Array Slot), va_P D vwCl (oMM C e0 e1 e2 e3 e4 e5 e6 e7 e8 e9 e10 e11 e12 e13 e14 e15 v2 m_held m_aside m_before m_isHeld m_tape m_taped m_token m_from m_to m_value m_isWrong m_due m_firsts m_rows m_rowN m_sortOf m_sizeOf m_numbers m_holdsWhat m_holdsWhich m_holdsMany m_bodies m_ran m_actKind m_actN m_actA m_isParted []) H → va_D A (oMM C e0 e1 e2 e3 e4 e5 e6 e7 e8 e9 e10 e11 e12 e13 e14 e15 v2 m_held m_aside m_before m_isHeld m_tape m_taped m_token m_from m_to m_value m_isWrong m_due m_firsts m_rows m_rowN m_sortOf m_sizeOf m_numbers m_holdsWhat m_holdsWhich m_holdsMany m_bodies m_ran m_actKind m_actN m_actA m_isParted []) → va_S A s.heap H locs → lv_has ls 2 [(0, .ref e0)] → j3 v2 = some (r, m_s') → W p l e (headSpec wsX6_again (rmX6_again)).room s m (List.toArray [Value.ref e0]) below meth c H locs 0 0 Q (F0 m 36 ls []) := by
        intro v2 H locs ls hP hD hS hl hf
        rw [hj3] at hf
        refine lv_aload_n hx hb dX6_again_36 rfl (lv_at hl 0 rfl) ?_
        refine va_get (D := D) (ci := 6) (v := .ref e1) (C := RX6) (T := TX6) (N := 28) hx hb hts hi_RX6 hown hK hP 0 rfl rfl 0 (by decide) (hts (.fieldLink RX6 7 "TravelMarksModel" "s" "[I") (List.mem_of_getElem? (i := 2) rfl)) (fun _ h9 => h9) rfl dX6_again_37 ?_
        refine lv_iconst (v := 0) hx hb dX6_again_40 rfl ?_
        refine va_iald hx hb hK hP 1 0 rfl rfl (i := 0) (vin (by decide)) dX6_again_41 ?_
        refine lv_ren (show (v2 0) = v2 (Int32.toNatClampNeg 0) from rfl) ?_
        obtain ⟨t4, et4, hf⟩ := lj_e hf
        refine lv_ren et4 ?_
        cases hf
        exact kri hQ hAe hx hb hr hlocks hP hD hK hS dX6_again_42
      have hL12 : ∀ (n : Nat) (i5 : Int32) (v6 : Nat → Int32) (H : Heap) (locs : List Loc) (ls : Array Slot), va_P D vwCl (oMM C e0 e1 e2 e3 e4 e5 e6 e7 e8 e9 e10 e11 e12 e13 e14 e15 v6 m_held m_aside m_before m_isHeld m_tape m_taped m_token m_from m_to m_value m_isWrong m_due m_firsts m_rows m_rowN m_sortOf m_sizeOf m_numbers m_holdsWhat m_holdsWhich m_holdsMany m_bodies m_ran m_actKind m_actN m_actA m_isParted []) H → va_D A (oMM C e0 e1 e2 e3 e4 e5 e6 e7 e8 e9 e10 e11 e12 e13 e14 e15 v6 m_held m_aside m_before m_isHeld m_tape m_taped m_token m_from m_to m_value m_isWrong m_due m_firsts m_rows m_rowN m_sortOf m_sizeOf m_numbers m_holdsWhat m_holdsWhich m_holdsMany m_bodies m_ran m_actKind m_actN m_actA m_isParted []) → va_S A s.heap H locs → lv_has ls 2 [(1, .int i5), (0, .ref e0)] → f_X6_again_L12 m_held j3 n i5 v6 = some (r, m_s') → W p l e (headSpec wsX6_again (rmX6_again)).room s m (List.toArray [Value.ref e0]) below meth c H locs 0 0 Q (F0 m 12 ls []) := by
        intro n
        induction n with
        | zero =>
          intro i5 v6 H locs ls hP hD hS hl hf
          exact absurd hf (fun h => by cases h)
        | succ n ih =>
          intro i5 v6 H locs ls hP hD hS hl hf
          rw [f_X6_again_L12] at hf
          refine lv_iload_n hx hb dX6_again_12 rfl (lv_at hl 0 rfl) ?_
          refine lv_bipush (v := 43) hx hb dX6_again_13 rfl ?_
          refine lv_icmp_ge (tgt := 36) hx hb dX6_again_15 (by decide) (fun c7 => ?_) (fun c7 => ?_)
          · replace hf := if_te c7 hf
            exact Hj3 v6 H locs ls hP hD hS (lv_sub hl [1] rfl) hf
          · replace hf := if_fe c7 hf
            refine lv_aload_n hx hb dX6_again_18 rfl (lv_at hl 1 rfl) ?_
            refine va_get (D := D) (ci := 6) (v := .ref e1) (C := RX6) (T := TX6) (N := 28) hx hb hts hi_RX6 hown hK hP 0 rfl rfl 0 (by decide) (hts (.fieldLink RX6 7 "TravelMarksModel" "s" "[I") (List.mem_of_getElem? (i := 2) rfl)) (fun _ h9 => h9) rfl dX6_again_19 ?_
            refine lv_iload_n hx hb dX6_again_22 rfl (lv_at hl 0 rfl) ?_
            refine lv_aload_n hx hb dX6_again_23 rfl (lv_at hl 1 rfl) ?_
            refine va_get (D := D) (ci := 6) (v := .ref e2) (C := RX6) (T := TX6) (N := 28) hx hb hts hi_RX6 hown hK hP 0 rfl rfl 1 (by decide) (hts (.fieldLink RX6 13 "TravelMarksModel" "held" "[I") (List.mem_of_getElem? (i := 3) rfl)) (fun _ h9 => h9) rfl dX6_again_24 ?_
            refine lv_iload_n hx hb dX6_again_27 rfl (lv_at hl 0 rfl) ?_
            obtain ⟨y9, ey9, hi8, hf⟩ := rdA_x hf
            refine va_iald hx hb hK hP 2 0 rfl rfl hi8 dX6_again_28 ?_
            refine lv_ren ey9 ?_
            obtain ⟨hi10, hf⟩ := ckA_e hf
            refine va_iast hx hb hK hP hD hS 1 0 rfl rfl hi10 dX6_again_29 (fun H locs hP hD hS => ?_)
            obtain ⟨v11, ev11, hf⟩ := lj_e hf
            have hP : va_P D vwCl (oMM C e0 e1 e2 e3 e4 e5 e6 e7 e8 e9 e10 e11 e12 e13 e14 e15 v11 m_held m_aside m_before m_isHeld m_tape m_taped m_token m_from m_to m_value m_isWrong m_due m_firsts m_rows m_rowN m_sortOf m_sizeOf m_numbers m_holdsWhat m_holdsWhich m_holdsMany m_bodies m_ran m_actKind m_actN m_actA m_isParted []) H := by rw [ev11]; exact hP
            have hD : va_D A (oMM C e0 e1 e2 e3 e4 e5 e6 e7 e8 e9 e10 e11 e12 e13 e14 e15 v11 m_held m_aside m_before m_isHeld m_tape m_taped m_token m_from m_to m_value m_isWrong m_due m_firsts m_rows m_rowN m_sortOf m_sizeOf m_numbers m_holdsWhat m_holdsWhich m_holdsMany m_bodies m_ran m_actKind m_actN m_actA m_isParted []) := by rw [ev11]; exact hD
            obtain ⟨t12, et12, hf⟩ := lj_e hf
            refine lv_iinc (v := t12) (lv' := [(1, .int t12), (0, .ref e0)]) hx hb dX6_again_30 hl (k := 0) rfl (by rw [et12]; rfl) (by decide) rfl (fun ls hl => ?_)
            refine lv_goto (tgt := 12) hx hb dX6_again_33 (by decide) ?_
            exact ih t12 v11 H locs ls hP hD hS (lv_sub hl [0, 1] rfl) hf
      exact hL12 N 0 m_s H locs ls hP hD hS (lv_sub hl [0, 1] rfl) hf
    · replace hf := if_te c1 hf
      refine lv_bipush (v := (-3)) hx hb dX6_again_7 rfl ?_
      cases hf
      exact kri hQ hAe hx hb hr hlocks hP hD hK hS dX6_again_9
  exact main _ _ hP hD hS

