def rmX6_partOf : Room := { frames := 0, cells := 0, slots := 0, locals := 0 }
theorem hdX6_partOf : yX6_partOf.cls ≠ "java/lang/invoke/MethodHandle" ∧ yX6_partOf.cls ≠ "java/lang/invoke/VarHandle" ∧ (parseMethodDescriptor yX6_partOf.desc).map (fun d => d.parameters.length) = some 3 := by decide +kernel
set_option maxHeartbeats 40000000 in
set_option maxRecDepth 100000 in
theorem c_X6_partOf (l : Launch) (E : Nat → Nat) (D : va_G) (C : Nat → ClassId) (sz : Nat) (N : Nat)  (x0 : Int64) (x1 : Int64) (x2 : Int32) (r : Int64) (hf : f_X6_partOf N x0 x1 x2 = some r) : Met l yX6_partOf wsX6_partOf rmX6_partOf (PC E D C [.long x0, .long x1, .int x2] [] sz) (QL D C [] [] sz r) 0 0 (va_A [] sz) := by
  refine Met.ofW (cc := cX6_partOf) (maxL := 11) (ret := (some .long)) (by decide) rfl ?_
  intro p e s m args below meth c s₁ B hml hv
  obtain ⟨rfl, hsz, hP, hK, hD0, hE⟩ := hv
  have hx := B.exec
  have hb := B.bytes
  have hr := B.returns
  have hts := atoms_spec (ws := wsX6_partOf) B.pre
  have hown : s.vm.findClass RX6 = some m.cls := findClass_of_methodNamed B.named
  have hlocks := B.notSynchronized
  subst hsz
  have hD := hD0.self (sz := s.heap.size)
  obtain ⟨A, hAe⟩ := nm_ex (va_A [] s.heap.size)
  rw [← hAe] at hD hE ⊢
  have hA : ∀ q : Nat, s.heap.size ≤ q → A q := fun q h => by rw [hAe]; exact Or.inr h
  have hS : va_S A s.heap s.heap [] := va_S.rf
  have hl := lv_entry ([.long x0, .long x1, .int x2]) (n := 11) (Nat.le_of_ble_eq_true rfl)
  rw [lg_entry_eq]
  generalize (lg_sl ([.long x0, .long x1, .int x2]) ++ List.replicate (11 - (lg_sl ([.long x0, .long x1, .int x2])).length) Slot.unset).toArray = ls at hl ⊢
  have hl : lv_has ls 11 [(0, .long x0), (2, .long x1), (4, .int x2)] := hl
  obtain ⟨Q, hQ⟩ := nm_ex (MQ below (QL D C [] [] s.heap.size r) (List.toArray [Value.long x0, Value.long x1, Value.int x2]) s 0 0 A)
  show W p l e (headSpec wsX6_partOf (rmX6_partOf)).room s m (List.toArray [Value.long x0, Value.long x1, Value.int x2]) below meth c s.heap [] 0 0 (MQ below (QL D C [] [] s.heap.size r) (List.toArray [Value.long x0, Value.long x1, Value.int x2]) s 0 0 A) _
  rw [← hQ]
  unfold f_X6_partOf at hf
  have main : ∀ (H : Heap) (locs : List Loc), va_P D vwCl [] H → va_D A [] → va_S A s.heap H locs → W p l e (headSpec wsX6_partOf (rmX6_partOf)).room s m (List.toArray [Value.long x0, Value.long x1, Value.int x2]) below meth c H locs 0 0 Q (F0 m 0 ls []) := by
    intro H locs hP hD hS
    refine lv_lload_n hx hb dX6_partOf_0 rfl (lv_at hl 1 rfl) ?_
    refine lv_lstore (lv' := [(5, .long x1), (0, .long x0), (2, .long x1), (4, .int x2)]) hx hb dX6_partOf_1 hl (by decide) rfl (fun ls hl => ?_)
    refine lv_lload_n hx hb dX6_partOf_3 rfl (lv_at hl 1 rfl) ?_
    refine lv_lstore (lv' := [(7, .long x0), (5, .long x1), (0, .long x0), (2, .long x1), (4, .int x2)]) hx hb dX6_partOf_4 hl (by decide) rfl (fun ls hl => ?_)
    obtain ⟨j2, hj2, hf⟩ := lj_e hf
    have Hj2 : ∀ (i1 : Int64) (H : Heap) (locs : List Loc) (ls : Array Slot), va_P D vwCl [] H → va_D A [] → va_S A s.heap H locs → lv_has ls 11 [(5, .long i1), (0, .long x0), (2, .long x1), (4, .int x2)] → j2 i1 = some r → W p l e (headSpec wsX6_partOf (rmX6_partOf)).room s m (List.toArray [Value.long x0, Value.long x1, Value.int x2]) below meth c H locs 0 0 Q (F0 m 31 ls []) := by
      intro i1 H locs ls hP hD hS hl hf
      rw [hj2] at hf
      refine lv_iload hx hb dX6_partOf_31 (lv_at hl 3 rfl) ?_
      refine lv_if_ne (tgt := 43) hx hb dX6_partOf_33 (by decide) (fun c3 => ?_) (fun c3 => ?_)
      · replace hf := if_fe c3 hf
        refine lv_lload_n hx hb dX6_partOf_43 rfl (lv_at hl 2 rfl) ?_
        refine lv_lload hx hb dX6_partOf_44 (lv_at hl 0 rfl) ?_
        obtain ⟨hz4, hf⟩ := gdP_e hf
        refine lv_ldiv hx hb dX6_partOf_46 hz4 ?_
        obtain ⟨t5, et5, hf⟩ := lj_e hf
        refine lv_renL et5 ?_
        cases hf
        exact krl hQ hAe hx hb hr hlocks hP hD hK hS dX6_partOf_47
      · replace hf := if_te c3 hf
        refine lv_lload_n hx hb dX6_partOf_36 rfl (lv_at hl 1 rfl) ?_
        refine lv_lload hx hb dX6_partOf_37 (lv_at hl 0 rfl) ?_
        obtain ⟨hz6, hf⟩ := gdP_e hf
        refine lv_ldiv hx hb dX6_partOf_39 hz6 ?_
        refine lv_goto (tgt := 47) hx hb dX6_partOf_40 (by decide) ?_
        obtain ⟨t7, et7, hf⟩ := lj_e hf
        refine lv_renL et7 ?_
        cases hf
        exact krl hQ hAe hx hb hr hlocks hP hD hK hS dX6_partOf_47
    have hL6 : ∀ (n : Nat) (i8 : Int64) (i9 : Int64) (H : Heap) (locs : List Loc) (ls : Array Slot), va_P D vwCl [] H → va_D A [] → va_S A s.heap H locs → lv_has ls 11 [(7, .long i8), (5, .long i9), (0, .long x0), (2, .long x1), (4, .int x2)] → f_X6_partOf_L6 j2 n i8 i9 = some r → W p l e (headSpec wsX6_partOf (rmX6_partOf)).room s m (List.toArray [Value.long x0, Value.long x1, Value.int x2]) below meth c H locs 0 0 Q (F0 m 6 ls []) := by
      intro n
      induction n with
      | zero =>
        intro i8 i9 H locs ls hP hD hS hl hf
        exact absurd hf (fun h => by cases h)
      | succ n ih =>
        intro i8 i9 H locs ls hP hD hS hl hf
        rw [f_X6_partOf_L6] at hf
        refine lv_lload hx hb dX6_partOf_6 (lv_at hl 0 rfl) ?_
        refine lv_lconst (v := 0) hx hb dX6_partOf_8 rfl ?_
        refine W.lcmp hx hb dX6_partOf_9 ?_
        refine lv_if_eq (tgt := 31) hx hb dX6_partOf_10 (by decide) (fun c10 => ?_) (fun c10 => ?_)
        · replace hf := if_te c10 hf
          exact Hj2 i9 H locs ls hP hD hS (lv_sub hl [1, 2, 3, 4] rfl) hf
        · replace hf := if_fe c10 hf
          refine lv_lload hx hb dX6_partOf_13 (lv_at hl 1 rfl) ?_
          refine lv_lload hx hb dX6_partOf_15 (lv_at hl 0 rfl) ?_
          obtain ⟨hz11, hf⟩ := gdP_e hf
          refine lv_lrem hx hb dX6_partOf_17 hz11 ?_
          obtain ⟨t12, et12, hf⟩ := lj_e hf
          refine lv_renL et12 ?_
          refine lv_lstore (lv' := [(9, .long t12), (7, .long i8), (5, .long i9), (0, .long x0), (2, .long x1), (4, .int x2)]) hx hb dX6_partOf_18 hl (by decide) rfl (fun ls hl => ?_)
          refine lv_lload hx hb dX6_partOf_20 (lv_at hl 1 rfl) ?_
          refine lv_lstore (lv' := [(5, .long i8), (9, .long t12), (7, .long i8), (0, .long x0), (2, .long x1), (4, .int x2)]) hx hb dX6_partOf_22 hl (by decide) rfl (fun ls hl => ?_)
          refine lv_lload hx hb dX6_partOf_24 (lv_at hl 1 rfl) ?_
          refine lv_lstore (lv' := [(7, .long t12), (5, .long i8), (9, .long t12), (0, .long x0), (2, .long x1), (4, .int x2)]) hx hb dX6_partOf_26 hl (by decide) rfl (fun ls hl => ?_)
          refine lv_goto (tgt := 6) hx hb dX6_partOf_28 (by decide) ?_
          exact ih t12 i8 H locs ls hP hD hS (lv_sub hl [0, 1, 3, 4, 5] rfl) hf
    exact hL6 N x0 x1 H locs ls hP hD hS (lv_sub hl [0, 1, 2, 3, 4] rfl) hf
  exact main _ _ hP hD hS

def rmX6_isTold : Room := { frames := 7, cells := 0, slots := 0, locals := 165 }
theorem hdX6_isTold : yX6_isTold.cls = RX6 ∧ yX6_isTold.cls ≠ "java/lang/invoke/MethodHandle" ∧ yX6_isTold.cls ≠ "java/lang/invoke/VarHandle" ∧ (parseMethodDescriptor yX6_isTold.desc).map (fun d => d.parameters.length) = some 2 := by decide +kernel
set_option maxHeartbeats 40000000 in
set_option maxRecDepth 100000 in
theorem c_X6_isTold (l : Launch) (E : Nat → Nat) (D : va_G) (C : Nat → ClassId) (e0 e1 e2 e3 e4 e5 e6 e7 e8 e9 e10 e11 e12 e13 e14 e15 : Nat) (sz : Nat) (N : Nat) (m_s : Nat → Int32) (m_held : Nat → Int32) (m_aside : Nat → Int32) (m_before : Nat → Int32) (m_isHeld : Int32) (m_tape : Nat → Int32) (m_taped : Int32) (m_token : Int32) (m_from : Int32) (m_to : Int32) (m_value : Int32) (m_isWrong : Int32) (m_due : Nat → Int32) (m_firsts : Nat → Int32) (m_rows : Nat → Int32) (m_rowN : Int32) (m_sortOf : Nat → Int32) (m_sizeOf : Nat → Int32) (m_numbers : Nat → Int32) (m_holdsWhat : Nat → Int32) (m_holdsWhich : Nat → Int32) (m_holdsMany : Nat → Int32) (m_bodies : Nat → Int32) (m_ran : Int32) (m_actKind : Int32) (m_actN : Int32) (m_actA : Int32) (m_isParted : Int32) (x0 : Int32) (x1 : Int32) (r : Int32) (m_s' : Nat → Int32) (m_aside' : Nat → Int32) (hf : f_X6_isTold N m_s m_aside m_sizeOf m_numbers x0 x1 = some (r, m_s', m_aside')) : Met l yX6_isTold wsX6_isTold rmX6_isTold (PC E D C [.ref e0, .int x0, .int x1] (oMM C e0 e1 e2 e3 e4 e5 e6 e7 e8 e9 e10 e11 e12 e13 e14 e15 m_s m_held m_aside m_before m_isHeld m_tape m_taped m_token m_from m_to m_value m_isWrong m_due m_firsts m_rows m_rowN m_sortOf m_sizeOf m_numbers m_holdsWhat m_holdsWhich m_holdsMany m_bodies m_ran m_actKind m_actN m_actA m_isParted []) sz) (QZ D C (oMM C e0 e1 e2 e3 e4 e5 e6 e7 e8 e9 e10 e11 e12 e13 e14 e15 m_s m_held m_aside m_before m_isHeld m_tape m_taped m_token m_from m_to m_value m_isWrong m_due m_firsts m_rows m_rowN m_sortOf m_sizeOf m_numbers m_holdsWhat m_holdsWhich m_holdsMany m_bodies m_ran m_actKind m_actN m_actA m_isParted []) (oMM C e0 e1 e2 e3 e4 e5 e6 e7 e8 e9 e10 e11 e12 e13 e14 e15 (m_s') m_held (m_aside') m_before m_isHeld m_tape m_taped m_token m_from m_to m_value m_isWrong m_due m_firsts m_rows m_rowN m_sortOf m_sizeOf m_numbers m_holdsWhat m_holdsWhich m_holdsMany m_bodies m_ran m_actKind m_actN m_actA m_isParted []) sz r) 0 0 (va_A (oMM C e0 e1 e2 e3 e4 e5 e6 e7 e8 e9 e10 e11 e12 e13 e14 e15 m_s m_held m_aside m_before m_isHeld m_tape m_taped m_token m_from m_to m_value m_isWrong m_due m_firsts m_rows m_rowN m_sortOf m_sizeOf m_numbers m_holdsWhat m_holdsWhich m_holdsMany m_bodies m_ran m_actKind m_actN m_actA m_isParted []) sz) := by
  refine Met.ofW (cc := cX6_isTold) (maxL := 5) (ret := (some .boolean)) (by decide) rfl ?_
  intro p e s m args below meth c s₁ B hml hv
  obtain ⟨rfl, hsz, hP, hK, hD0, hE⟩ := hv
  have hx := B.exec
  have hb := B.bytes
  have hr := B.returns
  have hts := atoms_spec (ws := wsX6_isTold) B.pre
  have hown : s.vm.findClass RX6 = some m.cls := findClass_of_methodNamed B.named
  have hlocks := B.notSynchronized
  subst hsz
  have hi_RX6 : ∀ w ∈ wsX60, w ∈ wsX6_isTold := fun _ h => List.mem_cons_of_mem _ (List.mem_append_right _ h)
  have hD := hD0.self (sz := s.heap.size)
  obtain ⟨A, hAe⟩ := nm_ex (va_A (oMM C e0 e1 e2 e3 e4 e5 e6 e7 e8 e9 e10 e11 e12 e13 e14 e15 m_s m_held m_aside m_before m_isHeld m_tape m_taped m_token m_from m_to m_value m_isWrong m_due m_firsts m_rows m_rowN m_sortOf m_sizeOf m_numbers m_holdsWhat m_holdsWhich m_holdsMany m_bodies m_ran m_actKind m_actN m_actA m_isParted []) s.heap.size)
  rw [← hAe] at hD hE ⊢
  have hA : ∀ q : Nat, s.heap.size ≤ q → A q := fun q h => by rw [hAe]; exact Or.inr h
  have hS : va_S A s.heap s.heap [] := va_S.rf
  have hl := lv_entry ([.ref e0, .int x0, .int x1]) (n := 5) (Nat.le_of_ble_eq_true rfl)
  rw [lg_entry_eq]
  generalize (lg_sl ([.ref e0, .int x0, .int x1]) ++ List.replicate (5 - (lg_sl ([.ref e0, .int x0, .int x1])).length) Slot.unset).toArray = ls at hl ⊢
  have hl : lv_has ls 5 [(0, .ref e0), (1, .int x0), (2, .int x1)] := hl
  obtain ⟨Q, hQ⟩ := nm_ex (MQ below (QZ D C (oMM C e0 e1 e2 e3 e4 e5 e6 e7 e8 e9 e10 e11 e12 e13 e14 e15 m_s m_held m_aside m_before m_isHeld m_tape m_taped m_token m_from m_to m_value m_isWrong m_due m_firsts m_rows m_rowN m_sortOf m_sizeOf m_numbers m_holdsWhat m_holdsWhich m_holdsMany m_bodies m_ran m_actKind m_actN m_actA m_isParted []) (oMM C e0 e1 e2 e3 e4 e5 e6 e7 e8 e9 e10 e11 e12 e13 e14 e15 (m_s') m_held (m_aside') m_before m_isHeld m_tape m_taped m_token m_from m_to m_value m_isWrong m_due m_firsts m_rows m_rowN m_sortOf m_sizeOf m_numbers m_holdsWhat m_holdsWhich m_holdsMany m_bodies m_ran m_actKind m_actN m_actA m_isParted []) s.heap.size r) (List.toArray [Value.ref e0, Value.int x0, Value.int x1]) s 0 0 A)
  show W p l e (headSpec wsX6_isTold (rmX6_isTold)).room s m (List.toArray [Value.ref e0, Value.int x0, Value.int x1]) below meth c s.heap [] 0 0 (MQ below (QZ D C (oMM C e0 e1 e2 e3 e4 e5 e6 e7 e8 e9 e10 e11 e12 e13 e14 e15 m_s m_held m_aside m_before m_isHeld m_tape m_taped m_token m_from m_to m_value m_isWrong m_due m_firsts m_rows m_rowN m_sortOf m_sizeOf m_numbers m_holdsWhat m_holdsWhich m_holdsMany m_bodies m_ran m_actKind m_actN m_actA m_isParted []) (oMM C e0 e1 e2 e3 e4 e5 e6 e7 e8 e9 e10 e11 e12 e13 e14 e15 (m_s') m_held (m_aside') m_before m_isHeld m_tape m_taped m_token m_from m_to m_value m_isWrong m_due m_firsts m_rows m_rowN m_sortOf m_sizeOf m_numbers m_holdsWhat m_holdsWhich m_holdsMany m_bodies m_ran m_actKind m_actN m_actA m_isParted []) s.heap.size r) (List.toArray [Value.ref e0, Value.int x0, Value.int x1]) s 0 0 A) _
  rw [← hQ]
  unfold f_X6_isTold at hf
  have main : ∀ (H : Heap) (locs : List Loc), va_P D vwCl (oMM C e0 e1 e2 e3 e4 e5 e6 e7 e8 e9 e10 e11 e12 e13 e14 e15 m_s m_held m_aside m_before m_isHeld m_tape m_taped m_token m_from m_to m_value m_isWrong m_due m_firsts m_rows m_rowN m_sortOf m_sizeOf m_numbers m_holdsWhat m_holdsWhich m_holdsMany m_bodies m_ran m_actKind m_actN m_actA m_isParted []) H → va_D A (oMM C e0 e1 e2 e3 e4 e5 e6 e7 e8 e9 e10 e11 e12 e13 e14 e15 m_s m_held m_aside m_before m_isHeld m_tape m_taped m_token m_from m_to m_value m_isWrong m_due m_firsts m_rows m_rowN m_sortOf m_sizeOf m_numbers m_holdsWhat m_holdsWhich m_holdsMany m_bodies m_ran m_actKind m_actN m_actA m_isParted []) → va_S A s.heap H locs → W p l e (headSpec wsX6_isTold (rmX6_isTold)).room s m (List.toArray [Value.ref e0, Value.int x0, Value.int x1]) below meth c H locs 0 0 Q (F0 m 0 ls []) := by
    intro H locs hP hD hS
    refine lv_aload_n hx hb dX6_isTold_0 rfl (lv_at hl 0 rfl) ?_
    refine va_get (D := D) (ci := 6) (v := .ref e1) (C := RX6) (T := TX6) (N := 28) hx hb hts hi_RX6 hown hK hP 0 rfl rfl 0 (by decide) (hts (.fieldLink RX6 7 "TravelMarksModel" "s" "[I") (List.mem_of_getElem? (i := 1) rfl)) (fun _ h9 => h9) rfl dX6_isTold_1 ?_
    refine lv_aload_n hx hb dX6_isTold_4 rfl (lv_at hl 0 rfl) ?_
    refine va_get (D := D) (ci := 6) (v := .ref e3) (C := RX6) (T := TX6) (N := 28) hx hb hts hi_RX6 hown hK hP 0 rfl rfl 2 (by decide) (hts (.fieldLink RX6 16 "TravelMarksModel" "aside" "[I") (List.mem_of_getElem? (i := 2) rfl)) (fun _ h9 => h9) rfl dX6_isTold_5 ?_
    obtain ⟨v1, h2, hf⟩ := ob1_e hf
    refine kcv (Wx := (oMM C e0 e1 e2 e3 e4 e5 e6 e7 e8 e9 e10 e11 e12 e13 e14 e15 m_s m_held v1 m_before m_isHeld m_tape m_taped m_token m_from m_to m_value m_isWrong m_due m_firsts m_rows m_rowN m_sortOf m_sizeOf m_numbers m_holdsWhat m_holdsWhich m_holdsMany m_bodies m_ran m_actKind m_actN m_actA m_isParted [])) (va_runS (As := [.ref e1, .ref e3]) (rest := []) ⟨hx, hb, hml, hown, hts⟩ (c_X6_copyRow l E D C e1 e3 H.size N m_s m_aside v1 h2) (va_cwS 2 hts gX6_isTold_X6_copyRow rfl rfl rfl hdX6_copyRow ⟨Nat.le_of_ble_eq_true rfl, Nat.le_of_ble_eq_true rfl⟩) (kpre hP hD hK hS hE hA [1, 3] rfl rfl) rfl rfl hl.1 rfl (lv_room (Nat.le_of_ble_eq_true rfl)) dX6_isTold_8 ⟨Nat.zero_le _, Nat.zero_le _⟩) hP hD hS hA [1, 3] rfl rfl rfl (fun H locs hP hD hS => ?_)
    refine lv_iconst (v := 1) hx hb dX6_isTold_11 rfl ?_
    refine lv_istore_n (lv' := [(3, .int 1), (0, .ref e0), (1, .int x0), (2, .int x1)]) hx hb dX6_isTold_12 rfl hl (by decide) rfl (fun ls hl => ?_)
    refine lv_iconst (v := 0) hx hb dX6_isTold_13 rfl ?_
    refine lv_istore (lv' := [(4, .int 0), (3, .int 1), (0, .ref e0), (1, .int x0), (2, .int x1)]) hx hb dX6_isTold_14 hl (by decide) rfl (fun ls hl => ?_)
    obtain ⟨j5, hj5, hf⟩ := lj_e hf
    have Hj5 : ∀ (i3 : Int32) (v4 : Nat → Int32) (H : Heap) (locs : List Loc) (ls : Array Slot), va_P D vwCl (oMM C e0 e1 e2 e3 e4 e5 e6 e7 e8 e9 e10 e11 e12 e13 e14 e15 v4 m_held v1 m_before m_isHeld m_tape m_taped m_token m_from m_to m_value m_isWrong m_due m_firsts m_rows m_rowN m_sortOf m_sizeOf m_numbers m_holdsWhat m_holdsWhich m_holdsMany m_bodies m_ran m_actKind m_actN m_actA m_isParted []) H → va_D A (oMM C e0 e1 e2 e3 e4 e5 e6 e7 e8 e9 e10 e11 e12 e13 e14 e15 v4 m_held v1 m_before m_isHeld m_tape m_taped m_token m_from m_to m_value m_isWrong m_due m_firsts m_rows m_rowN m_sortOf m_sizeOf m_numbers m_holdsWhat m_holdsWhich m_holdsMany m_bodies m_ran m_actKind m_actN m_actA m_isParted []) → va_S A s.heap H locs → lv_has ls 5 [(3, .int i3), (0, .ref e0)] → j5 i3 v4 = some (r, m_s', m_aside') → W p l e (headSpec wsX6_isTold (rmX6_isTold)).room s m (List.toArray [Value.ref e0, Value.int x0, Value.int x1]) below meth c H locs 0 0 Q (F0 m 85 ls []) := by
      intro i3 v4 H locs ls hP hD hS hl hf
      rw [hj5] at hf
      refine lv_aload_n hx hb dX6_isTold_85 rfl (lv_at hl 1 rfl) ?_
      refine va_get (D := D) (ci := 6) (v := .ref e3) (C := RX6) (T := TX6) (N := 28) hx hb hts hi_RX6 hown hK hP 0 rfl rfl 2 (by decide) (hts (.fieldLink RX6 16 "TravelMarksModel" "aside" "[I") (List.mem_of_getElem? (i := 2) rfl)) (fun _ h9 => h9) rfl dX6_isTold_86 ?_
      refine lv_aload_n hx hb dX6_isTold_89 rfl (lv_at hl 1 rfl) ?_
      refine va_get (D := D) (ci := 6) (v := .ref e1) (C := RX6) (T := TX6) (N := 28) hx hb hts hi_RX6 hown hK hP 0 rfl rfl 0 (by decide) (hts (.fieldLink RX6 7 "TravelMarksModel" "s" "[I") (List.mem_of_getElem? (i := 1) rfl)) (fun _ h9 => h9) rfl dX6_isTold_90 ?_
      obtain ⟨v6, h7, hf⟩ := ob1_e hf
      refine kcv (Wx := (oMM C e0 e1 e2 e3 e4 e5 e6 e7 e8 e9 e10 e11 e12 e13 e14 e15 v6 m_held v1 m_before m_isHeld m_tape m_taped m_token m_from m_to m_value m_isWrong m_due m_firsts m_rows m_rowN m_sortOf m_sizeOf m_numbers m_holdsWhat m_holdsWhich m_holdsMany m_bodies m_ran m_actKind m_actN m_actA m_isParted [])) (va_runS (As := [.ref e3, .ref e1]) (rest := []) ⟨hx, hb, hml, hown, hts⟩ (c_X6_copyRow l E D C e3 e1 H.size N v1 v4 v6 h7) (va_cwS 2 hts gX6_isTold_X6_copyRow rfl rfl rfl hdX6_copyRow ⟨Nat.le_of_ble_eq_true rfl, Nat.le_of_ble_eq_true rfl⟩) (kpre hP hD hK hS hE hA [3, 1] rfl rfl) rfl rfl hl.1 rfl (lv_room (Nat.le_of_ble_eq_true rfl)) dX6_isTold_93 ⟨Nat.zero_le _, Nat.zero_le _⟩) hP hD hS hA [3, 1] rfl rfl rfl (fun H locs hP hD hS => ?_)
      refine lv_iload_n hx hb dX6_isTold_96 rfl (lv_at hl 0 rfl) ?_
      obtain ⟨hz8, hf⟩ := gdP_e hf
      cases hf
      exact krz hQ hAe hx hb hr hlocks (zb_of hz8) hP hD hK hS dX6_isTold_97
    have hL16 : ∀ (n : Nat) (i9 : Int32) (i10 : Int32) (v11 : Nat → Int32) (H : Heap) (locs : List Loc) (ls : Array Slot), va_P D vwCl (oMM C e0 e1 e2 e3 e4 e5 e6 e7 e8 e9 e10 e11 e12 e13 e14 e15 v11 m_held v1 m_before m_isHeld m_tape m_taped m_token m_from m_to m_value m_isWrong m_due m_firsts m_rows m_rowN m_sortOf m_sizeOf m_numbers m_holdsWhat m_holdsWhich m_holdsMany m_bodies m_ran m_actKind m_actN m_actA m_isParted []) H → va_D A (oMM C e0 e1 e2 e3 e4 e5 e6 e7 e8 e9 e10 e11 e12 e13 e14 e15 v11 m_held v1 m_before m_isHeld m_tape m_taped m_token m_from m_to m_value m_isWrong m_due m_firsts m_rows m_rowN m_sortOf m_sizeOf m_numbers m_holdsWhat m_holdsWhich m_holdsMany m_bodies m_ran m_actKind m_actN m_actA m_isParted []) → va_S A s.heap H locs → lv_has ls 5 [(4, .int i9), (3, .int i10), (0, .ref e0), (1, .int x0), (2, .int x1)] → f_X6_isTold_L16 N m_sizeOf m_numbers x0 x1 j5 n i9 i10 v11 = some (r, m_s', m_aside') → W p l e (headSpec wsX6_isTold (rmX6_isTold)).room s m (List.toArray [Value.ref e0, Value.int x0, Value.int x1]) below meth c H locs 0 0 Q (F0 m 16 ls []) := by
      intro n
      induction n with
      | zero =>
        intro i9 i10 v11 H locs ls hP hD hS hl hf
        exact absurd hf (fun h => by cases h)
      | succ n ih =>
        intro i9 i10 v11 H locs ls hP hD hS hl hf
        rw [f_X6_isTold_L16] at hf
        refine lv_iload hx hb dX6_isTold_16 (lv_at hl 0 rfl) ?_
        refine lv_aload_n hx hb dX6_isTold_18 rfl (lv_at hl 2 rfl) ?_
        refine va_get (D := D) (ci := 6) (v := .ref e10) (C := RX6) (T := TX6) (N := 28) hx hb hts hi_RX6 hown hK hP 0 rfl rfl 17 (by decide) (hts (.fieldLink RX6 37 "TravelMarksModel" "sizeOf" "[I") (List.mem_of_getElem? (i := 3) rfl)) (fun _ h9 => h9) rfl dX6_isTold_19 ?_
        refine lv_iload_n hx hb dX6_isTold_22 rfl (lv_at hl 3 rfl) ?_
        obtain ⟨y13, ey13, hi12, hf⟩ := rdA_x hf
        refine va_iald hx hb hK hP 10 0 rfl rfl hi12 dX6_isTold_23 ?_
        refine lv_ren ey13 ?_
        refine lv_icmp_ge (tgt := 85) hx hb dX6_isTold_24 (by decide) (fun c14 => ?_) (fun c14 => ?_)
        · replace hf := if_te c14 hf
          exact Hj5 i10 v11 H locs ls hP hD hS (lv_sub hl [1, 2] rfl) hf
        · replace hf := if_fe c14 hf
          refine lv_iload_n hx hb dX6_isTold_27 rfl (lv_at hl 1 rfl) ?_
          refine lv_if_eq (tgt := 85) hx hb dX6_isTold_28 (by decide) (fun c15 => ?_) (fun c15 => ?_)
          · replace hf := if_te c15 hf
            exact Hj5 i10 v11 H locs ls hP hD hS (lv_sub hl [1, 2] rfl) hf
          · replace hf := if_fe c15 hf
            refine lv_aload_n hx hb dX6_isTold_31 rfl (lv_at hl 2 rfl) ?_
            refine lv_iconst (v := 1) hx hb dX6_isTold_32 rfl ?_
            obtain ⟨v16, h17, hf⟩ := ob1_e hf
            refine kmv (w1 := (oMM C e0 e1 e2 e3 e4 e5 e6 e7 e8 e9 e10 e11 e12 e13 e14 e15 v16 m_held v1 m_before m_isHeld m_tape m_taped m_token m_from m_to m_value m_isWrong m_due m_firsts m_rows m_rowN m_sortOf m_sizeOf m_numbers m_holdsWhat m_holdsWhich m_holdsMany m_bodies m_ran m_actKind m_actN m_actA m_isParted [])) (va_runV (As := [.int 1]) (rest := []) ⟨hx, hb, hml, hown, hts⟩ (c_X6_goes l E D C e0 e1 e2 e3 e4 e5 e6 e7 e8 e9 e10 e11 e12 e13 e14 e15 H.size N v11 m_held v1 m_before m_isHeld m_tape m_taped m_token m_from m_to m_value m_isWrong m_due m_firsts m_rows m_rowN m_sortOf m_sizeOf m_numbers m_holdsWhat m_holdsWhich m_holdsMany m_bodies m_ran m_actKind m_actN m_actA m_isParted 1 v16 h17) (cwV 1 hts gX6_isTold_X6_goes rfl rfl rfl hdX6_goes ⟨Nat.le_of_ble_eq_true rfl, Nat.le_of_ble_eq_true rfl⟩) (kpreM hP hD hK hS hE hA 0 rfl rfl rfl) rfl rfl hl.1 rfl (lv_room (Nat.le_of_ble_eq_true rfl)) dX6_isTold_33 ⟨Nat.zero_le _, Nat.zero_le _⟩) hP hD hS hA rfl (fun H locs hP hD hS => ?_)
            refine lv_aload_n hx hb dX6_isTold_36 rfl (lv_at hl 2 rfl) ?_
            refine va_get (D := D) (ci := 6) (v := .ref e11) (C := RX6) (T := TX6) (N := 28) hx hb hts hi_RX6 hown hK hP 0 rfl rfl 18 (by decide) (hts (.fieldLink RX6 40 "TravelMarksModel" "numbers" "[I") (List.mem_of_getElem? (i := 4) rfl)) (fun _ h9 => h9) rfl dX6_isTold_37 ?_
            refine lv_bipush (v := 40) hx hb dX6_isTold_40 rfl ?_
            refine lv_iload_n hx hb dX6_isTold_42 rfl (lv_at hl 3 rfl) ?_
            refine lv_imul hx hb dX6_isTold_43 ?_
            refine lv_iload hx hb dX6_isTold_44 (lv_at hl 0 rfl) ?_
            refine lv_iadd hx hb dX6_isTold_46 ?_
            obtain ⟨y19, ey19, hi18, hf⟩ := rdA_x hf
            refine va_iald hx hb hK hP 11 0 rfl rfl hi18 dX6_isTold_47 ?_
            refine lv_ren ey19 ?_
            refine lv_iconst (v := (-1)) hx hb dX6_isTold_48 rfl ?_
            obtain ⟨j21, hj21, hf⟩ := lj_e hf
            have Hj21 : ∀ (k20 : Int32) (H : Heap) (locs : List Loc) (ls : Array Slot), va_P D vwCl (oMM C e0 e1 e2 e3 e4 e5 e6 e7 e8 e9 e10 e11 e12 e13 e14 e15 v16 m_held v1 m_before m_isHeld m_tape m_taped m_token m_from m_to m_value m_isWrong m_due m_firsts m_rows m_rowN m_sortOf m_sizeOf m_numbers m_holdsWhat m_holdsWhich m_holdsMany m_bodies m_ran m_actKind m_actN m_actA m_isParted []) H → va_D A (oMM C e0 e1 e2 e3 e4 e5 e6 e7 e8 e9 e10 e11 e12 e13 e14 e15 v16 m_held v1 m_before m_isHeld m_tape m_taped m_token m_from m_to m_value m_isWrong m_due m_firsts m_rows m_rowN m_sortOf m_sizeOf m_numbers m_holdsWhat m_holdsWhich m_holdsMany m_bodies m_ran m_actKind m_actN m_actA m_isParted []) → va_S A s.heap H locs → lv_has ls 5 [(4, .int i9), (0, .ref e0), (1, .int x0), (2, .int x1)] → j21 k20 = some (r, m_s', m_aside') → W p l e (headSpec wsX6_isTold (rmX6_isTold)).room s m (List.toArray [Value.ref e0, Value.int x0, Value.int x1]) below meth c H locs 0 0 Q (F0 m 78 ls [.int k20]) := by
              intro k20 H locs ls hP hD hS hl hf
              rw [hj21] at hf
              refine lv_istore_n (lv' := [(3, .int k20), (4, .int i9), (0, .ref e0), (1, .int x0), (2, .int x1)]) hx hb dX6_isTold_78 rfl hl (by decide) rfl (fun ls hl => ?_)
              obtain ⟨t22, et22, hf⟩ := lj_e hf
              refine lv_iinc (v := t22) (lv' := [(4, .int t22), (3, .int k20), (0, .ref e0), (1, .int x0), (2, .int x1)]) hx hb dX6_isTold_79 hl (k := 1) rfl (by rw [et22]; rfl) (by decide) rfl (fun ls hl => ?_)
              refine lv_goto (tgt := 16) hx hb dX6_isTold_82 (by decide) ?_
              exact ih t22 k20 v16 H locs ls hP hD hS (lv_sub hl [0, 1, 2, 3, 4] rfl) hf
            obtain ⟨j23, hj23, hf⟩ := lj_e hf
            have Hj23 : ∀ (H : Heap) (locs : List Loc) (ls : Array Slot), va_P D vwCl (oMM C e0 e1 e2 e3 e4 e5 e6 e7 e8 e9 e10 e11 e12 e13 e14 e15 v16 m_held v1 m_before m_isHeld m_tape m_taped m_token m_from m_to m_value m_isWrong m_due m_firsts m_rows m_rowN m_sortOf m_sizeOf m_numbers m_holdsWhat m_holdsWhich m_holdsMany m_bodies m_ran m_actKind m_actN m_actA m_isParted []) H → va_D A (oMM C e0 e1 e2 e3 e4 e5 e6 e7 e8 e9 e10 e11 e12 e13 e14 e15 v16 m_held v1 m_before m_isHeld m_tape m_taped m_token m_from m_to m_value m_isWrong m_due m_firsts m_rows m_rowN m_sortOf m_sizeOf m_numbers m_holdsWhat m_holdsWhich m_holdsMany m_bodies m_ran m_actKind m_actN m_actA m_isParted []) → va_S A s.heap H locs → lv_has ls 5 [(4, .int i9), (0, .ref e0), (1, .int x0), (2, .int x1)] → j23 = some (r, m_s', m_aside') → W p l e (headSpec wsX6_isTold (rmX6_isTold)).room s m (List.toArray [Value.ref e0, Value.int x0, Value.int x1]) below meth c H locs 0 0 Q (F0 m 73 ls []) := by
              intro H locs ls hP hD hS hl hf
              rw [hj23] at hf
              refine lv_iconst (v := 1) hx hb dX6_isTold_73 rfl ?_
              refine lv_goto (tgt := 78) hx hb dX6_isTold_74 (by decide) ?_
              exact Hj21 1 H locs ls hP hD hS (lv_sub hl [0, 1, 2, 3] rfl) hf
            refine lv_icmp_eq (tgt := 73) hx hb dX6_isTold_49 (by decide) (fun c24 => ?_) (fun c24 => ?_)
            · replace hf := if_te c24 hf
              exact Hj23 H locs ls hP hD hS (lv_sub hl [0, 2, 3, 4] rfl) hf
            · replace hf := if_fe c24 hf
              refine lv_aload_n hx hb dX6_isTold_52 rfl (lv_at hl 2 rfl) ?_
              refine va_get (D := D) (ci := 6) (v := .ref e11) (C := RX6) (T := TX6) (N := 28) hx hb hts hi_RX6 hown hK hP 0 rfl rfl 18 (by decide) (hts (.fieldLink RX6 40 "TravelMarksModel" "numbers" "[I") (List.mem_of_getElem? (i := 4) rfl)) (fun _ h9 => h9) rfl dX6_isTold_53 ?_
              refine lv_bipush (v := 40) hx hb dX6_isTold_56 rfl ?_
              refine lv_iload_n hx hb dX6_isTold_58 rfl (lv_at hl 3 rfl) ?_
              refine lv_imul hx hb dX6_isTold_59 ?_
              refine lv_iload hx hb dX6_isTold_60 (lv_at hl 0 rfl) ?_
              refine lv_iadd hx hb dX6_isTold_62 ?_
              obtain ⟨y26, ey26, hi25, hf⟩ := rdA_x hf
              refine va_iald hx hb hK hP 11 0 rfl rfl hi25 dX6_isTold_63 ?_
              refine lv_ren ey26 ?_
              refine lv_aload_n hx hb dX6_isTold_64 rfl (lv_at hl 2 rfl) ?_
              refine lv_iload_n hx hb dX6_isTold_65 rfl (lv_at hl 4 rfl) ?_
              refine lv_iconst (v := 2) hx hb dX6_isTold_66 rfl ?_
              obtain ⟨r27, h28, hf⟩ := ob1_e hf
              refine kmi (w1 := (oMM C e0 e1 e2 e3 e4 e5 e6 e7 e8 e9 e10 e11 e12 e13 e14 e15 v16 m_held v1 m_before m_isHeld m_tape m_taped m_token m_from m_to m_value m_isWrong m_due m_firsts m_rows m_rowN m_sortOf m_sizeOf m_numbers m_holdsWhat m_holdsWhich m_holdsMany m_bodies m_ran m_actKind m_actN m_actA m_isParted [])) (va_runV (As := [.int x1, .int 2]) (rest := [.int y26]) ⟨hx, hb, hml, hown, hts⟩ (c_X6_its l E D C e0 e1 e2 e3 e4 e5 e6 e7 e8 e9 e10 e11 e12 e13 e14 e15 H.size v16 m_held v1 m_before m_isHeld m_tape m_taped m_token m_from m_to m_value m_isWrong m_due m_firsts m_rows m_rowN m_sortOf m_sizeOf m_numbers m_holdsWhat m_holdsWhich m_holdsMany m_bodies m_ran m_actKind m_actN m_actA m_isParted x1 2 r27 h28) (cwV 2 hts gX6_isTold_X6_its rfl rfl rfl hdX6_its ⟨Nat.le_of_ble_eq_true rfl, Nat.le_of_ble_eq_true rfl⟩) (kpreM hP hD hK hS hE hA 0 rfl rfl rfl) rfl rfl hl.1 rfl (lv_room (Nat.le_of_ble_eq_true rfl)) dX6_isTold_67 ⟨Nat.zero_le _, Nat.zero_le _⟩) hP hD hS hA rfl (fun H locs hP hD hS => ?_)
              refine lv_icmp_ne (tgt := 77) hx hb dX6_isTold_70 (by decide) (fun c29 => ?_) (fun c29 => ?_)
              · replace hf := if_fe c29 hf
                refine lv_iconst (v := 0) hx hb dX6_isTold_77 rfl ?_
                exact Hj21 0 H locs ls hP hD hS (lv_sub hl [0, 2, 3, 4] rfl) hf
              · replace hf := if_te c29 hf
                exact Hj23 H locs ls hP hD hS (lv_sub hl [0, 2, 3, 4] rfl) hf
    exact hL16 N 0 1 m_s H locs ls hP hD hS (lv_sub hl [0, 1, 2, 3, 4] rfl) hf
  exact main _ _ hP hD hS

def rmX6_isSheet : Room := { frames := 1, cells := 0, slots := 0, locals := 25 }
theorem hdX6_isSheet : yX6_isSheet.cls ≠ "java/lang/invoke/MethodHandle" ∧ yX6_isSheet.cls ≠ "java/lang/invoke/VarHandle" ∧ (parseMethodDescriptor yX6_isSheet.desc).map (fun d => d.parameters.length) = some 1 := by decide +kernel
set_option maxHeartbeats 40000000 in
set_option maxRecDepth 100000 in
theorem c_X6_isSheet (l : Launch) (E : Nat → Nat) (D : va_G) (C : Nat → ClassId) (sz : Nat)  (x0 : Int32) (r : Int32) (hf : f_X6_isSheet x0 = r) : Met l yX6_isSheet wsX6_isSheet rmX6_isSheet (PC E D C [.int x0] [] sz) (QZ D C [] [] sz r) 0 0 (va_A [] sz) := by
  refine Met.ofW (cc := cX6_isSheet) (maxL := 1) (ret := (some .boolean)) (by decide) rfl ?_
  intro p e s m args below meth c s₁ B hml hv
  obtain ⟨rfl, hsz, hP, hK, hD0, hE⟩ := hv
  have hx := B.exec
  have hb := B.bytes
  have hr := B.returns
  have hts := atoms_spec (ws := wsX6_isSheet) B.pre
  have hown : s.vm.findClass RX6 = some m.cls := findClass_of_methodNamed B.named
  have hlocks := B.notSynchronized
  subst hsz
  have hD := hD0.self (sz := s.heap.size)
  obtain ⟨A, hAe⟩ := nm_ex (va_A [] s.heap.size)
  rw [← hAe] at hD hE ⊢
  have hA : ∀ q : Nat, s.heap.size ≤ q → A q := fun q h => by rw [hAe]; exact Or.inr h
  have hS : va_S A s.heap s.heap [] := va_S.rf
  have hl := lv_entry ([.int x0]) (n := 1) (Nat.le_of_ble_eq_true rfl)
  rw [lg_entry_eq]
  generalize (lg_sl ([.int x0]) ++ List.replicate (1 - (lg_sl ([.int x0])).length) Slot.unset).toArray = ls at hl ⊢
  have hl : lv_has ls 1 [(0, .int x0)] := hl
  obtain ⟨Q, hQ⟩ := nm_ex (MQ below (QZ D C [] [] s.heap.size r) (List.toArray [Value.int x0]) s 0 0 A)
  show W p l e (headSpec wsX6_isSheet (rmX6_isSheet)).room s m (List.toArray [Value.int x0]) below meth c s.heap [] 0 0 (MQ below (QZ D C [] [] s.heap.size r) (List.toArray [Value.int x0]) s 0 0 A) _
  rw [← hQ]
  unfold f_X6_isSheet at hf
  have main : ∀ (H : Heap) (locs : List Loc), va_P D vwCl [] H → va_D A [] → va_S A s.heap H locs → W p l e (headSpec wsX6_isSheet (rmX6_isSheet)).room s m (List.toArray [Value.int x0]) below meth c H locs 0 0 Q (F0 m 0 ls []) := by
    intro H locs hP hD hS
    refine lv_iload_n hx hb dX6_isSheet_0 rfl (lv_at hl 0 rfl) ?_
    refine lv_i2l hx hb dX6_isSheet_1 rfl ?_
    refine lv_lconst (v := 0) hx hb dX6_isSheet_2 rfl ?_
    refine lv_ldc2 (v := 3) hx hb hown (hts (.constantLong RX6 156 (3)) (List.mem_of_getElem? (i := 1) rfl)) dX6_isSheet_3 ?_
    refine kcz (Wx := []) (va_runS (As := [.long (Int32.toInt64 x0), .long 0, .long 3]) (rest := []) ⟨hx, hb, hml, hown, hts⟩ (c_X6_isIn l E D C H.size (Int32.toInt64 x0) 0 3 _ rfl) (va_cwS 3 hts gX6_isSheet_X6_isIn rfl rfl rfl hdX6_isIn ⟨Nat.le_of_ble_eq_true rfl, Nat.le_of_ble_eq_true rfl⟩) (kpre hP hD hK hS hE hA [] rfl rfl) rfl rfl hl.1 rfl (lv_room (Nat.le_of_ble_eq_true rfl)) dX6_isSheet_6 ⟨Nat.zero_le _, Nat.zero_le _⟩) hP hD hS hA [] rfl rfl rfl (fun H locs hz1 hP hD hS => ?_)
    cases hf
    exact krz hQ hAe hx hb hr hlocks hz1 hP hD hK hS dX6_isSheet_9
  exact main _ _ hP hD hS

def rmX6_fits : Room := { frames := 8, cells := 0, slots := 0, locals := 189 }
theorem hdX6_fits : yX6_fits.cls = RX6 ∧ yX6_fits.cls ≠ "java/lang/invoke/MethodHandle" ∧ yX6_fits.cls ≠ "java/lang/invoke/VarHandle" ∧ (parseMethodDescriptor yX6_fits.desc).map (fun d => d.parameters.length) = some 3 := by decide +kernel
set_option maxHeartbeats 40000000 in
set_option maxRecDepth 100000 in
theorem c_X6_fits (l : Launch) (E : Nat → Nat) (D : va_G) (C : Nat → ClassId) (e0 e1 e2 e3 e4 e5 e6 e7 e8 e9 e10 e11 e12 e13 e14 e15 : Nat) (sz : Nat) (N : Nat) (m_s : Nat → Int32) (m_held : Nat → Int32) (m_aside : Nat → Int32) (m_before : Nat → Int32) (m_isHeld : Int32) (m_tape : Nat → Int32) (m_taped : Int32) (m_token : Int32) (m_from : Int32) (m_to : Int32) (m_value : Int32) (m_isWrong : Int32) (m_due : Nat → Int32) (m_firsts : Nat → Int32) (m_rows : Nat → Int32) (m_rowN : Int32) (m_sortOf : Nat → Int32) (m_sizeOf : Nat → Int32) (m_numbers : Nat → Int32) (m_holdsWhat : Nat → Int32) (m_holdsWhich : Nat → Int32) (m_holdsMany : Nat → Int32) (m_bodies : Nat → Int32) (m_ran : Int32) (m_actKind : Int32) (m_actN : Int32) (m_actA : Int32) (m_isParted : Int32) (x0 : Int32) (x1 : Int32) (x2 : Int32) (r : Int32) (m_s' : Nat → Int32) (m_aside' : Nat → Int32) (hf : f_X6_fits N m_s m_aside m_sortOf m_sizeOf m_numbers x0 x1 x2 = some (r, m_s', m_aside')) : Met l yX6_fits wsX6_fits rmX6_fits (PC E D C [.ref e0, .int x0, .int x1, .int x2] (oMM C e0 e1 e2 e3 e4 e5 e6 e7 e8 e9 e10 e11 e12 e13 e14 e15 m_s m_held m_aside m_before m_isHeld m_tape m_taped m_token m_from m_to m_value m_isWrong m_due m_firsts m_rows m_rowN m_sortOf m_sizeOf m_numbers m_holdsWhat m_holdsWhich m_holdsMany m_bodies m_ran m_actKind m_actN m_actA m_isParted []) sz) (QI D C (oMM C e0 e1 e2 e3 e4 e5 e6 e7 e8 e9 e10 e11 e12 e13 e14 e15 m_s m_held m_aside m_before m_isHeld m_tape m_taped m_token m_from m_to m_value m_isWrong m_due m_firsts m_rows m_rowN m_sortOf m_sizeOf m_numbers m_holdsWhat m_holdsWhich m_holdsMany m_bodies m_ran m_actKind m_actN m_actA m_isParted []) (oMM C e0 e1 e2 e3 e4 e5 e6 e7 e8 e9 e10 e11 e12 e13 e14 e15 (m_s') m_held (m_aside') m_before m_isHeld m_tape m_taped m_token m_from m_to m_value m_isWrong m_due m_firsts m_rows m_rowN m_sortOf m_sizeOf m_numbers m_holdsWhat m_holdsWhich m_holdsMany m_bodies m_ran m_actKind m_actN m_actA m_isParted []) sz r) 0 0 (va_A (oMM C e0 e1 e2 e3 e4 e5 e6 e7 e8 e9 e10 e11 e12 e13 e14 e15 m_s m_held m_aside m_before m_isHeld m_tape m_taped m_token m_from m_to m_value m_isWrong m_due m_firsts m_rows m_rowN m_sortOf m_sizeOf m_numbers m_holdsWhat m_holdsWhich m_holdsMany m_bodies m_ran m_actKind m_actN m_actA m_isParted []) sz) := by
  refine Met.ofW (cc := cX6_fits) (maxL := 10) (ret := (some .int)) (by decide) rfl ?_
  intro p e s m args below meth c s₁ B hml hv
  obtain ⟨rfl, hsz, hP, hK, hD0, hE⟩ := hv
  have hx := B.exec
  have hb := B.bytes
  have hr := B.returns
  have hts := atoms_spec (ws := wsX6_fits) B.pre
  have hown : s.vm.findClass RX6 = some m.cls := findClass_of_methodNamed B.named
  have hlocks := B.notSynchronized
  subst hsz
  have hi_RX6 : ∀ w ∈ wsX60, w ∈ wsX6_fits := fun _ h => List.mem_cons_of_mem _ (List.mem_append_right _ h)
  have hD := hD0.self (sz := s.heap.size)
  obtain ⟨A, hAe⟩ := nm_ex (va_A (oMM C e0 e1 e2 e3 e4 e5 e6 e7 e8 e9 e10 e11 e12 e13 e14 e15 m_s m_held m_aside m_before m_isHeld m_tape m_taped m_token m_from m_to m_value m_isWrong m_due m_firsts m_rows m_rowN m_sortOf m_sizeOf m_numbers m_holdsWhat m_holdsWhich m_holdsMany m_bodies m_ran m_actKind m_actN m_actA m_isParted []) s.heap.size)
  rw [← hAe] at hD hE ⊢
  have hA : ∀ q : Nat, s.heap.size ≤ q → A q := fun q h => by rw [hAe]; exact Or.inr h
  have hS : va_S A s.heap s.heap [] := va_S.rf
  have hl := lv_entry ([.ref e0, .int x0, .int x1, .int x2]) (n := 10) (Nat.le_of_ble_eq_true rfl)
  rw [lg_entry_eq]
  generalize (lg_sl ([.ref e0, .int x0, .int x1, .int x2]) ++ List.replicate (10 - (lg_sl ([.ref e0, .int x0, .int x1, .int x2])).length) Slot.unset).toArray = ls at hl ⊢
  have hl : lv_has ls 10 [(0, .ref e0), (1, .int x0), (2, .int x1), (3, .int x2)] := hl
  obtain ⟨Q, hQ⟩ := nm_ex (MQ below (QI D C (oMM C e0 e1 e2 e3 e4 e5 e6 e7 e8 e9 e10 e11 e12 e13 e14 e15 m_s m_held m_aside m_before m_isHeld m_tape m_taped m_token m_from m_to m_value m_isWrong m_due m_firsts m_rows m_rowN m_sortOf m_sizeOf m_numbers m_holdsWhat m_holdsWhich m_holdsMany m_bodies m_ran m_actKind m_actN m_actA m_isParted []) (oMM C e0 e1 e2 e3 e4 e5 e6 e7 e8 e9 e10 e11 e12 e13 e14 e15 (m_s') m_held (m_aside') m_before m_isHeld m_tape m_taped m_token m_from m_to m_value m_isWrong m_due m_firsts m_rows m_rowN m_sortOf m_sizeOf m_numbers m_holdsWhat m_holdsWhich m_holdsMany m_bodies m_ran m_actKind m_actN m_actA m_isParted []) s.heap.size r) (List.toArray [Value.ref e0, Value.int x0, Value.int x1, Value.int x2]) s 0 0 A)
  show W p l e (headSpec wsX6_fits (rmX6_fits)).room s m (List.toArray [Value.ref e0, Value.int x0, Value.int x1, Value.int x2]) below meth c s.heap [] 0 0 (MQ below (QI D C (oMM C e0 e1 e2 e3 e4 e5 e6 e7 e8 e9 e10 e11 e12 e13 e14 e15 m_s m_held m_aside m_before m_isHeld m_tape m_taped m_token m_from m_to m_value m_isWrong m_due m_firsts m_rows m_rowN m_sortOf m_sizeOf m_numbers m_holdsWhat m_holdsWhich m_holdsMany m_bodies m_ran m_actKind m_actN m_actA m_isParted []) (oMM C e0 e1 e2 e3 e4 e5 e6 e7 e8 e9 e10 e11 e12 e13 e14 e15 (m_s') m_held (m_aside') m_before m_isHeld m_tape m_taped m_token m_from m_to m_value m_isWrong m_due m_firsts m_rows m_rowN m_sortOf m_sizeOf m_numbers m_holdsWhat m_holdsWhich m_holdsMany m_bodies m_ran m_actKind m_actN m_actA m_isParted []) s.heap.size r) (List.toArray [Value.ref e0, Value.int x0, Value.int x1, Value.int x2]) s 0 0 A) _
  rw [← hQ]
  unfold f_X6_fits at hf
  have main : ∀ (H : Heap) (locs : List Loc), va_P D vwCl (oMM C e0 e1 e2 e3 e4 e5 e6 e7 e8 e9 e10 e11 e12 e13 e14 e15 m_s m_held m_aside m_before m_isHeld m_tape m_taped m_token m_from m_to m_value m_isWrong m_due m_firsts m_rows m_rowN m_sortOf m_sizeOf m_numbers m_holdsWhat m_holdsWhich m_holdsMany m_bodies m_ran m_actKind m_actN m_actA m_isParted []) H → va_D A (oMM C e0 e1 e2 e3 e4 e5 e6 e7 e8 e9 e10 e11 e12 e13 e14 e15 m_s m_held m_aside m_before m_isHeld m_tape m_taped m_token m_from m_to m_value m_isWrong m_due m_firsts m_rows m_rowN m_sortOf m_sizeOf m_numbers m_holdsWhat m_holdsWhich m_holdsMany m_bodies m_ran m_actKind m_actN m_actA m_isParted []) → va_S A s.heap H locs → W p l e (headSpec wsX6_fits (rmX6_fits)).room s m (List.toArray [Value.ref e0, Value.int x0, Value.int x1, Value.int x2]) below meth c H locs 0 0 Q (F0 m 0 ls []) := by
    intro H locs hP hD hS
    refine lv_iload_n hx hb dX6_fits_0 rfl (lv_at hl 1 rfl) ?_
    refine kcz (Wx := (oMM C e0 e1 e2 e3 e4 e5 e6 e7 e8 e9 e10 e11 e12 e13 e14 e15 m_s m_held m_aside m_before m_isHeld m_tape m_taped m_token m_from m_to m_value m_isWrong m_due m_firsts m_rows m_rowN m_sortOf m_sizeOf m_numbers m_holdsWhat m_holdsWhich m_holdsMany m_bodies m_ran m_actKind m_actN m_actA m_isParted [])) (va_runS (As := [.int x0]) (rest := []) ⟨hx, hb, hml, hown, hts⟩ (c_X6_isSheet l E D C H.size x0 _ rfl) (va_cwS 1 hts gX6_fits_X6_isSheet rfl rfl rfl hdX6_isSheet ⟨Nat.le_of_ble_eq_true rfl, Nat.le_of_ble_eq_true rfl⟩) (kpre hP hD hK hS hE hA [] rfl rfl) rfl rfl hl.1 rfl (lv_room (Nat.le_of_ble_eq_true rfl)) dX6_fits_1 ⟨Nat.zero_le _, Nat.zero_le _⟩) hP hD hS hA [] rfl rfl rfl (fun H locs hz1 hP hD hS => ?_)
    refine lv_if_eq (tgt := 25) hx hb dX6_fits_4 (by decide) (fun c2 => ?_) (fun c2 => ?_)
    · replace hf := if_te c2 hf
      refine lv_iconst (v := (-1)) hx hb dX6_fits_25 rfl ?_
      cases hf
      exact kri hQ hAe hx hb hr hlocks hP hD hK hS dX6_fits_26
    · replace hf := if_fe c2 hf
      refine lv_aload_n hx hb dX6_fits_7 rfl (lv_at hl 0 rfl) ?_
      refine lv_iload_n hx hb dX6_fits_8 rfl (lv_at hl 2 rfl) ?_
      refine kmz (w1 := (oMM C e0 e1 e2 e3 e4 e5 e6 e7 e8 e9 e10 e11 e12 e13 e14 e15 m_s m_held m_aside m_before m_isHeld m_tape m_taped m_token m_from m_to m_value m_isWrong m_due m_firsts m_rows m_rowN m_sortOf m_sizeOf m_numbers m_holdsWhat m_holdsWhich m_holdsMany m_bodies m_ran m_actKind m_actN m_actA m_isParted [])) (va_runV (As := [.int x1]) (rest := []) ⟨hx, hb, hml, hown, hts⟩ (c_X6_isOne l E D C e0 e1 e2 e3 e4 e5 e6 e7 e8 e9 e10 e11 e12 e13 e14 e15 H.size m_s m_held m_aside m_before m_isHeld m_tape m_taped m_token m_from m_to m_value m_isWrong m_due m_firsts m_rows m_rowN m_sortOf m_sizeOf m_numbers m_holdsWhat m_holdsWhich m_holdsMany m_bodies m_ran m_actKind m_actN m_actA m_isParted x1 _ rfl) (cwV 1 hts gX6_fits_X6_isOne rfl rfl rfl hdX6_isOne ⟨Nat.le_of_ble_eq_true rfl, Nat.le_of_ble_eq_true rfl⟩) (kpreM hP hD hK hS hE hA 0 rfl rfl rfl) rfl rfl hl.1 rfl (lv_room (Nat.le_of_ble_eq_true rfl)) dX6_fits_9 ⟨Nat.zero_le _, Nat.zero_le _⟩) hP hD hS hA rfl (fun H locs hz3 hP hD hS => ?_)
      refine lv_if_eq (tgt := 25) hx hb dX6_fits_12 (by decide) (fun c4 => ?_) (fun c4 => ?_)
      · replace hf := if_te c4 hf
        refine lv_iconst (v := (-1)) hx hb dX6_fits_25 rfl ?_
        cases hf
        exact kri hQ hAe hx hb hr hlocks hP hD hK hS dX6_fits_26
      · replace hf := if_fe c4 hf
        refine lv_iload_n hx hb dX6_fits_15 rfl (lv_at hl 3 rfl) ?_
        refine lv_i2l hx hb dX6_fits_16 rfl ?_
        refine lv_lconst (v := 0) hx hb dX6_fits_17 rfl ?_
        refine lv_lconst (v := 1) hx hb dX6_fits_18 rfl ?_
        refine kcz (Wx := (oMM C e0 e1 e2 e3 e4 e5 e6 e7 e8 e9 e10 e11 e12 e13 e14 e15 m_s m_held m_aside m_before m_isHeld m_tape m_taped m_token m_from m_to m_value m_isWrong m_due m_firsts m_rows m_rowN m_sortOf m_sizeOf m_numbers m_holdsWhat m_holdsWhich m_holdsMany m_bodies m_ran m_actKind m_actN m_actA m_isParted [])) (va_runS (As := [.long (Int32.toInt64 x2), .long 0, .long 1]) (rest := []) ⟨hx, hb, hml, hown, hts⟩ (c_X6_isIn l E D C H.size (Int32.toInt64 x2) 0 1 _ rfl) (va_cwS 3 hts gX6_fits_X6_isIn rfl rfl rfl hdX6_isIn ⟨Nat.le_of_ble_eq_true rfl, Nat.le_of_ble_eq_true rfl⟩) (kpre hP hD hK hS hE hA [] rfl rfl) rfl rfl hl.1 rfl (lv_room (Nat.le_of_ble_eq_true rfl)) dX6_fits_19 ⟨Nat.zero_le _, Nat.zero_le _⟩) hP hD hS hA [] rfl rfl rfl (fun H locs hz5 hP hD hS => ?_)
        refine lv_if_ne (tgt := 27) hx hb dX6_fits_22 (by decide) (fun c6 => ?_) (fun c6 => ?_)
        · replace hf := if_fe c6 hf
          refine lv_aload_n hx hb dX6_fits_27 rfl (lv_at hl 0 rfl) ?_
          refine va_get (D := D) (ci := 6) (v := .ref e9) (C := RX6) (T := TX6) (N := 28) hx hb hts hi_RX6 hown hK hP 0 rfl rfl 16 (by decide) (hts (.fieldLink RX6 34 "TravelMarksModel" "sortOf" "[I") (List.mem_of_getElem? (i := 1) rfl)) (fun _ h9 => h9) rfl dX6_fits_28 ?_
          refine lv_iload_n hx hb dX6_fits_31 rfl (lv_at hl 1 rfl) ?_
          obtain ⟨y8, ey8, hi7, hf⟩ := rdA_x hf
          refine va_iald hx hb hK hP 9 0 rfl rfl hi7 dX6_fits_32 ?_
          refine lv_ren ey8 ?_
          refine lv_if_ge (tgt := 39) hx hb dX6_fits_33 (by decide) (fun c9 => ?_) (fun c9 => ?_)
          · replace hf := if_te c9 hf
            refine lv_bipush (v := 19) hx hb dX6_fits_39 rfl ?_
            refine lv_iconst (v := 3) hx hb dX6_fits_41 rfl ?_
            refine lv_iload_n hx hb dX6_fits_42 rfl (lv_at hl 2 rfl) ?_
            refine lv_imul hx hb dX6_fits_43 ?_
            refine lv_iadd hx hb dX6_fits_44 ?_
            refine lv_iconst (v := 2) hx hb dX6_fits_45 rfl ?_
            refine lv_iadd hx hb dX6_fits_46 ?_
            obtain ⟨t10, et10, hf⟩ := lj_e hf
            refine lv_ren et10 ?_
            refine lv_istore (lv' := [(4, .int t10), (0, .ref e0), (1, .int x0), (2, .int x1), (3, .int x2)]) hx hb dX6_fits_47 hl (by decide) rfl (fun ls hl => ?_)
            refine lv_aload_n hx hb dX6_fits_49 rfl (lv_at hl 1 rfl) ?_
            refine va_get (D := D) (ci := 6) (v := .ref e1) (C := RX6) (T := TX6) (N := 28) hx hb hts hi_RX6 hown hK hP 0 rfl rfl 0 (by decide) (hts (.fieldLink RX6 7 "TravelMarksModel" "s" "[I") (List.mem_of_getElem? (i := 2) rfl)) (fun _ h9 => h9) rfl dX6_fits_50 ?_
            refine lv_iload hx hb dX6_fits_53 (lv_at hl 0 rfl) ?_
            obtain ⟨y12, ey12, hi11, hf⟩ := rdA_x hf
            refine va_iald hx hb hK hP 1 0 rfl rfl hi11 dX6_fits_55 ?_
            refine lv_ren ey12 ?_
            refine lv_istore (lv' := [(5, .int y12), (4, .int t10), (0, .ref e0), (1, .int x0), (2, .int x1), (3, .int x2)]) hx hb dX6_fits_56 hl (by decide) rfl (fun ls hl => ?_)
            refine lv_iconst (v := 0) hx hb dX6_fits_58 rfl ?_
            refine lv_istore (lv' := [(6, .int 0), (5, .int y12), (4, .int t10), (0, .ref e0), (1, .int x0), (2, .int x1), (3, .int x2)]) hx hb dX6_fits_59 hl (by decide) rfl (fun ls hl => ?_)
            refine lv_bipush (v := (-3)) hx hb dX6_fits_61 rfl ?_
            refine lv_istore (lv' := [(7, .int (-3)), (6, .int 0), (5, .int y12), (4, .int t10), (0, .ref e0), (1, .int x0), (2, .int x1), (3, .int x2)]) hx hb dX6_fits_63 hl (by decide) rfl (fun ls hl => ?_)
            refine lv_bipush (v := 7) hx hb dX6_fits_65 rfl ?_
            refine lv_istore (lv' := [(8, .int 7), (7, .int (-3)), (6, .int 0), (5, .int y12), (4, .int t10), (0, .ref e0), (1, .int x0), (2, .int x1), (3, .int x2)]) hx hb dX6_fits_67 hl (by decide) rfl (fun ls hl => ?_)
            obtain ⟨j17, hj17, hf⟩ := lj_e hf
            have Hj17 : ∀ (i13 : Int32) (i14 : Int32) (v15 : Nat → Int32) (v16 : Nat → Int32) (H : Heap) (locs : List Loc) (ls : Array Slot), va_P D vwCl (oMM C e0 e1 e2 e3 e4 e5 e6 e7 e8 e9 e10 e11 e12 e13 e14 e15 v15 m_held v16 m_before m_isHeld m_tape m_taped m_token m_from m_to m_value m_isWrong m_due m_firsts m_rows m_rowN m_sortOf m_sizeOf m_numbers m_holdsWhat m_holdsWhich m_holdsMany m_bodies m_ran m_actKind m_actN m_actA m_isParted []) H → va_D A (oMM C e0 e1 e2 e3 e4 e5 e6 e7 e8 e9 e10 e11 e12 e13 e14 e15 v15 m_held v16 m_before m_isHeld m_tape m_taped m_token m_from m_to m_value m_isWrong m_due m_firsts m_rows m_rowN m_sortOf m_sizeOf m_numbers m_holdsWhat m_holdsWhich m_holdsMany m_bodies m_ran m_actKind m_actN m_actA m_isParted []) → va_S A s.heap H locs → lv_has ls 10 [(7, .int i13), (6, .int i14), (5, .int y12), (4, .int t10), (0, .ref e0), (3, .int x2)] → j17 i13 i14 v15 v16 = some (r, m_s', m_aside') → W p l e (headSpec wsX6_fits (rmX6_fits)).room s m (List.toArray [Value.ref e0, Value.int x0, Value.int x1, Value.int x2]) below meth c H locs 0 0 Q (F0 m 126 ls []) := by
              intro i13 i14 v15 v16 H locs ls hP hD hS hl hf
              rw [hj17] at hf
              refine lv_aload_n hx hb dX6_fits_126 rfl (lv_at hl 4 rfl) ?_
              refine va_get (D := D) (ci := 6) (v := .ref e1) (C := RX6) (T := TX6) (N := 28) hx hb hts hi_RX6 hown hK hP 0 rfl rfl 0 (by decide) (hts (.fieldLink RX6 7 "TravelMarksModel" "s" "[I") (List.mem_of_getElem? (i := 2) rfl)) (fun _ h9 => h9) rfl dX6_fits_127 ?_
              refine lv_iload hx hb dX6_fits_130 (lv_at hl 3 rfl) ?_
              refine lv_iload hx hb dX6_fits_132 (lv_at hl 2 rfl) ?_
              obtain ⟨hi18, hf⟩ := ckA_e hf
              refine va_iast hx hb hK hP hD hS 1 0 rfl rfl hi18 dX6_fits_134 (fun H locs hP hD hS => ?_)
              obtain ⟨v19, ev19, hf⟩ := lj_e hf
              have hP : va_P D vwCl (oMM C e0 e1 e2 e3 e4 e5 e6 e7 e8 e9 e10 e11 e12 e13 e14 e15 v19 m_held v16 m_before m_isHeld m_tape m_taped m_token m_from m_to m_value m_isWrong m_due m_firsts m_rows m_rowN m_sortOf m_sizeOf m_numbers m_holdsWhat m_holdsWhich m_holdsMany m_bodies m_ran m_actKind m_actN m_actA m_isParted []) H := by rw [ev19]; exact hP
              have hD : va_D A (oMM C e0 e1 e2 e3 e4 e5 e6 e7 e8 e9 e10 e11 e12 e13 e14 e15 v19 m_held v16 m_before m_isHeld m_tape m_taped m_token m_from m_to m_value m_isWrong m_due m_firsts m_rows m_rowN m_sortOf m_sizeOf m_numbers m_holdsWhat m_holdsWhich m_holdsMany m_bodies m_ran m_actKind m_actN m_actA m_isParted []) := by rw [ev19]; exact hD
              refine lv_iload_n hx hb dX6_fits_135 rfl (lv_at hl 5 rfl) ?_
              refine lv_if_ne (tgt := 144) hx hb dX6_fits_136 (by decide) (fun c20 => ?_) (fun c20 => ?_)
              · replace hf := if_fe c20 hf
                refine lv_iload hx hb dX6_fits_144 (lv_at hl 0 rfl) ?_
                cases hf
                exact kri hQ hAe hx hb hr hlocks hP hD hK hS dX6_fits_146
              · replace hf := if_te c20 hf
                refine lv_iload hx hb dX6_fits_139 (lv_at hl 1 rfl) ?_
                refine lv_goto (tgt := 146) hx hb dX6_fits_141 (by decide) ?_
                cases hf
                exact kri hQ hAe hx hb hr hlocks hP hD hK hS dX6_fits_146
            have hL69 : ∀ (n : Nat) (i21 : Int32) (i22 : Int32) (i23 : Int32) (v24 : Nat → Int32) (v25 : Nat → Int32) (H : Heap) (locs : List Loc) (ls : Array Slot), va_P D vwCl (oMM C e0 e1 e2 e3 e4 e5 e6 e7 e8 e9 e10 e11 e12 e13 e14 e15 v24 m_held v25 m_before m_isHeld m_tape m_taped m_token m_from m_to m_value m_isWrong m_due m_firsts m_rows m_rowN m_sortOf m_sizeOf m_numbers m_holdsWhat m_holdsWhich m_holdsMany m_bodies m_ran m_actKind m_actN m_actA m_isParted []) H → va_D A (oMM C e0 e1 e2 e3 e4 e5 e6 e7 e8 e9 e10 e11 e12 e13 e14 e15 v24 m_held v25 m_before m_isHeld m_tape m_taped m_token m_from m_to m_value m_isWrong m_due m_firsts m_rows m_rowN m_sortOf m_sizeOf m_numbers m_holdsWhat m_holdsWhich m_holdsMany m_bodies m_ran m_actKind m_actN m_actA m_isParted []) → va_S A s.heap H locs → lv_has ls 10 [(8, .int i21), (7, .int i22), (6, .int i23), (5, .int y12), (4, .int t10), (0, .ref e0), (1, .int x0), (2, .int x1), (3, .int x2)] → f_X6_fits_L69 N m_sizeOf m_numbers x0 x1 t10 j17 n i21 i22 i23 v24 v25 = some (r, m_s', m_aside') → W p l e (headSpec wsX6_fits (rmX6_fits)).room s m (List.toArray [Value.ref e0, Value.int x0, Value.int x1, Value.int x2]) below meth c H locs 0 0 Q (F0 m 69 ls []) := by
              intro n
              induction n with
              | zero =>
                intro i21 i22 i23 v24 v25 H locs ls hP hD hS hl hf
                exact absurd hf (fun h => by cases h)
              | succ n ih =>
                intro i21 i22 i23 v24 v25 H locs ls hP hD hS hl hf
                rw [f_X6_fits_L69] at hf
                refine lv_iload hx hb dX6_fits_69 (lv_at hl 0 rfl) ?_
                refine lv_if_lt (tgt := 126) hx hb dX6_fits_71 (by decide) (fun c26 => ?_) (fun c26 => ?_)
                · replace hf := if_te c26 hf
                  exact Hj17 i22 i23 v24 v25 H locs ls hP hD hS (lv_sub hl [1, 2, 3, 4, 5, 8] rfl) hf
                · replace hf := if_fe c26 hf
                  refine lv_aload_n hx hb dX6_fits_74 rfl (lv_at hl 5 rfl) ?_
                  refine va_get (D := D) (ci := 6) (v := .ref e1) (C := RX6) (T := TX6) (N := 28) hx hb hts hi_RX6 hown hK hP 0 rfl rfl 0 (by decide) (hts (.fieldLink RX6 7 "TravelMarksModel" "s" "[I") (List.mem_of_getElem? (i := 2) rfl)) (fun _ h9 => h9) rfl dX6_fits_75 ?_
                  refine lv_iload hx hb dX6_fits_78 (lv_at hl 4 rfl) ?_
                  refine lv_iload hx hb dX6_fits_80 (lv_at hl 0 rfl) ?_
                  obtain ⟨hi27, hf⟩ := ckA_e hf
                  refine va_iast hx hb hK hP hD hS 1 0 rfl rfl hi27 dX6_fits_82 (fun H locs hP hD hS => ?_)
                  obtain ⟨v28, ev28, hf⟩ := lj_e hf
                  have hP : va_P D vwCl (oMM C e0 e1 e2 e3 e4 e5 e6 e7 e8 e9 e10 e11 e12 e13 e14 e15 v28 m_held v25 m_before m_isHeld m_tape m_taped m_token m_from m_to m_value m_isWrong m_due m_firsts m_rows m_rowN m_sortOf m_sizeOf m_numbers m_holdsWhat m_holdsWhich m_holdsMany m_bodies m_ran m_actKind m_actN m_actA m_isParted []) H := by rw [ev28]; exact hP
                  have hD : va_D A (oMM C e0 e1 e2 e3 e4 e5 e6 e7 e8 e9 e10 e11 e12 e13 e14 e15 v28 m_held v25 m_before m_isHeld m_tape m_taped m_token m_from m_to m_value m_isWrong m_due m_firsts m_rows m_rowN m_sortOf m_sizeOf m_numbers m_holdsWhat m_holdsWhich m_holdsMany m_bodies m_ran m_actKind m_actN m_actA m_isParted []) := by rw [ev28]; exact hD
                  refine lv_aload_n hx hb dX6_fits_83 rfl (lv_at hl 5 rfl) ?_
                  refine lv_iload_n hx hb dX6_fits_84 rfl (lv_at hl 6 rfl) ?_
                  refine lv_iload_n hx hb dX6_fits_85 rfl (lv_at hl 7 rfl) ?_
                  obtain ⟨r29, v30, v31, h32, hf⟩ := ob3_e hf
                  refine kmz (w1 := (oMM C e0 e1 e2 e3 e4 e5 e6 e7 e8 e9 e10 e11 e12 e13 e14 e15 v30 m_held v31 m_before m_isHeld m_tape m_taped m_token m_from m_to m_value m_isWrong m_due m_firsts m_rows m_rowN m_sortOf m_sizeOf m_numbers m_holdsWhat m_holdsWhich m_holdsMany m_bodies m_ran m_actKind m_actN m_actA m_isParted [])) (va_runV (As := [.int x0, .int x1]) (rest := []) ⟨hx, hb, hml, hown, hts⟩ (c_X6_isTold l E D C e0 e1 e2 e3 e4 e5 e6 e7 e8 e9 e10 e11 e12 e13 e14 e15 H.size N v28 m_held v25 m_before m_isHeld m_tape m_taped m_token m_from m_to m_value m_isWrong m_due m_firsts m_rows m_rowN m_sortOf m_sizeOf m_numbers m_holdsWhat m_holdsWhich m_holdsMany m_bodies m_ran m_actKind m_actN m_actA m_isParted x0 x1 r29 v30 v31 h32) (cwV 2 hts gX6_fits_X6_isTold rfl rfl rfl hdX6_isTold ⟨Nat.le_of_ble_eq_true rfl, Nat.le_of_ble_eq_true rfl⟩) (kpreM hP hD hK hS hE hA 0 rfl rfl rfl) rfl rfl hl.1 rfl (lv_room (Nat.le_of_ble_eq_true rfl)) dX6_fits_86 ⟨Nat.zero_le _, Nat.zero_le _⟩) hP hD hS hA rfl (fun H locs hz33 hP hD hS => ?_)
                  refine lv_istore (lv' := [(9, .int r29), (8, .int i21), (7, .int i22), (6, .int i23), (5, .int y12), (4, .int t10), (0, .ref e0), (1, .int x0), (2, .int x1), (3, .int x2)]) hx hb dX6_fits_89 hl (by decide) rfl (fun ls hl => ?_)
                  refine lv_iload hx hb dX6_fits_91 (lv_at hl 3 rfl) ?_
                  refine lv_iload hx hb dX6_fits_93 (lv_at hl 0 rfl) ?_
                  obtain ⟨j35, hj35, hf⟩ := lj_e hf
                  have Hj35 : ∀ (k34 : Int32) (H : Heap) (locs : List Loc) (ls : Array Slot), va_P D vwCl (oMM C e0 e1 e2 e3 e4 e5 e6 e7 e8 e9 e10 e11 e12 e13 e14 e15 v30 m_held v31 m_before m_isHeld m_tape m_taped m_token m_from m_to m_value m_isWrong m_due m_firsts m_rows m_rowN m_sortOf m_sizeOf m_numbers m_holdsWhat m_holdsWhich m_holdsMany m_bodies m_ran m_actKind m_actN m_actA m_isParted []) H → va_D A (oMM C e0 e1 e2 e3 e4 e5 e6 e7 e8 e9 e10 e11 e12 e13 e14 e15 v30 m_held v31 m_before m_isHeld m_tape m_taped m_token m_from m_to m_value m_isWrong m_due m_firsts m_rows m_rowN m_sortOf m_sizeOf m_numbers m_holdsWhat m_holdsWhich m_holdsMany m_bodies m_ran m_actKind m_actN m_actA m_isParted []) → va_S A s.heap H locs → lv_has ls 10 [(9, .int r29), (8, .int i21), (7, .int i22), (5, .int y12), (4, .int t10), (0, .ref e0), (1, .int x0), (2, .int x1), (3, .int x2)] → j35 k34 = some (r, m_s', m_aside') → W p l e (headSpec wsX6_fits (rmX6_fits)).room s m (List.toArray [Value.ref e0, Value.int x0, Value.int x1, Value.int x2]) below meth c H locs 0 0 Q (F0 m 103 ls [.int k34, .int i23]) := by
                    intro k34 H locs ls hP hD hS hl hf
                    rw [hj35] at hf
                    refine lv_iadd hx hb dX6_fits_103 ?_
                    obtain ⟨t36, et36, hf⟩ := lj_e hf
                    refine lv_ren et36 ?_
                    refine lv_istore (lv' := [(6, .int t36), (9, .int r29), (8, .int i21), (7, .int i22), (5, .int y12), (4, .int t10), (0, .ref e0), (1, .int x0), (2, .int x1), (3, .int x2)]) hx hb dX6_fits_104 hl (by decide) rfl (fun ls hl => ?_)
                    refine lv_iload hx hb dX6_fits_106 (lv_at hl 1 rfl) ?_
                    obtain ⟨j38, hj38, hf⟩ := lj_e hf
                    have Hj38 : ∀ (k37 : Int32) (H : Heap) (locs : List Loc) (ls : Array Slot), va_P D vwCl (oMM C e0 e1 e2 e3 e4 e5 e6 e7 e8 e9 e10 e11 e12 e13 e14 e15 v30 m_held v31 m_before m_isHeld m_tape m_taped m_token m_from m_to m_value m_isWrong m_due m_firsts m_rows m_rowN m_sortOf m_sizeOf m_numbers m_holdsWhat m_holdsWhich m_holdsMany m_bodies m_ran m_actKind m_actN m_actA m_isParted []) H → va_D A (oMM C e0 e1 e2 e3 e4 e5 e6 e7 e8 e9 e10 e11 e12 e13 e14 e15 v30 m_held v31 m_before m_isHeld m_tape m_taped m_token m_from m_to m_value m_isWrong m_due m_firsts m_rows m_rowN m_sortOf m_sizeOf m_numbers m_holdsWhat m_holdsWhich m_holdsMany m_bodies m_ran m_actKind m_actN m_actA m_isParted []) → va_S A s.heap H locs → lv_has ls 10 [(6, .int t36), (8, .int i21), (5, .int y12), (4, .int t10), (0, .ref e0), (1, .int x0), (2, .int x1), (3, .int x2)] → j38 k37 = some (r, m_s', m_aside') → W p l e (headSpec wsX6_fits (rmX6_fits)).room s m (List.toArray [Value.ref e0, Value.int x0, Value.int x1, Value.int x2]) below meth c H locs 0 0 Q (F0 m 118 ls [.int k37]) := by
                      intro k37 H locs ls hP hD hS hl hf
                      rw [hj38] at hf
                      refine lv_istore (lv' := [(7, .int k37), (6, .int t36), (8, .int i21), (5, .int y12), (4, .int t10), (0, .ref e0), (1, .int x0), (2, .int x1), (3, .int x2)]) hx hb dX6_fits_118 hl (by decide) rfl (fun ls hl => ?_)
                      obtain ⟨t39, et39, hf⟩ := lj_e hf
                      refine lv_iinc (v := t39) (lv' := [(8, .int t39), (7, .int k37), (6, .int t36), (5, .int y12), (4, .int t10), (0, .ref e0), (1, .int x0), (2, .int x1), (3, .int x2)]) hx hb dX6_fits_120 hl (k := 2) rfl (by rw [et39]; rfl) (by decide) rfl (fun ls hl => ?_)
                      refine lv_goto (tgt := 69) hx hb dX6_fits_123 (by decide) ?_
                      exact ih t39 k37 t36 v30 v31 H locs ls hP hD hS (lv_sub hl [0, 1, 2, 3, 4, 5, 6, 7, 8] rfl) hf
                    refine lv_if_eq (tgt := 116) hx hb dX6_fits_108 (by decide) (fun c40 => ?_) (fun c40 => ?_)
                    · replace hf := if_te c40 hf
                      refine lv_iload hx hb dX6_fits_116 (lv_at hl 3 rfl) ?_
                      exact Hj38 i22 H locs ls hP hD hS (lv_sub hl [0, 2, 4, 5, 6, 7, 8, 9] rfl) hf
                    · replace hf := if_fe c40 hf
                      refine lv_iload hx hb dX6_fits_111 (lv_at hl 2 rfl) ?_
                      refine lv_goto (tgt := 118) hx hb dX6_fits_113 (by decide) ?_
                      exact Hj38 i21 H locs ls hP hD hS (lv_sub hl [0, 2, 4, 5, 6, 7, 8, 9] rfl) hf
                  refine lv_if_eq (tgt := 102) hx hb dX6_fits_95 (by decide) (fun c41 => ?_) (fun c41 => ?_)
                  · replace hf := if_te c41 hf
                    refine lv_iconst (v := 0) hx hb dX6_fits_102 rfl ?_
                    exact Hj35 0 H locs ls hP hD hS (lv_sub hl [0, 1, 2, 4, 5, 6, 7, 8, 9] rfl) hf
                  · replace hf := if_fe c41 hf
                    refine lv_iconst (v := 1) hx hb dX6_fits_98 rfl ?_
                    refine lv_goto (tgt := 103) hx hb dX6_fits_99 (by decide) ?_
                    exact Hj35 1 H locs ls hP hD hS (lv_sub hl [0, 1, 2, 4, 5, 6, 7, 8, 9] rfl) hf
            exact hL69 N 7 (-3) 0 m_s m_aside H locs ls hP hD hS (lv_sub hl [0, 1, 2, 3, 4, 5, 6, 7, 8] rfl) hf
          · replace hf := if_fe c9 hf
            refine lv_bipush (v := (-11)) hx hb dX6_fits_36 rfl ?_
            cases hf
            exact kri hQ hAe hx hb hr hlocks hP hD hK hS dX6_fits_38
        · replace hf := if_te c6 hf
          refine lv_iconst (v := (-1)) hx hb dX6_fits_25 rfl ?_
          cases hf
          exact kri hQ hAe hx hb hr hlocks hP hD hK hS dX6_fits_26
  exact main _ _ hP hD hS

def rmX6_odds : Room := { frames := 1, cells := 0, slots := 0, locals := 30 }
theorem hdX6_odds : yX6_odds.cls = RX6 ∧ yX6_odds.cls ≠ "java/lang/invoke/MethodHandle" ∧ yX6_odds.cls ≠ "java/lang/invoke/VarHandle" ∧ (parseMethodDescriptor yX6_odds.desc).map (fun d => d.parameters.length) = some 3 := by decide +kernel
set_option maxHeartbeats 40000000 in
set_option maxRecDepth 100000 in
theorem c_X6_odds (l : Launch) (E : Nat → Nat) (D : va_G) (C : Nat → ClassId) (e0 e1 e2 e3 e4 e5 e6 e7 e8 e9 e10 e11 e12 e13 e14 e15 : Nat) (sz : Nat) (N : Nat) (m_s : Nat → Int32) (m_held : Nat → Int32) (m_aside : Nat → Int32) (m_before : Nat → Int32) (m_isHeld : Int32) (m_tape : Nat → Int32) (m_taped : Int32) (m_token : Int32) (m_from : Int32) (m_to : Int32) (m_value : Int32) (m_isWrong : Int32) (m_due : Nat → Int32) (m_firsts : Nat → Int32) (m_rows : Nat → Int32) (m_rowN : Int32) (m_sortOf : Nat → Int32) (m_sizeOf : Nat → Int32) (m_numbers : Nat → Int32) (m_holdsWhat : Nat → Int32) (m_holdsWhich : Nat → Int32) (m_holdsMany : Nat → Int32) (m_bodies : Nat → Int32) (m_ran : Int32) (m_actKind : Int32) (m_actN : Int32) (m_actA : Int32) (m_isParted : Int32) (x0 : Int32) (x1 : Int32) (x2 : Int32) (r : Int64) (hf : f_X6_odds N m_s x0 x1 x2 = some r) : Met l yX6_odds wsX6_odds rmX6_odds (PC E D C [.ref e0, .int x0, .int x1, .int x2] (oMM C e0 e1 e2 e3 e4 e5 e6 e7 e8 e9 e10 e11 e12 e13 e14 e15 m_s m_held m_aside m_before m_isHeld m_tape m_taped m_token m_from m_to m_value m_isWrong m_due m_firsts m_rows m_rowN m_sortOf m_sizeOf m_numbers m_holdsWhat m_holdsWhich m_holdsMany m_bodies m_ran m_actKind m_actN m_actA m_isParted []) sz) (QL D C (oMM C e0 e1 e2 e3 e4 e5 e6 e7 e8 e9 e10 e11 e12 e13 e14 e15 m_s m_held m_aside m_before m_isHeld m_tape m_taped m_token m_from m_to m_value m_isWrong m_due m_firsts m_rows m_rowN m_sortOf m_sizeOf m_numbers m_holdsWhat m_holdsWhich m_holdsMany m_bodies m_ran m_actKind m_actN m_actA m_isParted []) (oMM C e0 e1 e2 e3 e4 e5 e6 e7 e8 e9 e10 e11 e12 e13 e14 e15 m_s m_held m_aside m_before m_isHeld m_tape m_taped m_token m_from m_to m_value m_isWrong m_due m_firsts m_rows m_rowN m_sortOf m_sizeOf m_numbers m_holdsWhat m_holdsWhich m_holdsMany m_bodies m_ran m_actKind m_actN m_actA m_isParted []) sz r) 0 0 (va_A (oMM C e0 e1 e2 e3 e4 e5 e6 e7 e8 e9 e10 e11 e12 e13 e14 e15 m_s m_held m_aside m_before m_isHeld m_tape m_taped m_token m_from m_to m_value m_isWrong m_due m_firsts m_rows m_rowN m_sortOf m_sizeOf m_numbers m_holdsWhat m_holdsWhich m_holdsMany m_bodies m_ran m_actKind m_actN m_actA m_isParted []) sz) := by
  refine Met.ofW (cc := cX6_odds) (maxL := 9) (ret := (some .long)) (by decide) rfl ?_
  intro p e s m args below meth c s₁ B hml hv
  obtain ⟨rfl, hsz, hP, hK, hD0, hE⟩ := hv
  have hx := B.exec
  have hb := B.bytes
  have hr := B.returns
  have hts := atoms_spec (ws := wsX6_odds) B.pre
  have hown : s.vm.findClass RX6 = some m.cls := findClass_of_methodNamed B.named
  have hlocks := B.notSynchronized
  subst hsz
  have hi_RX6 : ∀ w ∈ wsX60, w ∈ wsX6_odds := fun _ h => List.mem_cons_of_mem _ (List.mem_append_right _ h)
  have hD := hD0.self (sz := s.heap.size)
  obtain ⟨A, hAe⟩ := nm_ex (va_A (oMM C e0 e1 e2 e3 e4 e5 e6 e7 e8 e9 e10 e11 e12 e13 e14 e15 m_s m_held m_aside m_before m_isHeld m_tape m_taped m_token m_from m_to m_value m_isWrong m_due m_firsts m_rows m_rowN m_sortOf m_sizeOf m_numbers m_holdsWhat m_holdsWhich m_holdsMany m_bodies m_ran m_actKind m_actN m_actA m_isParted []) s.heap.size)
  rw [← hAe] at hD hE ⊢
  have hA : ∀ q : Nat, s.heap.size ≤ q → A q := fun q h => by rw [hAe]; exact Or.inr h
  have hS : va_S A s.heap s.heap [] := va_S.rf
  have hl := lv_entry ([.ref e0, .int x0, .int x1, .int x2]) (n := 9) (Nat.le_of_ble_eq_true rfl)
  rw [lg_entry_eq]
  generalize (lg_sl ([.ref e0, .int x0, .int x1, .int x2]) ++ List.replicate (9 - (lg_sl ([.ref e0, .int x0, .int x1, .int x2])).length) Slot.unset).toArray = ls at hl ⊢
  have hl : lv_has ls 9 [(0, .ref e0), (1, .int x0), (2, .int x1), (3, .int x2)] := hl
  obtain ⟨Q, hQ⟩ := nm_ex (MQ below (QL D C (oMM C e0 e1 e2 e3 e4 e5 e6 e7 e8 e9 e10 e11 e12 e13 e14 e15 m_s m_held m_aside m_before m_isHeld m_tape m_taped m_token m_from m_to m_value m_isWrong m_due m_firsts m_rows m_rowN m_sortOf m_sizeOf m_numbers m_holdsWhat m_holdsWhich m_holdsMany m_bodies m_ran m_actKind m_actN m_actA m_isParted []) (oMM C e0 e1 e2 e3 e4 e5 e6 e7 e8 e9 e10 e11 e12 e13 e14 e15 m_s m_held m_aside m_before m_isHeld m_tape m_taped m_token m_from m_to m_value m_isWrong m_due m_firsts m_rows m_rowN m_sortOf m_sizeOf m_numbers m_holdsWhat m_holdsWhich m_holdsMany m_bodies m_ran m_actKind m_actN m_actA m_isParted []) s.heap.size r) (List.toArray [Value.ref e0, Value.int x0, Value.int x1, Value.int x2]) s 0 0 A)
  show W p l e (headSpec wsX6_odds (rmX6_odds)).room s m (List.toArray [Value.ref e0, Value.int x0, Value.int x1, Value.int x2]) below meth c s.heap [] 0 0 (MQ below (QL D C (oMM C e0 e1 e2 e3 e4 e5 e6 e7 e8 e9 e10 e11 e12 e13 e14 e15 m_s m_held m_aside m_before m_isHeld m_tape m_taped m_token m_from m_to m_value m_isWrong m_due m_firsts m_rows m_rowN m_sortOf m_sizeOf m_numbers m_holdsWhat m_holdsWhich m_holdsMany m_bodies m_ran m_actKind m_actN m_actA m_isParted []) (oMM C e0 e1 e2 e3 e4 e5 e6 e7 e8 e9 e10 e11 e12 e13 e14 e15 m_s m_held m_aside m_before m_isHeld m_tape m_taped m_token m_from m_to m_value m_isWrong m_due m_firsts m_rows m_rowN m_sortOf m_sizeOf m_numbers m_holdsWhat m_holdsWhich m_holdsMany m_bodies m_ran m_actKind m_actN m_actA m_isParted []) s.heap.size r) (List.toArray [Value.ref e0, Value.int x0, Value.int x1, Value.int x2]) s 0 0 A) _
  rw [← hQ]
  unfold f_X6_odds at hf
  have main : ∀ (H : Heap) (locs : List Loc), va_P D vwCl (oMM C e0 e1 e2 e3 e4 e5 e6 e7 e8 e9 e10 e11 e12 e13 e14 e15 m_s m_held m_aside m_before m_isHeld m_tape m_taped m_token m_from m_to m_value m_isWrong m_due m_firsts m_rows m_rowN m_sortOf m_sizeOf m_numbers m_holdsWhat m_holdsWhich m_holdsMany m_bodies m_ran m_actKind m_actN m_actA m_isParted []) H → va_D A (oMM C e0 e1 e2 e3 e4 e5 e6 e7 e8 e9 e10 e11 e12 e13 e14 e15 m_s m_held m_aside m_before m_isHeld m_tape m_taped m_token m_from m_to m_value m_isWrong m_due m_firsts m_rows m_rowN m_sortOf m_sizeOf m_numbers m_holdsWhat m_holdsWhich m_holdsMany m_bodies m_ran m_actKind m_actN m_actA m_isParted []) → va_S A s.heap H locs → W p l e (headSpec wsX6_odds (rmX6_odds)).room s m (List.toArray [Value.ref e0, Value.int x0, Value.int x1, Value.int x2]) below meth c H locs 0 0 Q (F0 m 0 ls []) := by
    intro H locs hP hD hS
    refine lv_iload_n hx hb dX6_odds_0 rfl (lv_at hl 1 rfl) ?_
    refine lv_i2l hx hb dX6_odds_1 rfl ?_
    refine lv_lconst (v := 0) hx hb dX6_odds_2 rfl ?_
    refine lv_ldc2 (v := 8) hx hb hown (hts (.constantLong RX6 58 (8)) (List.mem_of_getElem? (i := 1) rfl)) dX6_odds_3 ?_
    refine kcz (Wx := (oMM C e0 e1 e2 e3 e4 e5 e6 e7 e8 e9 e10 e11 e12 e13 e14 e15 m_s m_held m_aside m_before m_isHeld m_tape m_taped m_token m_from m_to m_value m_isWrong m_due m_firsts m_rows m_rowN m_sortOf m_sizeOf m_numbers m_holdsWhat m_holdsWhich m_holdsMany m_bodies m_ran m_actKind m_actN m_actA m_isParted [])) (va_runS (As := [.long (Int32.toInt64 x0), .long 0, .long 8]) (rest := []) ⟨hx, hb, hml, hown, hts⟩ (c_X6_isIn l E D C H.size (Int32.toInt64 x0) 0 8 _ rfl) (va_cwS 3 hts gX6_odds_X6_isIn rfl rfl rfl hdX6_isIn ⟨Nat.le_of_ble_eq_true rfl, Nat.le_of_ble_eq_true rfl⟩) (kpre hP hD hK hS hE hA [] rfl rfl) rfl rfl hl.1 rfl (lv_room (Nat.le_of_ble_eq_true rfl)) dX6_odds_6 ⟨Nat.zero_le _, Nat.zero_le _⟩) hP hD hS hA [] rfl rfl rfl (fun H locs hz1 hP hD hS => ?_)
    refine lv_if_eq (tgt := 33) hx hb dX6_odds_9 (by decide) (fun c2 => ?_) (fun c2 => ?_)
    · replace hf := if_te c2 hf
      refine lv_ldc2 (v := (-1)) hx hb hown (hts (.constantLong RX6 262 (-1)) (List.mem_of_getElem? (i := 2) rfl)) dX6_odds_33 ?_
      cases hf
      exact krl hQ hAe hx hb hr hlocks hP hD hK hS dX6_odds_36
    · replace hf := if_fe c2 hf
      refine lv_iload_n hx hb dX6_odds_12 rfl (lv_at hl 2 rfl) ?_
      refine lv_i2l hx hb dX6_odds_13 rfl ?_
      refine lv_lconst (v := 0) hx hb dX6_odds_14 rfl ?_
      refine lv_iload_n hx hb dX6_odds_15 rfl (lv_at hl 1 rfl) ?_
      refine lv_i2l hx hb dX6_odds_16 rfl ?_
      refine kcz (Wx := (oMM C e0 e1 e2 e3 e4 e5 e6 e7 e8 e9 e10 e11 e12 e13 e14 e15 m_s m_held m_aside m_before m_isHeld m_tape m_taped m_token m_from m_to m_value m_isWrong m_due m_firsts m_rows m_rowN m_sortOf m_sizeOf m_numbers m_holdsWhat m_holdsWhich m_holdsMany m_bodies m_ran m_actKind m_actN m_actA m_isParted [])) (va_runS (As := [.long (Int32.toInt64 x1), .long 0, .long (Int32.toInt64 x0)]) (rest := []) ⟨hx, hb, hml, hown, hts⟩ (c_X6_isIn l E D C H.size (Int32.toInt64 x1) 0 (Int32.toInt64 x0) _ rfl) (va_cwS 3 hts gX6_odds_X6_isIn rfl rfl rfl hdX6_isIn ⟨Nat.le_of_ble_eq_true rfl, Nat.le_of_ble_eq_true rfl⟩) (kpre hP hD hK hS hE hA [] rfl rfl) rfl rfl hl.1 rfl (lv_room (Nat.le_of_ble_eq_true rfl)) dX6_odds_17 ⟨Nat.zero_le _, Nat.zero_le _⟩) hP hD hS hA [] rfl rfl rfl (fun H locs hz3 hP hD hS => ?_)
      refine lv_if_eq (tgt := 33) hx hb dX6_odds_20 (by decide) (fun c4 => ?_) (fun c4 => ?_)
      · replace hf := if_te c4 hf
        refine lv_ldc2 (v := (-1)) hx hb hown (hts (.constantLong RX6 262 (-1)) (List.mem_of_getElem? (i := 2) rfl)) dX6_odds_33 ?_
        cases hf
        exact krl hQ hAe hx hb hr hlocks hP hD hK hS dX6_odds_36
      · replace hf := if_fe c4 hf
        refine lv_iload_n hx hb dX6_odds_23 rfl (lv_at hl 3 rfl) ?_
        refine lv_i2l hx hb dX6_odds_24 rfl ?_
        refine lv_lconst (v := 0) hx hb dX6_odds_25 rfl ?_
        refine lv_lconst (v := 1) hx hb dX6_odds_26 rfl ?_
        refine kcz (Wx := (oMM C e0 e1 e2 e3 e4 e5 e6 e7 e8 e9 e10 e11 e12 e13 e14 e15 m_s m_held m_aside m_before m_isHeld m_tape m_taped m_token m_from m_to m_value m_isWrong m_due m_firsts m_rows m_rowN m_sortOf m_sizeOf m_numbers m_holdsWhat m_holdsWhich m_holdsMany m_bodies m_ran m_actKind m_actN m_actA m_isParted [])) (va_runS (As := [.long (Int32.toInt64 x2), .long 0, .long 1]) (rest := []) ⟨hx, hb, hml, hown, hts⟩ (c_X6_isIn l E D C H.size (Int32.toInt64 x2) 0 1 _ rfl) (va_cwS 3 hts gX6_odds_X6_isIn rfl rfl rfl hdX6_isIn ⟨Nat.le_of_ble_eq_true rfl, Nat.le_of_ble_eq_true rfl⟩) (kpre hP hD hK hS hE hA [] rfl rfl) rfl rfl hl.1 rfl (lv_room (Nat.le_of_ble_eq_true rfl)) dX6_odds_27 ⟨Nat.zero_le _, Nat.zero_le _⟩) hP hD hS hA [] rfl rfl rfl (fun H locs hz5 hP hD hS => ?_)
        refine lv_if_ne (tgt := 37) hx hb dX6_odds_30 (by decide) (fun c6 => ?_) (fun c6 => ?_)
        · replace hf := if_fe c6 hf
          refine lv_iload_n hx hb dX6_odds_37 rfl (lv_at hl 1 rfl) ?_
          obtain ⟨r7, h8, hf⟩ := ob1_e hf
          refine kcl (Wx := (oMM C e0 e1 e2 e3 e4 e5 e6 e7 e8 e9 e10 e11 e12 e13 e14 e15 m_s m_held m_aside m_before m_isHeld m_tape m_taped m_token m_from m_to m_value m_isWrong m_due m_firsts m_rows m_rowN m_sortOf m_sizeOf m_numbers m_holdsWhat m_holdsWhich m_holdsMany m_bodies m_ran m_actKind m_actN m_actA m_isParted [])) (va_runS (As := [.int x0]) (rest := []) ⟨hx, hb, hml, hown, hts⟩ (c_X6_product l E D C H.size N x0 r7 h8) (va_cwS 1 hts gX6_odds_X6_product rfl rfl rfl hdX6_product ⟨Nat.le_of_ble_eq_true rfl, Nat.le_of_ble_eq_true rfl⟩) (kpre hP hD hK hS hE hA [] rfl rfl) rfl rfl hl.1 rfl (lv_room (Nat.le_of_ble_eq_true rfl)) dX6_odds_38 ⟨Nat.zero_le _, Nat.zero_le _⟩) hP hD hS hA [] rfl rfl rfl (fun H locs hP hD hS => ?_)
          refine lv_iload_n hx hb dX6_odds_41 rfl (lv_at hl 2 rfl) ?_
          obtain ⟨r9, h10, hf⟩ := ob1_e hf
          refine kcl (Wx := (oMM C e0 e1 e2 e3 e4 e5 e6 e7 e8 e9 e10 e11 e12 e13 e14 e15 m_s m_held m_aside m_before m_isHeld m_tape m_taped m_token m_from m_to m_value m_isWrong m_due m_firsts m_rows m_rowN m_sortOf m_sizeOf m_numbers m_holdsWhat m_holdsWhich m_holdsMany m_bodies m_ran m_actKind m_actN m_actA m_isParted [])) (va_runS (As := [.int x1]) (rest := [.long r7]) ⟨hx, hb, hml, hown, hts⟩ (c_X6_product l E D C H.size N x1 r9 h10) (va_cwS 1 hts gX6_odds_X6_product rfl rfl rfl hdX6_product ⟨Nat.le_of_ble_eq_true rfl, Nat.le_of_ble_eq_true rfl⟩) (kpre hP hD hK hS hE hA [] rfl rfl) rfl rfl hl.1 rfl (lv_room (Nat.le_of_ble_eq_true rfl)) dX6_odds_42 ⟨Nat.zero_le _, Nat.zero_le _⟩) hP hD hS hA [] rfl rfl rfl (fun H locs hP hD hS => ?_)
          obtain ⟨hz11, hf⟩ := gdP_e hf
          refine lv_ldiv hx hb dX6_odds_45 hz11 ?_
          refine lv_iload_n hx hb dX6_odds_46 rfl (lv_at hl 1 rfl) ?_
          refine lv_iload_n hx hb dX6_odds_47 rfl (lv_at hl 2 rfl) ?_
          refine lv_isub hx hb dX6_odds_48 ?_
          obtain ⟨r12, h13, hf⟩ := ob1_e hf
          refine kcl (Wx := (oMM C e0 e1 e2 e3 e4 e5 e6 e7 e8 e9 e10 e11 e12 e13 e14 e15 m_s m_held m_aside m_before m_isHeld m_tape m_taped m_token m_from m_to m_value m_isWrong m_due m_firsts m_rows m_rowN m_sortOf m_sizeOf m_numbers m_holdsWhat m_holdsWhich m_holdsMany m_bodies m_ran m_actKind m_actN m_actA m_isParted [])) (va_runS (As := [.int (x0 - x1)]) (rest := [.long (r7 / r9)]) ⟨hx, hb, hml, hown, hts⟩ (c_X6_product l E D C H.size N (x0 - x1) r12 h13) (va_cwS 1 hts gX6_odds_X6_product rfl rfl rfl hdX6_product ⟨Nat.le_of_ble_eq_true rfl, Nat.le_of_ble_eq_true rfl⟩) (kpre hP hD hK hS hE hA [] rfl rfl) rfl rfl hl.1 rfl (lv_room (Nat.le_of_ble_eq_true rfl)) dX6_odds_49 ⟨Nat.zero_le _, Nat.zero_le _⟩) hP hD hS hA [] rfl rfl rfl (fun H locs hP hD hS => ?_)
          obtain ⟨hz14, hf⟩ := gdP_e hf
          refine lv_ldiv hx hb dX6_odds_52 hz14 ?_
          obtain ⟨t15, et15, hf⟩ := lj_e hf
          refine lv_renL et15 ?_
          refine lv_lstore (lv' := [(4, .long t15), (0, .ref e0), (1, .int x0), (2, .int x1), (3, .int x2)]) hx hb dX6_odds_53 hl (by decide) rfl (fun ls hl => ?_)
          refine lv_lconst (v := 1) hx hb dX6_odds_55 rfl ?_
          refine lv_lstore (lv' := [(6, .long 1), (4, .long t15), (0, .ref e0), (1, .int x0), (2, .int x1), (3, .int x2)]) hx hb dX6_odds_56 hl (by decide) rfl (fun ls hl => ?_)
          refine lv_iconst (v := 0) hx hb dX6_odds_58 rfl ?_
          refine lv_istore (lv' := [(8, .int 0), (6, .long 1), (4, .long t15), (0, .ref e0), (1, .int x0), (2, .int x1), (3, .int x2)]) hx hb dX6_odds_59 hl (by decide) rfl (fun ls hl => ?_)
          obtain ⟨j18, hj18, hf⟩ := lj_e hf
          have Hj18 : ∀ (i16 : Int64) (i17 : Int64) (H : Heap) (locs : List Loc) (ls : Array Slot), va_P D vwCl (oMM C e0 e1 e2 e3 e4 e5 e6 e7 e8 e9 e10 e11 e12 e13 e14 e15 m_s m_held m_aside m_before m_isHeld m_tape m_taped m_token m_from m_to m_value m_isWrong m_due m_firsts m_rows m_rowN m_sortOf m_sizeOf m_numbers m_holdsWhat m_holdsWhich m_holdsMany m_bodies m_ran m_actKind m_actN m_actA m_isParted []) H → va_D A (oMM C e0 e1 e2 e3 e4 e5 e6 e7 e8 e9 e10 e11 e12 e13 e14 e15 m_s m_held m_aside m_before m_isHeld m_tape m_taped m_token m_from m_to m_value m_isWrong m_due m_firsts m_rows m_rowN m_sortOf m_sizeOf m_numbers m_holdsWhat m_holdsWhich m_holdsMany m_bodies m_ran m_actKind m_actN m_actA m_isParted []) → va_S A s.heap H locs → lv_has ls 9 [(6, .long i16), (4, .long i17), (3, .int x2)] → j18 i16 i17 = some r → W p l e (headSpec wsX6_odds (rmX6_odds)).room s m (List.toArray [Value.ref e0, Value.int x0, Value.int x1, Value.int x2]) below meth c H locs 0 0 Q (F0 m 114 ls []) := by
            intro i16 i17 H locs ls hP hD hS hl hf
            rw [hj18] at hf
            refine lv_lload hx hb dX6_odds_114 (lv_at hl 1 rfl) ?_
            refine lv_lload hx hb dX6_odds_116 (lv_at hl 0 rfl) ?_
            refine lv_iload_n hx hb dX6_odds_118 rfl (lv_at hl 2 rfl) ?_
            obtain ⟨r19, h20, hf⟩ := ob1_e hf
            refine kcl (Wx := (oMM C e0 e1 e2 e3 e4 e5 e6 e7 e8 e9 e10 e11 e12 e13 e14 e15 m_s m_held m_aside m_before m_isHeld m_tape m_taped m_token m_from m_to m_value m_isWrong m_due m_firsts m_rows m_rowN m_sortOf m_sizeOf m_numbers m_holdsWhat m_holdsWhich m_holdsMany m_bodies m_ran m_actKind m_actN m_actA m_isParted [])) (va_runS (As := [.long i17, .long i16, .int x2]) (rest := []) ⟨hx, hb, hml, hown, hts⟩ (c_X6_partOf l E D C H.size N i17 i16 x2 r19 h20) (va_cwS 3 hts gX6_odds_X6_partOf rfl rfl rfl hdX6_partOf ⟨Nat.le_of_ble_eq_true rfl, Nat.le_of_ble_eq_true rfl⟩) (kpre hP hD hK hS hE hA [] rfl rfl) rfl rfl hl.1 rfl (lv_room (Nat.le_of_ble_eq_true rfl)) dX6_odds_119 ⟨Nat.zero_le _, Nat.zero_le _⟩) hP hD hS hA [] rfl rfl rfl (fun H locs hP hD hS => ?_)
            cases hf
            exact krl hQ hAe hx hb hr hlocks hP hD hK hS dX6_odds_122
          have hL61 : ∀ (n : Nat) (i21 : Int32) (i22 : Int64) (i23 : Int64) (H : Heap) (locs : List Loc) (ls : Array Slot), va_P D vwCl (oMM C e0 e1 e2 e3 e4 e5 e6 e7 e8 e9 e10 e11 e12 e13 e14 e15 m_s m_held m_aside m_before m_isHeld m_tape m_taped m_token m_from m_to m_value m_isWrong m_due m_firsts m_rows m_rowN m_sortOf m_sizeOf m_numbers m_holdsWhat m_holdsWhich m_holdsMany m_bodies m_ran m_actKind m_actN m_actA m_isParted []) H → va_D A (oMM C e0 e1 e2 e3 e4 e5 e6 e7 e8 e9 e10 e11 e12 e13 e14 e15 m_s m_held m_aside m_before m_isHeld m_tape m_taped m_token m_from m_to m_value m_isWrong m_due m_firsts m_rows m_rowN m_sortOf m_sizeOf m_numbers m_holdsWhat m_holdsWhich m_holdsMany m_bodies m_ran m_actKind m_actN m_actA m_isParted []) → va_S A s.heap H locs → lv_has ls 9 [(8, .int i21), (6, .long i22), (4, .long i23), (0, .ref e0), (1, .int x0), (2, .int x1), (3, .int x2)] → f_X6_odds_L61 m_s x0 x1 j18 n i21 i22 i23 = some r → W p l e (headSpec wsX6_odds (rmX6_odds)).room s m (List.toArray [Value.ref e0, Value.int x0, Value.int x1, Value.int x2]) below meth c H locs 0 0 Q (F0 m 61 ls []) := by
            intro n
            induction n with
            | zero =>
              intro i21 i22 i23 H locs ls hP hD hS hl hf
              exact absurd hf (fun h => by cases h)
            | succ n ih =>
              intro i21 i22 i23 H locs ls hP hD hS hl hf
              rw [f_X6_odds_L61] at hf
              refine lv_iload hx hb dX6_odds_61 (lv_at hl 0 rfl) ?_
              refine lv_iload_n hx hb dX6_odds_63 rfl (lv_at hl 4 rfl) ?_
              refine lv_icmp_ge (tgt := 114) hx hb dX6_odds_64 (by decide) (fun c24 => ?_) (fun c24 => ?_)
              · replace hf := if_te c24 hf
                exact Hj18 i22 i23 H locs ls hP hD hS (lv_sub hl [1, 2, 6] rfl) hf
              · replace hf := if_fe c24 hf
                refine lv_lload hx hb dX6_odds_67 (lv_at hl 2 rfl) ?_
                refine lv_iload hx hb dX6_odds_69 (lv_at hl 0 rfl) ?_
                refine lv_iload_n hx hb dX6_odds_71 rfl (lv_at hl 5 rfl) ?_
                obtain ⟨j26, hj26, hf⟩ := lj_e hf
                have Hj26 : ∀ (k25 : Int64) (H : Heap) (locs : List Loc) (ls : Array Slot), va_P D vwCl (oMM C e0 e1 e2 e3 e4 e5 e6 e7 e8 e9 e10 e11 e12 e13 e14 e15 m_s m_held m_aside m_before m_isHeld m_tape m_taped m_token m_from m_to m_value m_isWrong m_due m_firsts m_rows m_rowN m_sortOf m_sizeOf m_numbers m_holdsWhat m_holdsWhich m_holdsMany m_bodies m_ran m_actKind m_actN m_actA m_isParted []) H → va_D A (oMM C e0 e1 e2 e3 e4 e5 e6 e7 e8 e9 e10 e11 e12 e13 e14 e15 m_s m_held m_aside m_before m_isHeld m_tape m_taped m_token m_from m_to m_value m_isWrong m_due m_firsts m_rows m_rowN m_sortOf m_sizeOf m_numbers m_holdsWhat m_holdsWhich m_holdsMany m_bodies m_ran m_actKind m_actN m_actA m_isParted []) → va_S A s.heap H locs → lv_has ls 9 [(8, .int i21), (6, .long i22), (0, .ref e0), (1, .int x0), (2, .int x1), (3, .int x2)] → j26 k25 = some r → W p l e (headSpec wsX6_odds (rmX6_odds)).room s m (List.toArray [Value.ref e0, Value.int x0, Value.int x1, Value.int x2]) below meth c H locs 0 0 Q (F0 m 97 ls [.long k25, .long i23]) := by
                  intro k25 H locs ls hP hD hS hl hf
                  rw [hj26] at hf
                  refine lv_lmul hx hb dX6_odds_97 ?_
                  obtain ⟨t27, et27, hf⟩ := lj_e hf
                  refine lv_renL et27 ?_
                  refine lv_lstore (lv' := [(4, .long t27), (8, .int i21), (6, .long i22), (0, .ref e0), (1, .int x0), (2, .int x1), (3, .int x2)]) hx hb dX6_odds_98 hl (by decide) rfl (fun ls hl => ?_)
                  refine lv_lload hx hb dX6_odds_100 (lv_at hl 2 rfl) ?_
                  refine lv_ldc2 (v := 100) hx hb hown (hts (.constantLong RX6 268 (100)) (List.mem_of_getElem? (i := 4) rfl)) dX6_odds_102 ?_
                  refine lv_lmul hx hb dX6_odds_105 ?_
                  obtain ⟨t28, et28, hf⟩ := lj_e hf
                  refine lv_renL et28 ?_
                  refine lv_lstore (lv' := [(6, .long t28), (4, .long t27), (8, .int i21), (0, .ref e0), (1, .int x0), (2, .int x1), (3, .int x2)]) hx hb dX6_odds_106 hl (by decide) rfl (fun ls hl => ?_)
                  obtain ⟨t29, et29, hf⟩ := lj_e hf
                  refine lv_iinc (v := t29) (lv' := [(8, .int t29), (6, .long t28), (4, .long t27), (0, .ref e0), (1, .int x0), (2, .int x1), (3, .int x2)]) hx hb dX6_odds_108 hl (k := 2) rfl (by rw [et29]; rfl) (by decide) rfl (fun ls hl => ?_)
                  refine lv_goto (tgt := 61) hx hb dX6_odds_111 (by decide) ?_
                  exact ih t29 t28 t27 H locs ls hP hD hS (lv_sub hl [0, 1, 2, 3, 4, 5, 6] rfl) hf
                refine lv_icmp_ge (tgt := 86) hx hb dX6_odds_72 (by decide) (fun c30 => ?_) (fun c30 => ?_)
                · replace hf := if_te c30 hf
                  refine lv_bipush (v := 100) hx hb dX6_odds_86 rfl ?_
                  refine lv_aload_n hx hb dX6_odds_88 rfl (lv_at hl 3 rfl) ?_
                  refine va_get (D := D) (ci := 6) (v := .ref e1) (C := RX6) (T := TX6) (N := 28) hx hb hts hi_RX6 hown hK hP 0 rfl rfl 0 (by decide) (hts (.fieldLink RX6 7 "TravelMarksModel" "s" "[I") (List.mem_of_getElem? (i := 3) rfl)) (fun _ h9 => h9) rfl dX6_odds_89 ?_
                  refine lv_bipush (v := 6) hx hb dX6_odds_92 rfl ?_
                  refine va_iald hx hb hK hP 1 0 rfl rfl (i := 6) (vin (by decide)) dX6_odds_94 ?_
                  refine lv_ren (show (m_s 6) = m_s (Int32.toNatClampNeg 6) from rfl) ?_
                  refine lv_isub hx hb dX6_odds_95 ?_
                  refine lv_i2l hx hb dX6_odds_96 rfl ?_
                  exact Hj26 (Int32.toInt64 (100 - (m_s 6))) H locs ls hP hD hS (lv_sub hl [0, 1, 3, 4, 5, 6] rfl) hf
                · replace hf := if_fe c30 hf
                  refine lv_aload_n hx hb dX6_odds_75 rfl (lv_at hl 3 rfl) ?_
                  refine va_get (D := D) (ci := 6) (v := .ref e1) (C := RX6) (T := TX6) (N := 28) hx hb hts hi_RX6 hown hK hP 0 rfl rfl 0 (by decide) (hts (.fieldLink RX6 7 "TravelMarksModel" "s" "[I") (List.mem_of_getElem? (i := 3) rfl)) (fun _ h9 => h9) rfl dX6_odds_76 ?_
                  refine lv_bipush (v := 6) hx hb dX6_odds_79 rfl ?_
                  refine va_iald hx hb hK hP 1 0 rfl rfl (i := 6) (vin (by decide)) dX6_odds_81 ?_
                  refine lv_ren (show (m_s 6) = m_s (Int32.toNatClampNeg 6) from rfl) ?_
                  refine lv_i2l hx hb dX6_odds_82 rfl ?_
                  refine lv_goto (tgt := 97) hx hb dX6_odds_83 (by decide) ?_
                  exact Hj26 (Int32.toInt64 (m_s 6)) H locs ls hP hD hS (lv_sub hl [0, 1, 3, 4, 5, 6] rfl) hf
          exact hL61 N 0 1 t15 H locs ls hP hD hS (lv_sub hl [0, 1, 2, 3, 4, 5, 6] rfl) hf
        · replace hf := if_te c6 hf
          refine lv_ldc2 (v := (-1)) hx hb hown (hts (.constantLong RX6 262 (-1)) (List.mem_of_getElem? (i := 2) rfl)) dX6_odds_33 ?_
          cases hf
          exact krl hQ hAe hx hb hr hlocks hP hD hK hS dX6_odds_36
  exact main _ _ hP hD hS

def rmX6_hope : Room := { frames := 1, cells := 0, slots := 0, locals := 30 }
theorem hdX6_hope : yX6_hope.cls = RX6 ∧ yX6_hope.cls ≠ "java/lang/invoke/MethodHandle" ∧ yX6_hope.cls ≠ "java/lang/invoke/VarHandle" ∧ (parseMethodDescriptor yX6_hope.desc).map (fun d => d.parameters.length) = some 2 := by decide +kernel
set_option maxHeartbeats 40000000 in
set_option maxRecDepth 100000 in
theorem c_X6_hope (l : Launch) (E : Nat → Nat) (D : va_G) (C : Nat → ClassId) (e0 e1 e2 e3 e4 e5 e6 e7 e8 e9 e10 e11 e12 e13 e14 e15 : Nat) (sz : Nat) (N : Nat) (m_s : Nat → Int32) (m_held : Nat → Int32) (m_aside : Nat → Int32) (m_before : Nat → Int32) (m_isHeld : Int32) (m_tape : Nat → Int32) (m_taped : Int32) (m_token : Int32) (m_from : Int32) (m_to : Int32) (m_value : Int32) (m_isWrong : Int32) (m_due : Nat → Int32) (m_firsts : Nat → Int32) (m_rows : Nat → Int32) (m_rowN : Int32) (m_sortOf : Nat → Int32) (m_sizeOf : Nat → Int32) (m_numbers : Nat → Int32) (m_holdsWhat : Nat → Int32) (m_holdsWhich : Nat → Int32) (m_holdsMany : Nat → Int32) (m_bodies : Nat → Int32) (m_ran : Int32) (m_actKind : Int32) (m_actN : Int32) (m_actA : Int32) (m_isParted : Int32) (x0 : Int32) (x1 : Int32) (r : Int64) (hf : f_X6_hope N m_s x0 x1 = some r) : Met l yX6_hope wsX6_hope rmX6_hope (PC E D C [.ref e0, .int x0, .int x1] (oMM C e0 e1 e2 e3 e4 e5 e6 e7 e8 e9 e10 e11 e12 e13 e14 e15 m_s m_held m_aside m_before m_isHeld m_tape m_taped m_token m_from m_to m_value m_isWrong m_due m_firsts m_rows m_rowN m_sortOf m_sizeOf m_numbers m_holdsWhat m_holdsWhich m_holdsMany m_bodies m_ran m_actKind m_actN m_actA m_isParted []) sz) (QL D C (oMM C e0 e1 e2 e3 e4 e5 e6 e7 e8 e9 e10 e11 e12 e13 e14 e15 m_s m_held m_aside m_before m_isHeld m_tape m_taped m_token m_from m_to m_value m_isWrong m_due m_firsts m_rows m_rowN m_sortOf m_sizeOf m_numbers m_holdsWhat m_holdsWhich m_holdsMany m_bodies m_ran m_actKind m_actN m_actA m_isParted []) (oMM C e0 e1 e2 e3 e4 e5 e6 e7 e8 e9 e10 e11 e12 e13 e14 e15 m_s m_held m_aside m_before m_isHeld m_tape m_taped m_token m_from m_to m_value m_isWrong m_due m_firsts m_rows m_rowN m_sortOf m_sizeOf m_numbers m_holdsWhat m_holdsWhich m_holdsMany m_bodies m_ran m_actKind m_actN m_actA m_isParted []) sz r) 0 0 (va_A (oMM C e0 e1 e2 e3 e4 e5 e6 e7 e8 e9 e10 e11 e12 e13 e14 e15 m_s m_held m_aside m_before m_isHeld m_tape m_taped m_token m_from m_to m_value m_isWrong m_due m_firsts m_rows m_rowN m_sortOf m_sizeOf m_numbers m_holdsWhat m_holdsWhich m_holdsMany m_bodies m_ran m_actKind m_actN m_actA m_isParted []) sz) := by
  refine Met.ofW (cc := cX6_hope) (maxL := 3) (ret := (some .long)) (by decide) rfl ?_
  intro p e s m args below meth c s₁ B hml hv
  obtain ⟨rfl, hsz, hP, hK, hD0, hE⟩ := hv
  have hx := B.exec
  have hb := B.bytes
  have hr := B.returns
  have hts := atoms_spec (ws := wsX6_hope) B.pre
  have hown : s.vm.findClass RX6 = some m.cls := findClass_of_methodNamed B.named
  have hlocks := B.notSynchronized
  subst hsz
  have hi_RX6 : ∀ w ∈ wsX60, w ∈ wsX6_hope := fun _ h => List.mem_cons_of_mem _ (List.mem_append_right _ h)
  have hD := hD0.self (sz := s.heap.size)
  obtain ⟨A, hAe⟩ := nm_ex (va_A (oMM C e0 e1 e2 e3 e4 e5 e6 e7 e8 e9 e10 e11 e12 e13 e14 e15 m_s m_held m_aside m_before m_isHeld m_tape m_taped m_token m_from m_to m_value m_isWrong m_due m_firsts m_rows m_rowN m_sortOf m_sizeOf m_numbers m_holdsWhat m_holdsWhich m_holdsMany m_bodies m_ran m_actKind m_actN m_actA m_isParted []) s.heap.size)
  rw [← hAe] at hD hE ⊢
  have hA : ∀ q : Nat, s.heap.size ≤ q → A q := fun q h => by rw [hAe]; exact Or.inr h
  have hS : va_S A s.heap s.heap [] := va_S.rf
  have hl := lv_entry ([.ref e0, .int x0, .int x1]) (n := 3) (Nat.le_of_ble_eq_true rfl)
  rw [lg_entry_eq]
  generalize (lg_sl ([.ref e0, .int x0, .int x1]) ++ List.replicate (3 - (lg_sl ([.ref e0, .int x0, .int x1])).length) Slot.unset).toArray = ls at hl ⊢
  have hl : lv_has ls 3 [(0, .ref e0), (1, .int x0), (2, .int x1)] := hl
  obtain ⟨Q, hQ⟩ := nm_ex (MQ below (QL D C (oMM C e0 e1 e2 e3 e4 e5 e6 e7 e8 e9 e10 e11 e12 e13 e14 e15 m_s m_held m_aside m_before m_isHeld m_tape m_taped m_token m_from m_to m_value m_isWrong m_due m_firsts m_rows m_rowN m_sortOf m_sizeOf m_numbers m_holdsWhat m_holdsWhich m_holdsMany m_bodies m_ran m_actKind m_actN m_actA m_isParted []) (oMM C e0 e1 e2 e3 e4 e5 e6 e7 e8 e9 e10 e11 e12 e13 e14 e15 m_s m_held m_aside m_before m_isHeld m_tape m_taped m_token m_from m_to m_value m_isWrong m_due m_firsts m_rows m_rowN m_sortOf m_sizeOf m_numbers m_holdsWhat m_holdsWhich m_holdsMany m_bodies m_ran m_actKind m_actN m_actA m_isParted []) s.heap.size r) (List.toArray [Value.ref e0, Value.int x0, Value.int x1]) s 0 0 A)
  show W p l e (headSpec wsX6_hope (rmX6_hope)).room s m (List.toArray [Value.ref e0, Value.int x0, Value.int x1]) below meth c s.heap [] 0 0 (MQ below (QL D C (oMM C e0 e1 e2 e3 e4 e5 e6 e7 e8 e9 e10 e11 e12 e13 e14 e15 m_s m_held m_aside m_before m_isHeld m_tape m_taped m_token m_from m_to m_value m_isWrong m_due m_firsts m_rows m_rowN m_sortOf m_sizeOf m_numbers m_holdsWhat m_holdsWhich m_holdsMany m_bodies m_ran m_actKind m_actN m_actA m_isParted []) (oMM C e0 e1 e2 e3 e4 e5 e6 e7 e8 e9 e10 e11 e12 e13 e14 e15 m_s m_held m_aside m_before m_isHeld m_tape m_taped m_token m_from m_to m_value m_isWrong m_due m_firsts m_rows m_rowN m_sortOf m_sizeOf m_numbers m_holdsWhat m_holdsWhich m_holdsMany m_bodies m_ran m_actKind m_actN m_actA m_isParted []) s.heap.size r) (List.toArray [Value.ref e0, Value.int x0, Value.int x1]) s 0 0 A) _
  rw [← hQ]
  unfold f_X6_hope at hf
  have main : ∀ (H : Heap) (locs : List Loc), va_P D vwCl (oMM C e0 e1 e2 e3 e4 e5 e6 e7 e8 e9 e10 e11 e12 e13 e14 e15 m_s m_held m_aside m_before m_isHeld m_tape m_taped m_token m_from m_to m_value m_isWrong m_due m_firsts m_rows m_rowN m_sortOf m_sizeOf m_numbers m_holdsWhat m_holdsWhich m_holdsMany m_bodies m_ran m_actKind m_actN m_actA m_isParted []) H → va_D A (oMM C e0 e1 e2 e3 e4 e5 e6 e7 e8 e9 e10 e11 e12 e13 e14 e15 m_s m_held m_aside m_before m_isHeld m_tape m_taped m_token m_from m_to m_value m_isWrong m_due m_firsts m_rows m_rowN m_sortOf m_sizeOf m_numbers m_holdsWhat m_holdsWhich m_holdsMany m_bodies m_ran m_actKind m_actN m_actA m_isParted []) → va_S A s.heap H locs → W p l e (headSpec wsX6_hope (rmX6_hope)).room s m (List.toArray [Value.ref e0, Value.int x0, Value.int x1]) below meth c H locs 0 0 Q (F0 m 0 ls []) := by
    intro H locs hP hD hS
    refine lv_iload_n hx hb dX6_hope_0 rfl (lv_at hl 1 rfl) ?_
    refine lv_i2l hx hb dX6_hope_1 rfl ?_
    refine lv_lconst (v := 0) hx hb dX6_hope_2 rfl ?_
    refine lv_ldc2 (v := 99) hx hb hown (hts (.constantLong RX6 164 (99)) (List.mem_of_getElem? (i := 1) rfl)) dX6_hope_3 ?_
    refine kcz (Wx := (oMM C e0 e1 e2 e3 e4 e5 e6 e7 e8 e9 e10 e11 e12 e13 e14 e15 m_s m_held m_aside m_before m_isHeld m_tape m_taped m_token m_from m_to m_value m_isWrong m_due m_firsts m_rows m_rowN m_sortOf m_sizeOf m_numbers m_holdsWhat m_holdsWhich m_holdsMany m_bodies m_ran m_actKind m_actN m_actA m_isParted [])) (va_runS (As := [.long (Int32.toInt64 x0), .long 0, .long 99]) (rest := []) ⟨hx, hb, hml, hown, hts⟩ (c_X6_isIn l E D C H.size (Int32.toInt64 x0) 0 99 _ rfl) (va_cwS 3 hts gX6_hope_X6_isIn rfl rfl rfl hdX6_isIn ⟨Nat.le_of_ble_eq_true rfl, Nat.le_of_ble_eq_true rfl⟩) (kpre hP hD hK hS hE hA [] rfl rfl) rfl rfl hl.1 rfl (lv_room (Nat.le_of_ble_eq_true rfl)) dX6_hope_6 ⟨Nat.zero_le _, Nat.zero_le _⟩) hP hD hS hA [] rfl rfl rfl (fun H locs hz1 hP hD hS => ?_)
    refine lv_if_eq (tgt := 43) hx hb dX6_hope_9 (by decide) (fun c2 => ?_) (fun c2 => ?_)
    · replace hf := if_te c2 hf
      refine lv_ldc2 (v := (-1)) hx hb hown (hts (.constantLong RX6 262 (-1)) (List.mem_of_getElem? (i := 4) rfl)) dX6_hope_43 ?_
      cases hf
      exact krl hQ hAe hx hb hr hlocks hP hD hK hS dX6_hope_46
    · replace hf := if_fe c2 hf
      refine lv_iload_n hx hb dX6_hope_12 rfl (lv_at hl 2 rfl) ?_
      refine lv_i2l hx hb dX6_hope_13 rfl ?_
      refine lv_lconst (v := 0) hx hb dX6_hope_14 rfl ?_
      refine lv_lconst (v := 1) hx hb dX6_hope_15 rfl ?_
      refine kcz (Wx := (oMM C e0 e1 e2 e3 e4 e5 e6 e7 e8 e9 e10 e11 e12 e13 e14 e15 m_s m_held m_aside m_before m_isHeld m_tape m_taped m_token m_from m_to m_value m_isWrong m_due m_firsts m_rows m_rowN m_sortOf m_sizeOf m_numbers m_holdsWhat m_holdsWhich m_holdsMany m_bodies m_ran m_actKind m_actN m_actA m_isParted [])) (va_runS (As := [.long (Int32.toInt64 x1), .long 0, .long 1]) (rest := []) ⟨hx, hb, hml, hown, hts⟩ (c_X6_isIn l E D C H.size (Int32.toInt64 x1) 0 1 _ rfl) (va_cwS 3 hts gX6_hope_X6_isIn rfl rfl rfl hdX6_isIn ⟨Nat.le_of_ble_eq_true rfl, Nat.le_of_ble_eq_true rfl⟩) (kpre hP hD hK hS hE hA [] rfl rfl) rfl rfl hl.1 rfl (lv_room (Nat.le_of_ble_eq_true rfl)) dX6_hope_16 ⟨Nat.zero_le _, Nat.zero_le _⟩) hP hD hS hA [] rfl rfl rfl (fun H locs hz3 hP hD hS => ?_)
      refine lv_if_eq (tgt := 43) hx hb dX6_hope_19 (by decide) (fun c4 => ?_) (fun c4 => ?_)
      · replace hf := if_te c4 hf
        refine lv_ldc2 (v := (-1)) hx hb hown (hts (.constantLong RX6 262 (-1)) (List.mem_of_getElem? (i := 4) rfl)) dX6_hope_43 ?_
        cases hf
        exact krl hQ hAe hx hb hr hlocks hP hD hK hS dX6_hope_46
      · replace hf := if_fe c4 hf
        refine lv_iload_n hx hb dX6_hope_22 rfl (lv_at hl 1 rfl) ?_
        refine lv_i2l hx hb dX6_hope_23 rfl ?_
        refine lv_aload_n hx hb dX6_hope_24 rfl (lv_at hl 0 rfl) ?_
        refine va_get (D := D) (ci := 6) (v := .ref e1) (C := RX6) (T := TX6) (N := 28) hx hb hts hi_RX6 hown hK hP 0 rfl rfl 0 (by decide) (hts (.fieldLink RX6 7 "TravelMarksModel" "s" "[I") (List.mem_of_getElem? (i := 2) rfl)) (fun _ h9 => h9) rfl dX6_hope_25 ?_
        refine lv_bipush (v := 6) hx hb dX6_hope_28 rfl ?_
        refine va_iald hx hb hK hP 1 0 rfl rfl (i := 6) (vin (by decide)) dX6_hope_30 ?_
        refine lv_ren (show (m_s 6) = m_s (Int32.toNatClampNeg 6) from rfl) ?_
        refine lv_i2l hx hb dX6_hope_31 rfl ?_
        refine lv_lmul hx hb dX6_hope_32 ?_
        refine lv_ldc2 (v := 100) hx hb hown (hts (.constantLong RX6 268 (100)) (List.mem_of_getElem? (i := 3) rfl)) dX6_hope_33 ?_
        refine lv_iload_n hx hb dX6_hope_36 rfl (lv_at hl 2 rfl) ?_
        obtain ⟨r5, h6, hf⟩ := ob1_e hf
        refine kcl (Wx := (oMM C e0 e1 e2 e3 e4 e5 e6 e7 e8 e9 e10 e11 e12 e13 e14 e15 m_s m_held m_aside m_before m_isHeld m_tape m_taped m_token m_from m_to m_value m_isWrong m_due m_firsts m_rows m_rowN m_sortOf m_sizeOf m_numbers m_holdsWhat m_holdsWhich m_holdsMany m_bodies m_ran m_actKind m_actN m_actA m_isParted [])) (va_runS (As := [.long ((Int32.toInt64 x0) * (Int32.toInt64 (m_s 6))), .long 100, .int x1]) (rest := []) ⟨hx, hb, hml, hown, hts⟩ (c_X6_partOf l E D C H.size N ((Int32.toInt64 x0) * (Int32.toInt64 (m_s 6))) 100 x1 r5 h6) (va_cwS 3 hts gX6_hope_X6_partOf rfl rfl rfl hdX6_partOf ⟨Nat.le_of_ble_eq_true rfl, Nat.le_of_ble_eq_true rfl⟩) (kpre hP hD hK hS hE hA [] rfl rfl) rfl rfl hl.1 rfl (lv_room (Nat.le_of_ble_eq_true rfl)) dX6_hope_37 ⟨Nat.zero_le _, Nat.zero_le _⟩) hP hD hS hA [] rfl rfl rfl (fun H locs hP hD hS => ?_)
        refine lv_goto (tgt := 46) hx hb dX6_hope_40 (by decide) ?_
        cases hf
        exact krl hQ hAe hx hb hr hlocks hP hD hK hS dX6_hope_46
  exact main _ _ hP hD hS

def rmX6_prove : Room := { frames := 6, cells := 0, slots := 0, locals := 142 }
theorem hdX6_prove : yX6_prove.cls = RX6 ∧ yX6_prove.cls ≠ "java/lang/invoke/MethodHandle" ∧ yX6_prove.cls ≠ "java/lang/invoke/VarHandle" ∧ (parseMethodDescriptor yX6_prove.desc).map (fun d => d.parameters.length) = some 2 := by decide +kernel
set_option maxHeartbeats 40000000 in
set_option maxRecDepth 100000 in
theorem c_X6_prove (l : Launch) (E : Nat → Nat) (D : va_G) (C : Nat → ClassId) (e0 e1 e2 e3 e4 e5 e6 e7 e8 e9 e10 e11 e12 e13 e14 e15 : Nat) (sz : Nat) (N : Nat) (m_s : Nat → Int32) (m_held : Nat → Int32) (m_aside : Nat → Int32) (m_before : Nat → Int32) (m_isHeld : Int32) (m_tape : Nat → Int32) (m_taped : Int32) (m_token : Int32) (m_from : Int32) (m_to : Int32) (m_value : Int32) (m_isWrong : Int32) (m_due : Nat → Int32) (m_firsts : Nat → Int32) (m_rows : Nat → Int32) (m_rowN : Int32) (m_sortOf : Nat → Int32) (m_sizeOf : Nat → Int32) (m_numbers : Nat → Int32) (m_holdsWhat : Nat → Int32) (m_holdsWhich : Nat → Int32) (m_holdsMany : Nat → Int32) (m_bodies : Nat → Int32) (m_ran : Int32) (m_actKind : Int32) (m_actN : Int32) (m_actA : Int32) (m_isParted : Int32) (x0 : Int32) (x1 : Int32) (r : Int32) (m_s' : Nat → Int32) (m_aside' : Nat → Int32) (m_rows' : Nat → Int32) (m_rowN' : Int32) (hf : f_X6_prove N m_s m_aside m_rows m_rowN x0 x1 = some (r, m_s', m_aside', m_rows', m_rowN')) : Met l yX6_prove wsX6_prove rmX6_prove (PC E D C [.ref e0, .int x0, .int x1] (oMM C e0 e1 e2 e3 e4 e5 e6 e7 e8 e9 e10 e11 e12 e13 e14 e15 m_s m_held m_aside m_before m_isHeld m_tape m_taped m_token m_from m_to m_value m_isWrong m_due m_firsts m_rows m_rowN m_sortOf m_sizeOf m_numbers m_holdsWhat m_holdsWhich m_holdsMany m_bodies m_ran m_actKind m_actN m_actA m_isParted []) sz) (QI D C (oMM C e0 e1 e2 e3 e4 e5 e6 e7 e8 e9 e10 e11 e12 e13 e14 e15 m_s m_held m_aside m_before m_isHeld m_tape m_taped m_token m_from m_to m_value m_isWrong m_due m_firsts m_rows m_rowN m_sortOf m_sizeOf m_numbers m_holdsWhat m_holdsWhich m_holdsMany m_bodies m_ran m_actKind m_actN m_actA m_isParted []) (oMM C e0 e1 e2 e3 e4 e5 e6 e7 e8 e9 e10 e11 e12 e13 e14 e15 (m_s') m_held (m_aside') m_before m_isHeld m_tape m_taped m_token m_from m_to m_value m_isWrong m_due m_firsts (m_rows') (m_rowN') m_sortOf m_sizeOf m_numbers m_holdsWhat m_holdsWhich m_holdsMany m_bodies m_ran m_actKind m_actN m_actA m_isParted []) sz r) 0 0 (va_A (oMM C e0 e1 e2 e3 e4 e5 e6 e7 e8 e9 e10 e11 e12 e13 e14 e15 m_s m_held m_aside m_before m_isHeld m_tape m_taped m_token m_from m_to m_value m_isWrong m_due m_firsts m_rows m_rowN m_sortOf m_sizeOf m_numbers m_holdsWhat m_holdsWhich m_holdsMany m_bodies m_ran m_actKind m_actN m_actA m_isParted []) sz) := by
  refine Met.ofW (cc := cX6_prove) (maxL := 4) (ret := (some .int)) (by decide) rfl ?_
  intro p e s m args below meth c s₁ B hml hv
  obtain ⟨rfl, hsz, hP, hK, hD0, hE⟩ := hv
  have hx := B.exec
  have hb := B.bytes
  have hr := B.returns
  have hts := atoms_spec (ws := wsX6_prove) B.pre
  have hown : s.vm.findClass RX6 = some m.cls := findClass_of_methodNamed B.named
  have hlocks := B.notSynchronized
  subst hsz
  have hi_RX6 : ∀ w ∈ wsX60, w ∈ wsX6_prove := fun _ h => List.mem_cons_of_mem _ (List.mem_append_right _ h)
  have hD := hD0.self (sz := s.heap.size)
  obtain ⟨A, hAe⟩ := nm_ex (va_A (oMM C e0 e1 e2 e3 e4 e5 e6 e7 e8 e9 e10 e11 e12 e13 e14 e15 m_s m_held m_aside m_before m_isHeld m_tape m_taped m_token m_from m_to m_value m_isWrong m_due m_firsts m_rows m_rowN m_sortOf m_sizeOf m_numbers m_holdsWhat m_holdsWhich m_holdsMany m_bodies m_ran m_actKind m_actN m_actA m_isParted []) s.heap.size)
  rw [← hAe] at hD hE ⊢
  have hA : ∀ q : Nat, s.heap.size ≤ q → A q := fun q h => by rw [hAe]; exact Or.inr h
  have hS : va_S A s.heap s.heap [] := va_S.rf
  have hl := lv_entry ([.ref e0, .int x0, .int x1]) (n := 4) (Nat.le_of_ble_eq_true rfl)
  rw [lg_entry_eq]
  generalize (lg_sl ([.ref e0, .int x0, .int x1]) ++ List.replicate (4 - (lg_sl ([.ref e0, .int x0, .int x1])).length) Slot.unset).toArray = ls at hl ⊢
  have hl : lv_has ls 4 [(0, .ref e0), (1, .int x0), (2, .int x1)] := hl
  obtain ⟨Q, hQ⟩ := nm_ex (MQ below (QI D C (oMM C e0 e1 e2 e3 e4 e5 e6 e7 e8 e9 e10 e11 e12 e13 e14 e15 m_s m_held m_aside m_before m_isHeld m_tape m_taped m_token m_from m_to m_value m_isWrong m_due m_firsts m_rows m_rowN m_sortOf m_sizeOf m_numbers m_holdsWhat m_holdsWhich m_holdsMany m_bodies m_ran m_actKind m_actN m_actA m_isParted []) (oMM C e0 e1 e2 e3 e4 e5 e6 e7 e8 e9 e10 e11 e12 e13 e14 e15 (m_s') m_held (m_aside') m_before m_isHeld m_tape m_taped m_token m_from m_to m_value m_isWrong m_due m_firsts (m_rows') (m_rowN') m_sortOf m_sizeOf m_numbers m_holdsWhat m_holdsWhich m_holdsMany m_bodies m_ran m_actKind m_actN m_actA m_isParted []) s.heap.size r) (List.toArray [Value.ref e0, Value.int x0, Value.int x1]) s 0 0 A)
  show W p l e (headSpec wsX6_prove (rmX6_prove)).room s m (List.toArray [Value.ref e0, Value.int x0, Value.int x1]) below meth c s.heap [] 0 0 (MQ below (QI D C (oMM C e0 e1 e2 e3 e4 e5 e6 e7 e8 e9 e10 e11 e12 e13 e14 e15 m_s m_held m_aside m_before m_isHeld m_tape m_taped m_token m_from m_to m_value m_isWrong m_due m_firsts m_rows m_rowN m_sortOf m_sizeOf m_numbers m_holdsWhat m_holdsWhich m_holdsMany m_bodies m_ran m_actKind m_actN m_actA m_isParted []) (oMM C e0 e1 e2 e3 e4 e5 e6 e7 e8 e9 e10 e11 e12 e13 e14 e15 (m_s') m_held (m_aside') m_before m_isHeld m_tape m_taped m_token m_from m_to m_value m_isWrong m_due m_firsts (m_rows') (m_rowN') m_sortOf m_sizeOf m_numbers m_holdsWhat m_holdsWhich m_holdsMany m_bodies m_ran m_actKind m_actN m_actA m_isParted []) s.heap.size r) (List.toArray [Value.ref e0, Value.int x0, Value.int x1]) s 0 0 A) _
  rw [← hQ]
  unfold f_X6_prove at hf
  have main : ∀ (H : Heap) (locs : List Loc), va_P D vwCl (oMM C e0 e1 e2 e3 e4 e5 e6 e7 e8 e9 e10 e11 e12 e13 e14 e15 m_s m_held m_aside m_before m_isHeld m_tape m_taped m_token m_from m_to m_value m_isWrong m_due m_firsts m_rows m_rowN m_sortOf m_sizeOf m_numbers m_holdsWhat m_holdsWhich m_holdsMany m_bodies m_ran m_actKind m_actN m_actA m_isParted []) H → va_D A (oMM C e0 e1 e2 e3 e4 e5 e6 e7 e8 e9 e10 e11 e12 e13 e14 e15 m_s m_held m_aside m_before m_isHeld m_tape m_taped m_token m_from m_to m_value m_isWrong m_due m_firsts m_rows m_rowN m_sortOf m_sizeOf m_numbers m_holdsWhat m_holdsWhich m_holdsMany m_bodies m_ran m_actKind m_actN m_actA m_isParted []) → va_S A s.heap H locs → W p l e (headSpec wsX6_prove (rmX6_prove)).room s m (List.toArray [Value.ref e0, Value.int x0, Value.int x1]) below meth c H locs 0 0 Q (F0 m 0 ls []) := by
    intro H locs hP hD hS
    refine lv_aload_n hx hb dX6_prove_0 rfl (lv_at hl 0 rfl) ?_
    refine lv_iload_n hx hb dX6_prove_1 rfl (lv_at hl 1 rfl) ?_
    refine kmz (w1 := (oMM C e0 e1 e2 e3 e4 e5 e6 e7 e8 e9 e10 e11 e12 e13 e14 e15 m_s m_held m_aside m_before m_isHeld m_tape m_taped m_token m_from m_to m_value m_isWrong m_due m_firsts m_rows m_rowN m_sortOf m_sizeOf m_numbers m_holdsWhat m_holdsWhich m_holdsMany m_bodies m_ran m_actKind m_actN m_actA m_isParted [])) (va_runV (As := [.int x0]) (rest := []) ⟨hx, hb, hml, hown, hts⟩ (c_X6_isOne l E D C e0 e1 e2 e3 e4 e5 e6 e7 e8 e9 e10 e11 e12 e13 e14 e15 H.size m_s m_held m_aside m_before m_isHeld m_tape m_taped m_token m_from m_to m_value m_isWrong m_due m_firsts m_rows m_rowN m_sortOf m_sizeOf m_numbers m_holdsWhat m_holdsWhich m_holdsMany m_bodies m_ran m_actKind m_actN m_actA m_isParted x0 _ rfl) (cwV 1 hts gX6_prove_X6_isOne rfl rfl rfl hdX6_isOne ⟨Nat.le_of_ble_eq_true rfl, Nat.le_of_ble_eq_true rfl⟩) (kpreM hP hD hK hS hE hA 0 rfl rfl rfl) rfl rfl hl.1 rfl (lv_room (Nat.le_of_ble_eq_true rfl)) dX6_prove_2 ⟨Nat.zero_le _, Nat.zero_le _⟩) hP hD hS hA rfl (fun H locs hz1 hP hD hS => ?_)
    refine lv_if_eq (tgt := 20) hx hb dX6_prove_5 (by decide) (fun c2 => ?_) (fun c2 => ?_)
    · replace hf := if_te c2 hf
      refine lv_iconst (v := (-1)) hx hb dX6_prove_20 rfl ?_
      cases hf
      exact kri hQ hAe hx hb hr hlocks hP hD hK hS dX6_prove_21
    · replace hf := if_fe c2 hf
      refine lv_iload_n hx hb dX6_prove_8 rfl (lv_at hl 2 rfl) ?_
      refine lv_i2l hx hb dX6_prove_9 rfl ?_
      refine lv_lconst (v := 1) hx hb dX6_prove_10 rfl ?_
      refine lv_ldc2 (v := 10) hx hb hown (hts (.constantLong RX6 274 (10)) (List.mem_of_getElem? (i := 1) rfl)) dX6_prove_11 ?_
      refine kcz (Wx := (oMM C e0 e1 e2 e3 e4 e5 e6 e7 e8 e9 e10 e11 e12 e13 e14 e15 m_s m_held m_aside m_before m_isHeld m_tape m_taped m_token m_from m_to m_value m_isWrong m_due m_firsts m_rows m_rowN m_sortOf m_sizeOf m_numbers m_holdsWhat m_holdsWhich m_holdsMany m_bodies m_ran m_actKind m_actN m_actA m_isParted [])) (va_runS (As := [.long (Int32.toInt64 x1), .long 1, .long 10]) (rest := []) ⟨hx, hb, hml, hown, hts⟩ (c_X6_isIn l E D C H.size (Int32.toInt64 x1) 1 10 _ rfl) (va_cwS 3 hts gX6_prove_X6_isIn rfl rfl rfl hdX6_isIn ⟨Nat.le_of_ble_eq_true rfl, Nat.le_of_ble_eq_true rfl⟩) (kpre hP hD hK hS hE hA [] rfl rfl) rfl rfl hl.1 rfl (lv_room (Nat.le_of_ble_eq_true rfl)) dX6_prove_14 ⟨Nat.zero_le _, Nat.zero_le _⟩) hP hD hS hA [] rfl rfl rfl (fun H locs hz3 hP hD hS => ?_)
      refine lv_if_ne (tgt := 22) hx hb dX6_prove_17 (by decide) (fun c4 => ?_) (fun c4 => ?_)
      · replace hf := if_fe c4 hf
        refine lv_aload_n hx hb dX6_prove_22 rfl (lv_at hl 0 rfl) ?_
        refine va_get (D := D) (ci := 6) (v := .ref e1) (C := RX6) (T := TX6) (N := 28) hx hb hts hi_RX6 hown hK hP 0 rfl rfl 0 (by decide) (hts (.fieldLink RX6 7 "TravelMarksModel" "s" "[I") (List.mem_of_getElem? (i := 2) rfl)) (fun _ h9 => h9) rfl dX6_prove_23 ?_
        refine lv_aload_n hx hb dX6_prove_26 rfl (lv_at hl 0 rfl) ?_
        refine va_get (D := D) (ci := 6) (v := .ref e3) (C := RX6) (T := TX6) (N := 28) hx hb hts hi_RX6 hown hK hP 0 rfl rfl 2 (by decide) (hts (.fieldLink RX6 16 "TravelMarksModel" "aside" "[I") (List.mem_of_getElem? (i := 3) rfl)) (fun _ h9 => h9) rfl dX6_prove_27 ?_
        obtain ⟨v5, h6, hf⟩ := ob1_e hf
        refine kcv (Wx := (oMM C e0 e1 e2 e3 e4 e5 e6 e7 e8 e9 e10 e11 e12 e13 e14 e15 m_s m_held v5 m_before m_isHeld m_tape m_taped m_token m_from m_to m_value m_isWrong m_due m_firsts m_rows m_rowN m_sortOf m_sizeOf m_numbers m_holdsWhat m_holdsWhich m_holdsMany m_bodies m_ran m_actKind m_actN m_actA m_isParted [])) (va_runS (As := [.ref e1, .ref e3]) (rest := []) ⟨hx, hb, hml, hown, hts⟩ (c_X6_copyRow l E D C e1 e3 H.size N m_s m_aside v5 h6) (va_cwS 2 hts gX6_prove_X6_copyRow rfl rfl rfl hdX6_copyRow ⟨Nat.le_of_ble_eq_true rfl, Nat.le_of_ble_eq_true rfl⟩) (kpre hP hD hK hS hE hA [1, 3] rfl rfl) rfl rfl hl.1 rfl (lv_room (Nat.le_of_ble_eq_true rfl)) dX6_prove_30 ⟨Nat.zero_le _, Nat.zero_le _⟩) hP hD hS hA [1, 3] rfl rfl rfl (fun H locs hP hD hS => ?_)
        refine lv_iconst (v := 0) hx hb dX6_prove_33 rfl ?_
        refine lv_istore_n (lv' := [(3, .int 0), (0, .ref e0), (1, .int x0), (2, .int x1)]) hx hb dX6_prove_34 rfl hl (by decide) rfl (fun ls hl => ?_)
        obtain ⟨j9, hj9, hf⟩ := lj_e hf
        have Hj9 : ∀ (v7 : Nat → Int32) (v8 : Nat → Int32) (H : Heap) (locs : List Loc) (ls : Array Slot), va_P D vwCl (oMM C e0 e1 e2 e3 e4 e5 e6 e7 e8 e9 e10 e11 e12 e13 e14 e15 v7 m_held v5 m_before m_isHeld m_tape m_taped m_token m_from m_to m_value m_isWrong m_due m_firsts v8 m_rowN m_sortOf m_sizeOf m_numbers m_holdsWhat m_holdsWhich m_holdsMany m_bodies m_ran m_actKind m_actN m_actA m_isParted []) H → va_D A (oMM C e0 e1 e2 e3 e4 e5 e6 e7 e8 e9 e10 e11 e12 e13 e14 e15 v7 m_held v5 m_before m_isHeld m_tape m_taped m_token m_from m_to m_value m_isWrong m_due m_firsts v8 m_rowN m_sortOf m_sizeOf m_numbers m_holdsWhat m_holdsWhich m_holdsMany m_bodies m_ran m_actKind m_actN m_actA m_isParted []) → va_S A s.heap H locs → lv_has ls 4 [(0, .ref e0), (2, .int x1)] → j9 v7 v8 = some (r, m_s', m_aside', m_rows', m_rowN') → W p l e (headSpec wsX6_prove (rmX6_prove)).room s m (List.toArray [Value.ref e0, Value.int x0, Value.int x1]) below meth c H locs 0 0 Q (F0 m 94 ls []) := by
          intro v7 v8 H locs ls hP hD hS hl hf
          rw [hj9] at hf
          refine lv_aload_n hx hb dX6_prove_94 rfl (lv_at hl 0 rfl) ?_
          refine va_get (D := D) (ci := 6) (v := .ref e3) (C := RX6) (T := TX6) (N := 28) hx hb hts hi_RX6 hown hK hP 0 rfl rfl 2 (by decide) (hts (.fieldLink RX6 16 "TravelMarksModel" "aside" "[I") (List.mem_of_getElem? (i := 3) rfl)) (fun _ h9 => h9) rfl dX6_prove_95 ?_
          refine lv_aload_n hx hb dX6_prove_98 rfl (lv_at hl 0 rfl) ?_
          refine va_get (D := D) (ci := 6) (v := .ref e1) (C := RX6) (T := TX6) (N := 28) hx hb hts hi_RX6 hown hK hP 0 rfl rfl 0 (by decide) (hts (.fieldLink RX6 7 "TravelMarksModel" "s" "[I") (List.mem_of_getElem? (i := 2) rfl)) (fun _ h9 => h9) rfl dX6_prove_99 ?_
          obtain ⟨v10, h11, hf⟩ := ob1_e hf
          refine kcv (Wx := (oMM C e0 e1 e2 e3 e4 e5 e6 e7 e8 e9 e10 e11 e12 e13 e14 e15 v10 m_held v5 m_before m_isHeld m_tape m_taped m_token m_from m_to m_value m_isWrong m_due m_firsts v8 m_rowN m_sortOf m_sizeOf m_numbers m_holdsWhat m_holdsWhich m_holdsMany m_bodies m_ran m_actKind m_actN m_actA m_isParted [])) (va_runS (As := [.ref e3, .ref e1]) (rest := []) ⟨hx, hb, hml, hown, hts⟩ (c_X6_copyRow l E D C e3 e1 H.size N v5 v7 v10 h11) (va_cwS 2 hts gX6_prove_X6_copyRow rfl rfl rfl hdX6_copyRow ⟨Nat.le_of_ble_eq_true rfl, Nat.le_of_ble_eq_true rfl⟩) (kpre hP hD hK hS hE hA [3, 1] rfl rfl) rfl rfl hl.1 rfl (lv_room (Nat.le_of_ble_eq_true rfl)) dX6_prove_102 ⟨Nat.zero_le _, Nat.zero_le _⟩) hP hD hS hA [3, 1] rfl rfl rfl (fun H locs hP hD hS => ?_)
          refine lv_aload_n hx hb dX6_prove_105 rfl (lv_at hl 0 rfl) ?_
          refine lv_iload_n hx hb dX6_prove_106 rfl (lv_at hl 1 rfl) ?_
          refine va_put (D := D) (ci := 6) (v := .int x1) (ty := .int) (C := RX6) (T := TX6) (N := 28) hx hb hts hi_RX6 tyX6 tyX6_ok nmX6 hown hK hP hD hS 0 rfl rfl 15 (by decide) (hts (.fieldLink RX6 153 "TravelMarksModel" "rowN" "I") (List.mem_of_getElem? (i := 5) rfl)) (fun _ h9 => h9) rfl (tyX6_ok 15 (by decide)) rfl rfl (Nat.le_of_ble_eq_true rfl) dX6_prove_107 (fun H locs hP hD hS => ?_)
          have hP : va_P D vwCl (oMM C e0 e1 e2 e3 e4 e5 e6 e7 e8 e9 e10 e11 e12 e13 e14 e15 v10 m_held v5 m_before m_isHeld m_tape m_taped m_token m_from m_to m_value m_isWrong m_due m_firsts v8 x1 m_sortOf m_sizeOf m_numbers m_holdsWhat m_holdsWhich m_holdsMany m_bodies m_ran m_actKind m_actN m_actA m_isParted []) H := hP
          have hD : va_D A (oMM C e0 e1 e2 e3 e4 e5 e6 e7 e8 e9 e10 e11 e12 e13 e14 e15 v10 m_held v5 m_before m_isHeld m_tape m_taped m_token m_from m_to m_value m_isWrong m_due m_firsts v8 x1 m_sortOf m_sizeOf m_numbers m_holdsWhat m_holdsWhich m_holdsMany m_bodies m_ran m_actKind m_actN m_actA m_isParted []) := hD
          refine lv_iload_n hx hb dX6_prove_110 rfl (lv_at hl 1 rfl) ?_
          cases hf
          exact kri hQ hAe hx hb hr hlocks hP hD hK hS dX6_prove_111
        have hL35 : ∀ (n : Nat) (i12 : Int32) (v13 : Nat → Int32) (v14 : Nat → Int32) (H : Heap) (locs : List Loc) (ls : Array Slot), va_P D vwCl (oMM C e0 e1 e2 e3 e4 e5 e6 e7 e8 e9 e10 e11 e12 e13 e14 e15 v13 m_held v5 m_before m_isHeld m_tape m_taped m_token m_from m_to m_value m_isWrong m_due m_firsts v14 m_rowN m_sortOf m_sizeOf m_numbers m_holdsWhat m_holdsWhich m_holdsMany m_bodies m_ran m_actKind m_actN m_actA m_isParted []) H → va_D A (oMM C e0 e1 e2 e3 e4 e5 e6 e7 e8 e9 e10 e11 e12 e13 e14 e15 v13 m_held v5 m_before m_isHeld m_tape m_taped m_token m_from m_to m_value m_isWrong m_due m_firsts v14 m_rowN m_sortOf m_sizeOf m_numbers m_holdsWhat m_holdsWhich m_holdsMany m_bodies m_ran m_actKind m_actN m_actA m_isParted []) → va_S A s.heap H locs → lv_has ls 4 [(3, .int i12), (0, .ref e0), (1, .int x0), (2, .int x1)] → f_X6_prove_L35 N x0 x1 j9 n i12 v13 v14 = some (r, m_s', m_aside', m_rows', m_rowN') → W p l e (headSpec wsX6_prove (rmX6_prove)).room s m (List.toArray [Value.ref e0, Value.int x0, Value.int x1]) below meth c H locs 0 0 Q (F0 m 35 ls []) := by
          intro n
          induction n with
          | zero =>
            intro i12 v13 v14 H locs ls hP hD hS hl hf
            exact absurd hf (fun h => by cases h)
          | succ n ih =>
            intro i12 v13 v14 H locs ls hP hD hS hl hf
            rw [f_X6_prove_L35] at hf
            refine lv_iload_n hx hb dX6_prove_35 rfl (lv_at hl 0 rfl) ?_
            refine lv_iload_n hx hb dX6_prove_36 rfl (lv_at hl 3 rfl) ?_
            refine lv_icmp_ge (tgt := 94) hx hb dX6_prove_37 (by decide) (fun c15 => ?_) (fun c15 => ?_)
            · replace hf := if_te c15 hf
              exact Hj9 v13 v14 H locs ls hP hD hS (lv_sub hl [1, 3] rfl) hf
            · replace hf := if_fe c15 hf
              refine lv_aload_n hx hb dX6_prove_40 rfl (lv_at hl 1 rfl) ?_
              refine va_get (D := D) (ci := 6) (v := .ref e8) (C := RX6) (T := TX6) (N := 28) hx hb hts hi_RX6 hown hK hP 0 rfl rfl 14 (by decide) (hts (.fieldLink RX6 31 "TravelMarksModel" "rows" "[I") (List.mem_of_getElem? (i := 4) rfl)) (fun _ h9 => h9) rfl dX6_prove_41 ?_
              refine lv_iconst (v := 3) hx hb dX6_prove_44 rfl ?_
              refine lv_iload_n hx hb dX6_prove_45 rfl (lv_at hl 0 rfl) ?_
              refine lv_imul hx hb dX6_prove_46 ?_
              refine lv_iconst (v := 2) hx hb dX6_prove_47 rfl ?_
              refine lv_iadd hx hb dX6_prove_48 ?_
              refine lv_aload_n hx hb dX6_prove_49 rfl (lv_at hl 1 rfl) ?_
              obtain ⟨r16, v17, h18, hf⟩ := ob2_e hf
              refine kmi (w1 := (oMM C e0 e1 e2 e3 e4 e5 e6 e7 e8 e9 e10 e11 e12 e13 e14 e15 v17 m_held v5 m_before m_isHeld m_tape m_taped m_token m_from m_to m_value m_isWrong m_due m_firsts v14 m_rowN m_sortOf m_sizeOf m_numbers m_holdsWhat m_holdsWhich m_holdsMany m_bodies m_ran m_actKind m_actN m_actA m_isParted [])) (va_runV (As := []) (rest := [.int ((3 * i12) + 2), .ref e8]) ⟨hx, hb, hml, hown, hts⟩ (c_X6_goesOn l E D C e0 e1 e2 e3 e4 e5 e6 e7 e8 e9 e10 e11 e12 e13 e14 e15 H.size N v13 m_held v5 m_before m_isHeld m_tape m_taped m_token m_from m_to m_value m_isWrong m_due m_firsts v14 m_rowN m_sortOf m_sizeOf m_numbers m_holdsWhat m_holdsWhich m_holdsMany m_bodies m_ran m_actKind m_actN m_actA m_isParted r16 v17 h18) (cwV 0 hts gX6_prove_X6_goesOn rfl rfl rfl hdX6_goesOn ⟨Nat.le_of_ble_eq_true rfl, Nat.le_of_ble_eq_true rfl⟩) (kpreM hP hD hK hS hE hA 0 rfl rfl rfl) rfl rfl hl.1 rfl (lv_room (Nat.le_of_ble_eq_true rfl)) dX6_prove_50 ⟨Nat.zero_le _, Nat.zero_le _⟩) hP hD hS hA rfl (fun H locs hP hD hS => ?_)
              refine lv_iload_n hx hb dX6_prove_53 rfl (lv_at hl 2 rfl) ?_
              refine lv_ishr hx hb dX6_prove_54 ?_
              refine lv_iconst (v := 1) hx hb dX6_prove_55 rfl ?_
              refine lv_iand hx hb dX6_prove_56 ?_
              obtain ⟨t19, et19, hf⟩ := lj_e hf
              refine lv_ren et19 ?_
              obtain ⟨hi20, hf⟩ := ckA_e hf
              refine va_iast hx hb hK hP hD hS 8 0 rfl rfl hi20 dX6_prove_57 (fun H locs hP hD hS => ?_)
              obtain ⟨v21, ev21, hf⟩ := lj_e hf
              have hP : va_P D vwCl (oMM C e0 e1 e2 e3 e4 e5 e6 e7 e8 e9 e10 e11 e12 e13 e14 e15 v17 m_held v5 m_before m_isHeld m_tape m_taped m_token m_from m_to m_value m_isWrong m_due m_firsts v21 m_rowN m_sortOf m_sizeOf m_numbers m_holdsWhat m_holdsWhich m_holdsMany m_bodies m_ran m_actKind m_actN m_actA m_isParted []) H := by rw [ev21]; exact hP
              have hD : va_D A (oMM C e0 e1 e2 e3 e4 e5 e6 e7 e8 e9 e10 e11 e12 e13 e14 e15 v17 m_held v5 m_before m_isHeld m_tape m_taped m_token m_from m_to m_value m_isWrong m_due m_firsts v21 m_rowN m_sortOf m_sizeOf m_numbers m_holdsWhat m_holdsWhich m_holdsMany m_bodies m_ran m_actKind m_actN m_actA m_isParted []) := by rw [ev21]; exact hD
              refine lv_aload_n hx hb dX6_prove_58 rfl (lv_at hl 1 rfl) ?_
              refine va_get (D := D) (ci := 6) (v := .ref e8) (C := RX6) (T := TX6) (N := 28) hx hb hts hi_RX6 hown hK hP 0 rfl rfl 14 (by decide) (hts (.fieldLink RX6 31 "TravelMarksModel" "rows" "[I") (List.mem_of_getElem? (i := 4) rfl)) (fun _ h9 => h9) rfl dX6_prove_59 ?_
              refine lv_iconst (v := 3) hx hb dX6_prove_62 rfl ?_
              refine lv_iload_n hx hb dX6_prove_63 rfl (lv_at hl 0 rfl) ?_
              refine lv_imul hx hb dX6_prove_64 ?_
              refine lv_aload_n hx hb dX6_prove_65 rfl (lv_at hl 1 rfl) ?_
              refine lv_iload_n hx hb dX6_prove_66 rfl (lv_at hl 2 rfl) ?_
              refine lv_iconst (v := 2) hx hb dX6_prove_67 rfl ?_
              obtain ⟨r22, h23, hf⟩ := ob1_e hf
              refine kmi (w1 := (oMM C e0 e1 e2 e3 e4 e5 e6 e7 e8 e9 e10 e11 e12 e13 e14 e15 v17 m_held v5 m_before m_isHeld m_tape m_taped m_token m_from m_to m_value m_isWrong m_due m_firsts v21 m_rowN m_sortOf m_sizeOf m_numbers m_holdsWhat m_holdsWhich m_holdsMany m_bodies m_ran m_actKind m_actN m_actA m_isParted [])) (va_runV (As := [.int x0, .int 2]) (rest := [.int (3 * i12), .ref e8]) ⟨hx, hb, hml, hown, hts⟩ (c_X6_its l E D C e0 e1 e2 e3 e4 e5 e6 e7 e8 e9 e10 e11 e12 e13 e14 e15 H.size v17 m_held v5 m_before m_isHeld m_tape m_taped m_token m_from m_to m_value m_isWrong m_due m_firsts v21 m_rowN m_sortOf m_sizeOf m_numbers m_holdsWhat m_holdsWhich m_holdsMany m_bodies m_ran m_actKind m_actN m_actA m_isParted x0 2 r22 h23) (cwV 2 hts gX6_prove_X6_its rfl rfl rfl hdX6_its ⟨Nat.le_of_ble_eq_true rfl, Nat.le_of_ble_eq_true rfl⟩) (kpreM hP hD hK hS hE hA 0 rfl rfl rfl) rfl rfl hl.1 rfl (lv_room (Nat.le_of_ble_eq_true rfl)) dX6_prove_68 ⟨Nat.zero_le _, Nat.zero_le _⟩) hP hD hS hA rfl (fun H locs hP hD hS => ?_)
              obtain ⟨hi24, hf⟩ := ckA_e hf
              refine va_iast hx hb hK hP hD hS 8 0 rfl rfl hi24 dX6_prove_71 (fun H locs hP hD hS => ?_)
              obtain ⟨v25, ev25, hf⟩ := lj_e hf
              have hP : va_P D vwCl (oMM C e0 e1 e2 e3 e4 e5 e6 e7 e8 e9 e10 e11 e12 e13 e14 e15 v17 m_held v5 m_before m_isHeld m_tape m_taped m_token m_from m_to m_value m_isWrong m_due m_firsts v25 m_rowN m_sortOf m_sizeOf m_numbers m_holdsWhat m_holdsWhich m_holdsMany m_bodies m_ran m_actKind m_actN m_actA m_isParted []) H := by rw [ev25]; exact hP
              have hD : va_D A (oMM C e0 e1 e2 e3 e4 e5 e6 e7 e8 e9 e10 e11 e12 e13 e14 e15 v17 m_held v5 m_before m_isHeld m_tape m_taped m_token m_from m_to m_value m_isWrong m_due m_firsts v25 m_rowN m_sortOf m_sizeOf m_numbers m_holdsWhat m_holdsWhich m_holdsMany m_bodies m_ran m_actKind m_actN m_actA m_isParted []) := by rw [ev25]; exact hD
              refine lv_aload_n hx hb dX6_prove_72 rfl (lv_at hl 1 rfl) ?_
              refine va_get (D := D) (ci := 6) (v := .ref e8) (C := RX6) (T := TX6) (N := 28) hx hb hts hi_RX6 hown hK hP 0 rfl rfl 14 (by decide) (hts (.fieldLink RX6 31 "TravelMarksModel" "rows" "[I") (List.mem_of_getElem? (i := 4) rfl)) (fun _ h9 => h9) rfl dX6_prove_73 ?_
              refine lv_iconst (v := 3) hx hb dX6_prove_76 rfl ?_
              refine lv_iload_n hx hb dX6_prove_77 rfl (lv_at hl 0 rfl) ?_
              refine lv_imul hx hb dX6_prove_78 ?_
              refine lv_iconst (v := 1) hx hb dX6_prove_79 rfl ?_
              refine lv_iadd hx hb dX6_prove_80 ?_
              refine lv_aload_n hx hb dX6_prove_81 rfl (lv_at hl 1 rfl) ?_
              refine lv_iload_n hx hb dX6_prove_82 rfl (lv_at hl 2 rfl) ?_
              refine lv_iconst (v := 1) hx hb dX6_prove_83 rfl ?_
              obtain ⟨r26, h27, hf⟩ := ob1_e hf
              refine kmi (w1 := (oMM C e0 e1 e2 e3 e4 e5 e6 e7 e8 e9 e10 e11 e12 e13 e14 e15 v17 m_held v5 m_before m_isHeld m_tape m_taped m_token m_from m_to m_value m_isWrong m_due m_firsts v25 m_rowN m_sortOf m_sizeOf m_numbers m_holdsWhat m_holdsWhich m_holdsMany m_bodies m_ran m_actKind m_actN m_actA m_isParted [])) (va_runV (As := [.int x0, .int 1]) (rest := [.int ((3 * i12) + 1), .ref e8]) ⟨hx, hb, hml, hown, hts⟩ (c_X6_its l E D C e0 e1 e2 e3 e4 e5 e6 e7 e8 e9 e10 e11 e12 e13 e14 e15 H.size v17 m_held v5 m_before m_isHeld m_tape m_taped m_token m_from m_to m_value m_isWrong m_due m_firsts v25 m_rowN m_sortOf m_sizeOf m_numbers m_holdsWhat m_holdsWhich m_holdsMany m_bodies m_ran m_actKind m_actN m_actA m_isParted x0 1 r26 h27) (cwV 2 hts gX6_prove_X6_its rfl rfl rfl hdX6_its ⟨Nat.le_of_ble_eq_true rfl, Nat.le_of_ble_eq_true rfl⟩) (kpreM hP hD hK hS hE hA 0 rfl rfl rfl) rfl rfl hl.1 rfl (lv_room (Nat.le_of_ble_eq_true rfl)) dX6_prove_84 ⟨Nat.zero_le _, Nat.zero_le _⟩) hP hD hS hA rfl (fun H locs hP hD hS => ?_)
              obtain ⟨hi28, hf⟩ := ckA_e hf
              refine va_iast hx hb hK hP hD hS 8 0 rfl rfl hi28 dX6_prove_87 (fun H locs hP hD hS => ?_)
              obtain ⟨v29, ev29, hf⟩ := lj_e hf
              have hP : va_P D vwCl (oMM C e0 e1 e2 e3 e4 e5 e6 e7 e8 e9 e10 e11 e12 e13 e14 e15 v17 m_held v5 m_before m_isHeld m_tape m_taped m_token m_from m_to m_value m_isWrong m_due m_firsts v29 m_rowN m_sortOf m_sizeOf m_numbers m_holdsWhat m_holdsWhich m_holdsMany m_bodies m_ran m_actKind m_actN m_actA m_isParted []) H := by rw [ev29]; exact hP
              have hD : va_D A (oMM C e0 e1 e2 e3 e4 e5 e6 e7 e8 e9 e10 e11 e12 e13 e14 e15 v17 m_held v5 m_before m_isHeld m_tape m_taped m_token m_from m_to m_value m_isWrong m_due m_firsts v29 m_rowN m_sortOf m_sizeOf m_numbers m_holdsWhat m_holdsWhich m_holdsMany m_bodies m_ran m_actKind m_actN m_actA m_isParted []) := by rw [ev29]; exact hD
              obtain ⟨t30, et30, hf⟩ := lj_e hf
              refine lv_iinc (v := t30) (lv' := [(3, .int t30), (0, .ref e0), (1, .int x0), (2, .int x1)]) hx hb dX6_prove_88 hl (k := 0) rfl (by rw [et30]; rfl) (by decide) rfl (fun ls hl => ?_)
              refine lv_goto (tgt := 35) hx hb dX6_prove_91 (by decide) ?_
              exact ih t30 v17 v29 H locs ls hP hD hS (lv_sub hl [0, 1, 2, 3] rfl) hf
        exact hL35 N 0 m_s m_rows H locs ls hP hD hS (lv_sub hl [0, 1, 2, 3] rfl) hf
      · replace hf := if_te c4 hf
        refine lv_iconst (v := (-1)) hx hb dX6_prove_20 rfl ?_
        cases hf
        exact kri hQ hAe hx hb hr hlocks hP hD hK hS dX6_prove_21
  exact main _ _ hP hD hS

def rmX6_isRow : Room := { frames := 1, cells := 0, slots := 0, locals := 25 }
theorem hdX6_isRow : yX6_isRow.cls = RX6 ∧ yX6_isRow.cls ≠ "java/lang/invoke/MethodHandle" ∧ yX6_isRow.cls ≠ "java/lang/invoke/VarHandle" ∧ (parseMethodDescriptor yX6_isRow.desc).map (fun d => d.parameters.length) = some 2 := by decide +kernel
set_option maxHeartbeats 40000000 in
set_option maxRecDepth 100000 in
theorem c_X6_isRow (l : Launch) (E : Nat → Nat) (D : va_G) (C : Nat → ClassId) (e0 e1 e2 e3 e4 e5 e6 e7 e8 e9 e10 e11 e12 e13 e14 e15 : Nat) (sz : Nat) (m_s : Nat → Int32) (m_held : Nat → Int32) (m_aside : Nat → Int32) (m_before : Nat → Int32) (m_isHeld : Int32) (m_tape : Nat → Int32) (m_taped : Int32) (m_token : Int32) (m_from : Int32) (m_to : Int32) (m_value : Int32) (m_isWrong : Int32) (m_due : Nat → Int32) (m_firsts : Nat → Int32) (m_rows : Nat → Int32) (m_rowN : Int32) (m_sortOf : Nat → Int32) (m_sizeOf : Nat → Int32) (m_numbers : Nat → Int32) (m_holdsWhat : Nat → Int32) (m_holdsWhich : Nat → Int32) (m_holdsMany : Nat → Int32) (m_bodies : Nat → Int32) (m_ran : Int32) (m_actKind : Int32) (m_actN : Int32) (m_actA : Int32) (m_isParted : Int32) (x0 : Int32) (x1 : Int32) (r : Int32) (hf : f_X6_isRow m_rowN x0 x1 = r) : Met l yX6_isRow wsX6_isRow rmX6_isRow (PC E D C [.ref e0, .int x0, .int x1] (oMM C e0 e1 e2 e3 e4 e5 e6 e7 e8 e9 e10 e11 e12 e13 e14 e15 m_s m_held m_aside m_before m_isHeld m_tape m_taped m_token m_from m_to m_value m_isWrong m_due m_firsts m_rows m_rowN m_sortOf m_sizeOf m_numbers m_holdsWhat m_holdsWhich m_holdsMany m_bodies m_ran m_actKind m_actN m_actA m_isParted []) sz) (QZ D C (oMM C e0 e1 e2 e3 e4 e5 e6 e7 e8 e9 e10 e11 e12 e13 e14 e15 m_s m_held m_aside m_before m_isHeld m_tape m_taped m_token m_from m_to m_value m_isWrong m_due m_firsts m_rows m_rowN m_sortOf m_sizeOf m_numbers m_holdsWhat m_holdsWhich m_holdsMany m_bodies m_ran m_actKind m_actN m_actA m_isParted []) (oMM C e0 e1 e2 e3 e4 e5 e6 e7 e8 e9 e10 e11 e12 e13 e14 e15 m_s m_held m_aside m_before m_isHeld m_tape m_taped m_token m_from m_to m_value m_isWrong m_due m_firsts m_rows m_rowN m_sortOf m_sizeOf m_numbers m_holdsWhat m_holdsWhich m_holdsMany m_bodies m_ran m_actKind m_actN m_actA m_isParted []) sz r) 0 0 (va_A (oMM C e0 e1 e2 e3 e4 e5 e6 e7 e8 e9 e10 e11 e12 e13 e14 e15 m_s m_held m_aside m_before m_isHeld m_tape m_taped m_token m_from m_to m_value m_isWrong m_due m_firsts m_rows m_rowN m_sortOf m_sizeOf m_numbers m_holdsWhat m_holdsWhich m_holdsMany m_bodies m_ran m_actKind m_actN m_actA m_isParted []) sz) := by
  refine Met.ofW (cc := cX6_isRow) (maxL := 3) (ret := (some .boolean)) (by decide) rfl ?_
  intro p e s m args below meth c s₁ B hml hv
  obtain ⟨rfl, hsz, hP, hK, hD0, hE⟩ := hv
  have hx := B.exec
  have hb := B.bytes
  have hr := B.returns
  have hts := atoms_spec (ws := wsX6_isRow) B.pre
  have hown : s.vm.findClass RX6 = some m.cls := findClass_of_methodNamed B.named
  have hlocks := B.notSynchronized
  subst hsz
  have hi_RX6 : ∀ w ∈ wsX60, w ∈ wsX6_isRow := fun _ h => List.mem_cons_of_mem _ (List.mem_append_right _ h)
  have hD := hD0.self (sz := s.heap.size)
  obtain ⟨A, hAe⟩ := nm_ex (va_A (oMM C e0 e1 e2 e3 e4 e5 e6 e7 e8 e9 e10 e11 e12 e13 e14 e15 m_s m_held m_aside m_before m_isHeld m_tape m_taped m_token m_from m_to m_value m_isWrong m_due m_firsts m_rows m_rowN m_sortOf m_sizeOf m_numbers m_holdsWhat m_holdsWhich m_holdsMany m_bodies m_ran m_actKind m_actN m_actA m_isParted []) s.heap.size)
  rw [← hAe] at hD hE ⊢
  have hA : ∀ q : Nat, s.heap.size ≤ q → A q := fun q h => by rw [hAe]; exact Or.inr h
  have hS : va_S A s.heap s.heap [] := va_S.rf
  have hl := lv_entry ([.ref e0, .int x0, .int x1]) (n := 3) (Nat.le_of_ble_eq_true rfl)
  rw [lg_entry_eq]
  generalize (lg_sl ([.ref e0, .int x0, .int x1]) ++ List.replicate (3 - (lg_sl ([.ref e0, .int x0, .int x1])).length) Slot.unset).toArray = ls at hl ⊢
  have hl : lv_has ls 3 [(0, .ref e0), (1, .int x0), (2, .int x1)] := hl
  obtain ⟨Q, hQ⟩ := nm_ex (MQ below (QZ D C (oMM C e0 e1 e2 e3 e4 e5 e6 e7 e8 e9 e10 e11 e12 e13 e14 e15 m_s m_held m_aside m_before m_isHeld m_tape m_taped m_token m_from m_to m_value m_isWrong m_due m_firsts m_rows m_rowN m_sortOf m_sizeOf m_numbers m_holdsWhat m_holdsWhich m_holdsMany m_bodies m_ran m_actKind m_actN m_actA m_isParted []) (oMM C e0 e1 e2 e3 e4 e5 e6 e7 e8 e9 e10 e11 e12 e13 e14 e15 m_s m_held m_aside m_before m_isHeld m_tape m_taped m_token m_from m_to m_value m_isWrong m_due m_firsts m_rows m_rowN m_sortOf m_sizeOf m_numbers m_holdsWhat m_holdsWhich m_holdsMany m_bodies m_ran m_actKind m_actN m_actA m_isParted []) s.heap.size r) (List.toArray [Value.ref e0, Value.int x0, Value.int x1]) s 0 0 A)
  show W p l e (headSpec wsX6_isRow (rmX6_isRow)).room s m (List.toArray [Value.ref e0, Value.int x0, Value.int x1]) below meth c s.heap [] 0 0 (MQ below (QZ D C (oMM C e0 e1 e2 e3 e4 e5 e6 e7 e8 e9 e10 e11 e12 e13 e14 e15 m_s m_held m_aside m_before m_isHeld m_tape m_taped m_token m_from m_to m_value m_isWrong m_due m_firsts m_rows m_rowN m_sortOf m_sizeOf m_numbers m_holdsWhat m_holdsWhich m_holdsMany m_bodies m_ran m_actKind m_actN m_actA m_isParted []) (oMM C e0 e1 e2 e3 e4 e5 e6 e7 e8 e9 e10 e11 e12 e13 e14 e15 m_s m_held m_aside m_before m_isHeld m_tape m_taped m_token m_from m_to m_value m_isWrong m_due m_firsts m_rows m_rowN m_sortOf m_sizeOf m_numbers m_holdsWhat m_holdsWhich m_holdsMany m_bodies m_ran m_actKind m_actN m_actA m_isParted []) s.heap.size r) (List.toArray [Value.ref e0, Value.int x0, Value.int x1]) s 0 0 A) _
  rw [← hQ]
  unfold f_X6_isRow at hf
  have main : ∀ (H : Heap) (locs : List Loc), va_P D vwCl (oMM C e0 e1 e2 e3 e4 e5 e6 e7 e8 e9 e10 e11 e12 e13 e14 e15 m_s m_held m_aside m_before m_isHeld m_tape m_taped m_token m_from m_to m_value m_isWrong m_due m_firsts m_rows m_rowN m_sortOf m_sizeOf m_numbers m_holdsWhat m_holdsWhich m_holdsMany m_bodies m_ran m_actKind m_actN m_actA m_isParted []) H → va_D A (oMM C e0 e1 e2 e3 e4 e5 e6 e7 e8 e9 e10 e11 e12 e13 e14 e15 m_s m_held m_aside m_before m_isHeld m_tape m_taped m_token m_from m_to m_value m_isWrong m_due m_firsts m_rows m_rowN m_sortOf m_sizeOf m_numbers m_holdsWhat m_holdsWhich m_holdsMany m_bodies m_ran m_actKind m_actN m_actA m_isParted []) → va_S A s.heap H locs → W p l e (headSpec wsX6_isRow (rmX6_isRow)).room s m (List.toArray [Value.ref e0, Value.int x0, Value.int x1]) below meth c H locs 0 0 Q (F0 m 0 ls []) := by
    intro H locs hP hD hS
    refine lv_iload_n hx hb dX6_isRow_0 rfl (lv_at hl 1 rfl) ?_
    refine lv_i2l hx hb dX6_isRow_1 rfl ?_
    refine lv_lconst (v := 0) hx hb dX6_isRow_2 rfl ?_
    refine lv_aload_n hx hb dX6_isRow_3 rfl (lv_at hl 0 rfl) ?_
    refine va_get (D := D) (ci := 6) (v := .int m_rowN) (C := RX6) (T := TX6) (N := 28) hx hb hts hi_RX6 hown hK hP 0 rfl rfl 15 (by decide) (hts (.fieldLink RX6 153 "TravelMarksModel" "rowN" "I") (List.mem_of_getElem? (i := 1) rfl)) (fun _ h9 => h9) rfl dX6_isRow_4 ?_
    refine lv_iconst (v := 1) hx hb dX6_isRow_7 rfl ?_
    refine lv_isub hx hb dX6_isRow_8 ?_
    refine lv_i2l hx hb dX6_isRow_9 rfl ?_
    refine kcz (Wx := (oMM C e0 e1 e2 e3 e4 e5 e6 e7 e8 e9 e10 e11 e12 e13 e14 e15 m_s m_held m_aside m_before m_isHeld m_tape m_taped m_token m_from m_to m_value m_isWrong m_due m_firsts m_rows m_rowN m_sortOf m_sizeOf m_numbers m_holdsWhat m_holdsWhich m_holdsMany m_bodies m_ran m_actKind m_actN m_actA m_isParted [])) (va_runS (As := [.long (Int32.toInt64 x0), .long 0, .long (Int32.toInt64 (m_rowN - 1))]) (rest := []) ⟨hx, hb, hml, hown, hts⟩ (c_X6_isIn l E D C H.size (Int32.toInt64 x0) 0 (Int32.toInt64 (m_rowN - 1)) _ rfl) (va_cwS 3 hts gX6_isRow_X6_isIn rfl rfl rfl hdX6_isIn ⟨Nat.le_of_ble_eq_true rfl, Nat.le_of_ble_eq_true rfl⟩) (kpre hP hD hK hS hE hA [] rfl rfl) rfl rfl hl.1 rfl (lv_room (Nat.le_of_ble_eq_true rfl)) dX6_isRow_10 ⟨Nat.zero_le _, Nat.zero_le _⟩) hP hD hS hA [] rfl rfl rfl (fun H locs hz1 hP hD hS => ?_)
    refine lv_if_eq (tgt := 32) hx hb dX6_isRow_13 (by decide) (fun c2 => ?_) (fun c2 => ?_)
    · replace hf := if_te c2 hf
      refine lv_iconst (v := 0) hx hb dX6_isRow_32 rfl ?_
      cases hf
      exact krz hQ hAe hx hb hr hlocks zb_0 hP hD hK hS dX6_isRow_33
    · replace hf := if_fe c2 hf
      refine lv_iload_n hx hb dX6_isRow_16 rfl (lv_at hl 2 rfl) ?_
      refine lv_i2l hx hb dX6_isRow_17 rfl ?_
      refine lv_lconst (v := 0) hx hb dX6_isRow_18 rfl ?_
      refine lv_ldc2 (v := 2) hx hb hown (hts (.constantLong RX6 276 (2)) (List.mem_of_getElem? (i := 2) rfl)) dX6_isRow_19 ?_
      refine kcz (Wx := (oMM C e0 e1 e2 e3 e4 e5 e6 e7 e8 e9 e10 e11 e12 e13 e14 e15 m_s m_held m_aside m_before m_isHeld m_tape m_taped m_token m_from m_to m_value m_isWrong m_due m_firsts m_rows m_rowN m_sortOf m_sizeOf m_numbers m_holdsWhat m_holdsWhich m_holdsMany m_bodies m_ran m_actKind m_actN m_actA m_isParted [])) (va_runS (As := [.long (Int32.toInt64 x1), .long 0, .long 2]) (rest := []) ⟨hx, hb, hml, hown, hts⟩ (c_X6_isIn l E D C H.size (Int32.toInt64 x1) 0 2 _ rfl) (va_cwS 3 hts gX6_isRow_X6_isIn rfl rfl rfl hdX6_isIn ⟨Nat.le_of_ble_eq_true rfl, Nat.le_of_ble_eq_true rfl⟩) (kpre hP hD hK hS hE hA [] rfl rfl) rfl rfl hl.1 rfl (lv_room (Nat.le_of_ble_eq_true rfl)) dX6_isRow_22 ⟨Nat.zero_le _, Nat.zero_le _⟩) hP hD hS hA [] rfl rfl rfl (fun H locs hz3 hP hD hS => ?_)
      refine lv_if_eq (tgt := 32) hx hb dX6_isRow_25 (by decide) (fun c4 => ?_) (fun c4 => ?_)
      · replace hf := if_te c4 hf
        refine lv_iconst (v := 0) hx hb dX6_isRow_32 rfl ?_
        cases hf
        exact krz hQ hAe hx hb hr hlocks zb_0 hP hD hK hS dX6_isRow_33
      · replace hf := if_fe c4 hf
        refine lv_iconst (v := 1) hx hb dX6_isRow_28 rfl ?_
        refine lv_goto (tgt := 33) hx hb dX6_isRow_29 (by decide) ?_
        cases hf
        exact krz hQ hAe hx hb hr hlocks zb_1 hP hD hK hS dX6_isRow_33
  exact main _ _ hP hD hS

def rmX6_row : Room := { frames := 2, cells := 0, slots := 0, locals := 47 }
theorem hdX6_row : yX6_row.cls = RX6 ∧ yX6_row.cls ≠ "java/lang/invoke/MethodHandle" ∧ yX6_row.cls ≠ "java/lang/invoke/VarHandle" ∧ (parseMethodDescriptor yX6_row.desc).map (fun d => d.parameters.length) = some 2 := by decide +kernel
set_option maxHeartbeats 40000000 in
set_option maxRecDepth 100000 in
theorem c_X6_row (l : Launch) (E : Nat → Nat) (D : va_G) (C : Nat → ClassId) (e0 e1 e2 e3 e4 e5 e6 e7 e8 e9 e10 e11 e12 e13 e14 e15 : Nat) (sz : Nat) (m_s : Nat → Int32) (m_held : Nat → Int32) (m_aside : Nat → Int32) (m_before : Nat → Int32) (m_isHeld : Int32) (m_tape : Nat → Int32) (m_taped : Int32) (m_token : Int32) (m_from : Int32) (m_to : Int32) (m_value : Int32) (m_isWrong : Int32) (m_due : Nat → Int32) (m_firsts : Nat → Int32) (m_rows : Nat → Int32) (m_rowN : Int32) (m_sortOf : Nat → Int32) (m_sizeOf : Nat → Int32) (m_numbers : Nat → Int32) (m_holdsWhat : Nat → Int32) (m_holdsWhich : Nat → Int32) (m_holdsMany : Nat → Int32) (m_bodies : Nat → Int32) (m_ran : Int32) (m_actKind : Int32) (m_actN : Int32) (m_actA : Int32) (m_isParted : Int32) (x0 : Int32) (x1 : Int32) (r : Int32) (hf : f_X6_row m_rows m_rowN x0 x1 = some r) : Met l yX6_row wsX6_row rmX6_row (PC E D C [.ref e0, .int x0, .int x1] (oMM C e0 e1 e2 e3 e4 e5 e6 e7 e8 e9 e10 e11 e12 e13 e14 e15 m_s m_held m_aside m_before m_isHeld m_tape m_taped m_token m_from m_to m_value m_isWrong m_due m_firsts m_rows m_rowN m_sortOf m_sizeOf m_numbers m_holdsWhat m_holdsWhich m_holdsMany m_bodies m_ran m_actKind m_actN m_actA m_isParted []) sz) (QI D C (oMM C e0 e1 e2 e3 e4 e5 e6 e7 e8 e9 e10 e11 e12 e13 e14 e15 m_s m_held m_aside m_before m_isHeld m_tape m_taped m_token m_from m_to m_value m_isWrong m_due m_firsts m_rows m_rowN m_sortOf m_sizeOf m_numbers m_holdsWhat m_holdsWhich m_holdsMany m_bodies m_ran m_actKind m_actN m_actA m_isParted []) (oMM C e0 e1 e2 e3 e4 e5 e6 e7 e8 e9 e10 e11 e12 e13 e14 e15 m_s m_held m_aside m_before m_isHeld m_tape m_taped m_token m_from m_to m_value m_isWrong m_due m_firsts m_rows m_rowN m_sortOf m_sizeOf m_numbers m_holdsWhat m_holdsWhich m_holdsMany m_bodies m_ran m_actKind m_actN m_actA m_isParted []) sz r) 0 0 (va_A (oMM C e0 e1 e2 e3 e4 e5 e6 e7 e8 e9 e10 e11 e12 e13 e14 e15 m_s m_held m_aside m_before m_isHeld m_tape m_taped m_token m_from m_to m_value m_isWrong m_due m_firsts m_rows m_rowN m_sortOf m_sizeOf m_numbers m_holdsWhat m_holdsWhich m_holdsMany m_bodies m_ran m_actKind m_actN m_actA m_isParted []) sz) := by
  refine Met.ofW (cc := cX6_row) (maxL := 3) (ret := (some .int)) (by decide) rfl ?_
  intro p e s m args below meth c s₁ B hml hv
  obtain ⟨rfl, hsz, hP, hK, hD0, hE⟩ := hv
  have hx := B.exec
  have hb := B.bytes
  have hr := B.returns
  have hts := atoms_spec (ws := wsX6_row) B.pre
  have hown : s.vm.findClass RX6 = some m.cls := findClass_of_methodNamed B.named
  have hlocks := B.notSynchronized
  subst hsz
  have hi_RX6 : ∀ w ∈ wsX60, w ∈ wsX6_row := fun _ h => List.mem_cons_of_mem _ (List.mem_append_right _ h)
  have hD := hD0.self (sz := s.heap.size)
  obtain ⟨A, hAe⟩ := nm_ex (va_A (oMM C e0 e1 e2 e3 e4 e5 e6 e7 e8 e9 e10 e11 e12 e13 e14 e15 m_s m_held m_aside m_before m_isHeld m_tape m_taped m_token m_from m_to m_value m_isWrong m_due m_firsts m_rows m_rowN m_sortOf m_sizeOf m_numbers m_holdsWhat m_holdsWhich m_holdsMany m_bodies m_ran m_actKind m_actN m_actA m_isParted []) s.heap.size)
  rw [← hAe] at hD hE ⊢
  have hA : ∀ q : Nat, s.heap.size ≤ q → A q := fun q h => by rw [hAe]; exact Or.inr h
  have hS : va_S A s.heap s.heap [] := va_S.rf
  have hl := lv_entry ([.ref e0, .int x0, .int x1]) (n := 3) (Nat.le_of_ble_eq_true rfl)
  rw [lg_entry_eq]
  generalize (lg_sl ([.ref e0, .int x0, .int x1]) ++ List.replicate (3 - (lg_sl ([.ref e0, .int x0, .int x1])).length) Slot.unset).toArray = ls at hl ⊢
  have hl : lv_has ls 3 [(0, .ref e0), (1, .int x0), (2, .int x1)] := hl
  obtain ⟨Q, hQ⟩ := nm_ex (MQ below (QI D C (oMM C e0 e1 e2 e3 e4 e5 e6 e7 e8 e9 e10 e11 e12 e13 e14 e15 m_s m_held m_aside m_before m_isHeld m_tape m_taped m_token m_from m_to m_value m_isWrong m_due m_firsts m_rows m_rowN m_sortOf m_sizeOf m_numbers m_holdsWhat m_holdsWhich m_holdsMany m_bodies m_ran m_actKind m_actN m_actA m_isParted []) (oMM C e0 e1 e2 e3 e4 e5 e6 e7 e8 e9 e10 e11 e12 e13 e14 e15 m_s m_held m_aside m_before m_isHeld m_tape m_taped m_token m_from m_to m_value m_isWrong m_due m_firsts m_rows m_rowN m_sortOf m_sizeOf m_numbers m_holdsWhat m_holdsWhich m_holdsMany m_bodies m_ran m_actKind m_actN m_actA m_isParted []) s.heap.size r) (List.toArray [Value.ref e0, Value.int x0, Value.int x1]) s 0 0 A)
  show W p l e (headSpec wsX6_row (rmX6_row)).room s m (List.toArray [Value.ref e0, Value.int x0, Value.int x1]) below meth c s.heap [] 0 0 (MQ below (QI D C (oMM C e0 e1 e2 e3 e4 e5 e6 e7 e8 e9 e10 e11 e12 e13 e14 e15 m_s m_held m_aside m_before m_isHeld m_tape m_taped m_token m_from m_to m_value m_isWrong m_due m_firsts m_rows m_rowN m_sortOf m_sizeOf m_numbers m_holdsWhat m_holdsWhich m_holdsMany m_bodies m_ran m_actKind m_actN m_actA m_isParted []) (oMM C e0 e1 e2 e3 e4 e5 e6 e7 e8 e9 e10 e11 e12 e13 e14 e15 m_s m_held m_aside m_before m_isHeld m_tape m_taped m_token m_from m_to m_value m_isWrong m_due m_firsts m_rows m_rowN m_sortOf m_sizeOf m_numbers m_holdsWhat m_holdsWhich m_holdsMany m_bodies m_ran m_actKind m_actN m_actA m_isParted []) s.heap.size r) (List.toArray [Value.ref e0, Value.int x0, Value.int x1]) s 0 0 A) _
  rw [← hQ]
  unfold f_X6_row at hf
  have main : ∀ (H : Heap) (locs : List Loc), va_P D vwCl (oMM C e0 e1 e2 e3 e4 e5 e6 e7 e8 e9 e10 e11 e12 e13 e14 e15 m_s m_held m_aside m_before m_isHeld m_tape m_taped m_token m_from m_to m_value m_isWrong m_due m_firsts m_rows m_rowN m_sortOf m_sizeOf m_numbers m_holdsWhat m_holdsWhich m_holdsMany m_bodies m_ran m_actKind m_actN m_actA m_isParted []) H → va_D A (oMM C e0 e1 e2 e3 e4 e5 e6 e7 e8 e9 e10 e11 e12 e13 e14 e15 m_s m_held m_aside m_before m_isHeld m_tape m_taped m_token m_from m_to m_value m_isWrong m_due m_firsts m_rows m_rowN m_sortOf m_sizeOf m_numbers m_holdsWhat m_holdsWhich m_holdsMany m_bodies m_ran m_actKind m_actN m_actA m_isParted []) → va_S A s.heap H locs → W p l e (headSpec wsX6_row (rmX6_row)).room s m (List.toArray [Value.ref e0, Value.int x0, Value.int x1]) below meth c H locs 0 0 Q (F0 m 0 ls []) := by
    intro H locs hP hD hS
    refine lv_aload_n hx hb dX6_row_0 rfl (lv_at hl 0 rfl) ?_
    refine lv_iload_n hx hb dX6_row_1 rfl (lv_at hl 1 rfl) ?_
    refine lv_iload_n hx hb dX6_row_2 rfl (lv_at hl 2 rfl) ?_
    refine kmz (w1 := (oMM C e0 e1 e2 e3 e4 e5 e6 e7 e8 e9 e10 e11 e12 e13 e14 e15 m_s m_held m_aside m_before m_isHeld m_tape m_taped m_token m_from m_to m_value m_isWrong m_due m_firsts m_rows m_rowN m_sortOf m_sizeOf m_numbers m_holdsWhat m_holdsWhich m_holdsMany m_bodies m_ran m_actKind m_actN m_actA m_isParted [])) (va_runV (As := [.int x0, .int x1]) (rest := []) ⟨hx, hb, hml, hown, hts⟩ (c_X6_isRow l E D C e0 e1 e2 e3 e4 e5 e6 e7 e8 e9 e10 e11 e12 e13 e14 e15 H.size m_s m_held m_aside m_before m_isHeld m_tape m_taped m_token m_from m_to m_value m_isWrong m_due m_firsts m_rows m_rowN m_sortOf m_sizeOf m_numbers m_holdsWhat m_holdsWhich m_holdsMany m_bodies m_ran m_actKind m_actN m_actA m_isParted x0 x1 _ rfl) (cwV 2 hts gX6_row_X6_isRow rfl rfl rfl hdX6_isRow ⟨Nat.le_of_ble_eq_true rfl, Nat.le_of_ble_eq_true rfl⟩) (kpreM hP hD hK hS hE hA 0 rfl rfl rfl) rfl rfl hl.1 rfl (lv_room (Nat.le_of_ble_eq_true rfl)) dX6_row_3 ⟨Nat.zero_le _, Nat.zero_le _⟩) hP hD hS hA rfl (fun H locs hz1 hP hD hS => ?_)
    refine lv_if_eq (tgt := 22) hx hb dX6_row_6 (by decide) (fun c2 => ?_) (fun c2 => ?_)
    · replace hf := if_te c2 hf
      refine lv_bipush (v := (-9)) hx hb dX6_row_22 rfl ?_
      cases hf
      exact kri hQ hAe hx hb hr hlocks hP hD hK hS dX6_row_24
    · replace hf := if_fe c2 hf
      refine lv_aload_n hx hb dX6_row_9 rfl (lv_at hl 0 rfl) ?_
      refine va_get (D := D) (ci := 6) (v := .ref e8) (C := RX6) (T := TX6) (N := 28) hx hb hts hi_RX6 hown hK hP 0 rfl rfl 14 (by decide) (hts (.fieldLink RX6 31 "TravelMarksModel" "rows" "[I") (List.mem_of_getElem? (i := 1) rfl)) (fun _ h9 => h9) rfl dX6_row_10 ?_
      refine lv_iconst (v := 3) hx hb dX6_row_13 rfl ?_
      refine lv_iload_n hx hb dX6_row_14 rfl (lv_at hl 1 rfl) ?_
      refine lv_imul hx hb dX6_row_15 ?_
      refine lv_iload_n hx hb dX6_row_16 rfl (lv_at hl 2 rfl) ?_
      refine lv_iadd hx hb dX6_row_17 ?_
      obtain ⟨y4, ey4, hi3, hf⟩ := rdA_x hf
      refine va_iald hx hb hK hP 8 0 rfl rfl hi3 dX6_row_18 ?_
      refine lv_ren ey4 ?_
      refine lv_goto (tgt := 24) hx hb dX6_row_19 (by decide) ?_
      cases hf
      exact kri hQ hAe hx hb hr hlocks hP hD hK hS dX6_row_24
  exact main _ _ hP hD hS

def rmX6_alterRow : Room := { frames := 2, cells := 0, slots := 0, locals := 47 }
theorem hdX6_alterRow : yX6_alterRow.cls = RX6 ∧ yX6_alterRow.cls ≠ "java/lang/invoke/MethodHandle" ∧ yX6_alterRow.cls ≠ "java/lang/invoke/VarHandle" ∧ (parseMethodDescriptor yX6_alterRow.desc).map (fun d => d.parameters.length) = some 3 := by decide +kernel
set_option maxHeartbeats 40000000 in
set_option maxRecDepth 100000 in
theorem c_X6_alterRow (l : Launch) (E : Nat → Nat) (D : va_G) (C : Nat → ClassId) (e0 e1 e2 e3 e4 e5 e6 e7 e8 e9 e10 e11 e12 e13 e14 e15 : Nat) (sz : Nat) (m_s : Nat → Int32) (m_held : Nat → Int32) (m_aside : Nat → Int32) (m_before : Nat → Int32) (m_isHeld : Int32) (m_tape : Nat → Int32) (m_taped : Int32) (m_token : Int32) (m_from : Int32) (m_to : Int32) (m_value : Int32) (m_isWrong : Int32) (m_due : Nat → Int32) (m_firsts : Nat → Int32) (m_rows : Nat → Int32) (m_rowN : Int32) (m_sortOf : Nat → Int32) (m_sizeOf : Nat → Int32) (m_numbers : Nat → Int32) (m_holdsWhat : Nat → Int32) (m_holdsWhich : Nat → Int32) (m_holdsMany : Nat → Int32) (m_bodies : Nat → Int32) (m_ran : Int32) (m_actKind : Int32) (m_actN : Int32) (m_actA : Int32) (m_isParted : Int32) (x0 : Int32) (x1 : Int32) (x2 : Int32) (r : Int32) (m_rows' : Nat → Int32) (hf : f_X6_alterRow m_rows m_rowN x0 x1 x2 = some (r, m_rows')) : Met l yX6_alterRow wsX6_alterRow rmX6_alterRow (PC E D C [.ref e0, .int x0, .int x1, .int x2] (oMM C e0 e1 e2 e3 e4 e5 e6 e7 e8 e9 e10 e11 e12 e13 e14 e15 m_s m_held m_aside m_before m_isHeld m_tape m_taped m_token m_from m_to m_value m_isWrong m_due m_firsts m_rows m_rowN m_sortOf m_sizeOf m_numbers m_holdsWhat m_holdsWhich m_holdsMany m_bodies m_ran m_actKind m_actN m_actA m_isParted []) sz) (QI D C (oMM C e0 e1 e2 e3 e4 e5 e6 e7 e8 e9 e10 e11 e12 e13 e14 e15 m_s m_held m_aside m_before m_isHeld m_tape m_taped m_token m_from m_to m_value m_isWrong m_due m_firsts m_rows m_rowN m_sortOf m_sizeOf m_numbers m_holdsWhat m_holdsWhich m_holdsMany m_bodies m_ran m_actKind m_actN m_actA m_isParted []) (oMM C e0 e1 e2 e3 e4 e5 e6 e7 e8 e9 e10 e11 e12 e13 e14 e15 m_s m_held m_aside m_before m_isHeld m_tape m_taped m_token m_from m_to m_value m_isWrong m_due m_firsts (m_rows') m_rowN m_sortOf m_sizeOf m_numbers m_holdsWhat m_holdsWhich m_holdsMany m_bodies m_ran m_actKind m_actN m_actA m_isParted []) sz r) 0 0 (va_A (oMM C e0 e1 e2 e3 e4 e5 e6 e7 e8 e9 e10 e11 e12 e13 e14 e15 m_s m_held m_aside m_before m_isHeld m_tape m_taped m_token m_from m_to m_value m_isWrong m_due m_firsts m_rows m_rowN m_sortOf m_sizeOf m_numbers m_holdsWhat m_holdsWhich m_holdsMany m_bodies m_ran m_actKind m_actN m_actA m_isParted []) sz) := by
  refine Met.ofW (cc := cX6_alterRow) (maxL := 5) (ret := (some .int)) (by decide) rfl ?_
  intro p e s m args below meth c s₁ B hml hv
  obtain ⟨rfl, hsz, hP, hK, hD0, hE⟩ := hv
  have hx := B.exec
  have hb := B.bytes
  have hr := B.returns
  have hts := atoms_spec (ws := wsX6_alterRow) B.pre
  have hown : s.vm.findClass RX6 = some m.cls := findClass_of_methodNamed B.named
  have hlocks := B.notSynchronized
  subst hsz
  have hi_RX6 : ∀ w ∈ wsX60, w ∈ wsX6_alterRow := fun _ h => List.mem_cons_of_mem _ (List.mem_append_right _ h)
  have hD := hD0.self (sz := s.heap.size)
  obtain ⟨A, hAe⟩ := nm_ex (va_A (oMM C e0 e1 e2 e3 e4 e5 e6 e7 e8 e9 e10 e11 e12 e13 e14 e15 m_s m_held m_aside m_before m_isHeld m_tape m_taped m_token m_from m_to m_value m_isWrong m_due m_firsts m_rows m_rowN m_sortOf m_sizeOf m_numbers m_holdsWhat m_holdsWhich m_holdsMany m_bodies m_ran m_actKind m_actN m_actA m_isParted []) s.heap.size)
  rw [← hAe] at hD hE ⊢
  have hA : ∀ q : Nat, s.heap.size ≤ q → A q := fun q h => by rw [hAe]; exact Or.inr h
  have hS : va_S A s.heap s.heap [] := va_S.rf
  have hl := lv_entry ([.ref e0, .int x0, .int x1, .int x2]) (n := 5) (Nat.le_of_ble_eq_true rfl)
  rw [lg_entry_eq]
  generalize (lg_sl ([.ref e0, .int x0, .int x1, .int x2]) ++ List.replicate (5 - (lg_sl ([.ref e0, .int x0, .int x1, .int x2])).length) Slot.unset).toArray = ls at hl ⊢
  have hl : lv_has ls 5 [(0, .ref e0), (1, .int x0), (2, .int x1), (3, .int x2)] := hl
  obtain ⟨Q, hQ⟩ := nm_ex (MQ below (QI D C (oMM C e0 e1 e2 e3 e4 e5 e6 e7 e8 e9 e10 e11 e12 e13 e14 e15 m_s m_held m_aside m_before m_isHeld m_tape m_taped m_token m_from m_to m_value m_isWrong m_due m_firsts m_rows m_rowN m_sortOf m_sizeOf m_numbers m_holdsWhat m_holdsWhich m_holdsMany m_bodies m_ran m_actKind m_actN m_actA m_isParted []) (oMM C e0 e1 e2 e3 e4 e5 e6 e7 e8 e9 e10 e11 e12 e13 e14 e15 m_s m_held m_aside m_before m_isHeld m_tape m_taped m_token m_from m_to m_value m_isWrong m_due m_firsts (m_rows') m_rowN m_sortOf m_sizeOf m_numbers m_holdsWhat m_holdsWhich m_holdsMany m_bodies m_ran m_actKind m_actN m_actA m_isParted []) s.heap.size r) (List.toArray [Value.ref e0, Value.int x0, Value.int x1, Value.int x2]) s 0 0 A)
  show W p l e (headSpec wsX6_alterRow (rmX6_alterRow)).room s m (List.toArray [Value.ref e0, Value.int x0, Value.int x1, Value.int x2]) below meth c s.heap [] 0 0 (MQ below (QI D C (oMM C e0 e1 e2 e3 e4 e5 e6 e7 e8 e9 e10 e11 e12 e13 e14 e15 m_s m_held m_aside m_before m_isHeld m_tape m_taped m_token m_from m_to m_value m_isWrong m_due m_firsts m_rows m_rowN m_sortOf m_sizeOf m_numbers m_holdsWhat m_holdsWhich m_holdsMany m_bodies m_ran m_actKind m_actN m_actA m_isParted []) (oMM C e0 e1 e2 e3 e4 e5 e6 e7 e8 e9 e10 e11 e12 e13 e14 e15 m_s m_held m_aside m_before m_isHeld m_tape m_taped m_token m_from m_to m_value m_isWrong m_due m_firsts (m_rows') m_rowN m_sortOf m_sizeOf m_numbers m_holdsWhat m_holdsWhich m_holdsMany m_bodies m_ran m_actKind m_actN m_actA m_isParted []) s.heap.size r) (List.toArray [Value.ref e0, Value.int x0, Value.int x1, Value.int x2]) s 0 0 A) _
  rw [← hQ]
  unfold f_X6_alterRow at hf
  have main : ∀ (H : Heap) (locs : List Loc), va_P D vwCl (oMM C e0 e1 e2 e3 e4 e5 e6 e7 e8 e9 e10 e11 e12 e13 e14 e15 m_s m_held m_aside m_before m_isHeld m_tape m_taped m_token m_from m_to m_value m_isWrong m_due m_firsts m_rows m_rowN m_sortOf m_sizeOf m_numbers m_holdsWhat m_holdsWhich m_holdsMany m_bodies m_ran m_actKind m_actN m_actA m_isParted []) H → va_D A (oMM C e0 e1 e2 e3 e4 e5 e6 e7 e8 e9 e10 e11 e12 e13 e14 e15 m_s m_held m_aside m_before m_isHeld m_tape m_taped m_token m_from m_to m_value m_isWrong m_due m_firsts m_rows m_rowN m_sortOf m_sizeOf m_numbers m_holdsWhat m_holdsWhich m_holdsMany m_bodies m_ran m_actKind m_actN m_actA m_isParted []) → va_S A s.heap H locs → W p l e (headSpec wsX6_alterRow (rmX6_alterRow)).room s m (List.toArray [Value.ref e0, Value.int x0, Value.int x1, Value.int x2]) below meth c H locs 0 0 Q (F0 m 0 ls []) := by
    intro H locs hP hD hS
    refine lv_aload_n hx hb dX6_alterRow_0 rfl (lv_at hl 0 rfl) ?_
    refine lv_iload_n hx hb dX6_alterRow_1 rfl (lv_at hl 1 rfl) ?_
    refine lv_iload_n hx hb dX6_alterRow_2 rfl (lv_at hl 2 rfl) ?_
    refine kmz (w1 := (oMM C e0 e1 e2 e3 e4 e5 e6 e7 e8 e9 e10 e11 e12 e13 e14 e15 m_s m_held m_aside m_before m_isHeld m_tape m_taped m_token m_from m_to m_value m_isWrong m_due m_firsts m_rows m_rowN m_sortOf m_sizeOf m_numbers m_holdsWhat m_holdsWhich m_holdsMany m_bodies m_ran m_actKind m_actN m_actA m_isParted [])) (va_runV (As := [.int x0, .int x1]) (rest := []) ⟨hx, hb, hml, hown, hts⟩ (c_X6_isRow l E D C e0 e1 e2 e3 e4 e5 e6 e7 e8 e9 e10 e11 e12 e13 e14 e15 H.size m_s m_held m_aside m_before m_isHeld m_tape m_taped m_token m_from m_to m_value m_isWrong m_due m_firsts m_rows m_rowN m_sortOf m_sizeOf m_numbers m_holdsWhat m_holdsWhich m_holdsMany m_bodies m_ran m_actKind m_actN m_actA m_isParted x0 x1 _ rfl) (cwV 2 hts gX6_alterRow_X6_isRow rfl rfl rfl hdX6_isRow ⟨Nat.le_of_ble_eq_true rfl, Nat.le_of_ble_eq_true rfl⟩) (kpreM hP hD hK hS hE hA 0 rfl rfl rfl) rfl rfl hl.1 rfl (lv_room (Nat.le_of_ble_eq_true rfl)) dX6_alterRow_3 ⟨Nat.zero_le _, Nat.zero_le _⟩) hP hD hS hA rfl (fun H locs hz1 hP hD hS => ?_)
    refine lv_if_ne (tgt := 12) hx hb dX6_alterRow_6 (by decide) (fun c2 => ?_) (fun c2 => ?_)
    · replace hf := if_fe c2 hf
      refine lv_aload_n hx hb dX6_alterRow_12 rfl (lv_at hl 0 rfl) ?_
      refine va_get (D := D) (ci := 6) (v := .ref e8) (C := RX6) (T := TX6) (N := 28) hx hb hts hi_RX6 hown hK hP 0 rfl rfl 14 (by decide) (hts (.fieldLink RX6 31 "TravelMarksModel" "rows" "[I") (List.mem_of_getElem? (i := 1) rfl)) (fun _ h9 => h9) rfl dX6_alterRow_13 ?_
      refine lv_iconst (v := 3) hx hb dX6_alterRow_16 rfl ?_
      refine lv_iload_n hx hb dX6_alterRow_17 rfl (lv_at hl 1 rfl) ?_
      refine lv_imul hx hb dX6_alterRow_18 ?_
      refine lv_iload_n hx hb dX6_alterRow_19 rfl (lv_at hl 2 rfl) ?_
      refine lv_iadd hx hb dX6_alterRow_20 ?_
      obtain ⟨y4, ey4, hi3, hf⟩ := rdA_x hf
      refine va_iald hx hb hK hP 8 0 rfl rfl hi3 dX6_alterRow_21 ?_
      refine lv_ren ey4 ?_
      refine lv_istore (lv' := [(4, .int y4), (0, .ref e0), (1, .int x0), (2, .int x1), (3, .int x2)]) hx hb dX6_alterRow_22 hl (by decide) rfl (fun ls hl => ?_)
      refine lv_aload_n hx hb dX6_alterRow_24 rfl (lv_at hl 1 rfl) ?_
      refine va_get (D := D) (ci := 6) (v := .ref e8) (C := RX6) (T := TX6) (N := 28) hx hb hts hi_RX6 hown hK hP 0 rfl rfl 14 (by decide) (hts (.fieldLink RX6 31 "TravelMarksModel" "rows" "[I") (List.mem_of_getElem? (i := 1) rfl)) (fun _ h9 => h9) rfl dX6_alterRow_25 ?_
      refine lv_iconst (v := 3) hx hb dX6_alterRow_28 rfl ?_
      refine lv_iload_n hx hb dX6_alterRow_29 rfl (lv_at hl 2 rfl) ?_
      refine lv_imul hx hb dX6_alterRow_30 ?_
      refine lv_iload_n hx hb dX6_alterRow_31 rfl (lv_at hl 3 rfl) ?_
      refine lv_iadd hx hb dX6_alterRow_32 ?_
      refine lv_iload_n hx hb dX6_alterRow_33 rfl (lv_at hl 4 rfl) ?_
      obtain ⟨hi5, hf⟩ := ckA_e hf
      refine va_iast hx hb hK hP hD hS 8 0 rfl rfl hi5 dX6_alterRow_34 (fun H locs hP hD hS => ?_)
      obtain ⟨v6, ev6, hf⟩ := lj_e hf
      have hP : va_P D vwCl (oMM C e0 e1 e2 e3 e4 e5 e6 e7 e8 e9 e10 e11 e12 e13 e14 e15 m_s m_held m_aside m_before m_isHeld m_tape m_taped m_token m_from m_to m_value m_isWrong m_due m_firsts v6 m_rowN m_sortOf m_sizeOf m_numbers m_holdsWhat m_holdsWhich m_holdsMany m_bodies m_ran m_actKind m_actN m_actA m_isParted []) H := by rw [ev6]; exact hP
      have hD : va_D A (oMM C e0 e1 e2 e3 e4 e5 e6 e7 e8 e9 e10 e11 e12 e13 e14 e15 m_s m_held m_aside m_before m_isHeld m_tape m_taped m_token m_from m_to m_value m_isWrong m_due m_firsts v6 m_rowN m_sortOf m_sizeOf m_numbers m_holdsWhat m_holdsWhich m_holdsMany m_bodies m_ran m_actKind m_actN m_actA m_isParted []) := by rw [ev6]; exact hD
      refine lv_iload hx hb dX6_alterRow_35 (lv_at hl 0 rfl) ?_
      cases hf
      exact kri hQ hAe hx hb hr hlocks hP hD hK hS dX6_alterRow_37
    · replace hf := if_te c2 hf
      refine lv_bipush (v := (-9)) hx hb dX6_alterRow_9 rfl ?_
      cases hf
      exact kri hQ hAe hx hb hr hlocks hP hD hK hS dX6_alterRow_11
  exact main _ _ hP hD hS

def rmX6_judge : Room := { frames := 6, cells := 0, slots := 0, locals := 142 }
theorem hdX6_judge : yX6_judge.cls = RX6 ∧ yX6_judge.cls ≠ "java/lang/invoke/MethodHandle" ∧ yX6_judge.cls ≠ "java/lang/invoke/VarHandle" ∧ (parseMethodDescriptor yX6_judge.desc).map (fun d => d.parameters.length) = some 1 := by decide +kernel
set_option maxHeartbeats 40000000 in
set_option maxRecDepth 100000 in
theorem c_X6_judge (l : Launch) (E : Nat → Nat) (D : va_G) (C : Nat → ClassId) (e0 e1 e2 e3 e4 e5 e6 e7 e8 e9 e10 e11 e12 e13 e14 e15 : Nat) (sz : Nat) (N : Nat) (m_s : Nat → Int32) (m_held : Nat → Int32) (m_aside : Nat → Int32) (m_before : Nat → Int32) (m_isHeld : Int32) (m_tape : Nat → Int32) (m_taped : Int32) (m_token : Int32) (m_from : Int32) (m_to : Int32) (m_value : Int32) (m_isWrong : Int32) (m_due : Nat → Int32) (m_firsts : Nat → Int32) (m_rows : Nat → Int32) (m_rowN : Int32) (m_sortOf : Nat → Int32) (m_sizeOf : Nat → Int32) (m_numbers : Nat → Int32) (m_holdsWhat : Nat → Int32) (m_holdsWhich : Nat → Int32) (m_holdsMany : Nat → Int32) (m_bodies : Nat → Int32) (m_ran : Int32) (m_actKind : Int32) (m_actN : Int32) (m_actA : Int32) (m_isParted : Int32) (x0 : Int32) (r : Int32) (m_s' : Nat → Int32) (m_aside' : Nat → Int32) (hf : f_X6_judge N m_s m_aside m_rows m_rowN x0 = some (r, m_s', m_aside')) : Met l yX6_judge wsX6_judge rmX6_judge (PC E D C [.ref e0, .int x0] (oMM C e0 e1 e2 e3 e4 e5 e6 e7 e8 e9 e10 e11 e12 e13 e14 e15 m_s m_held m_aside m_before m_isHeld m_tape m_taped m_token m_from m_to m_value m_isWrong m_due m_firsts m_rows m_rowN m_sortOf m_sizeOf m_numbers m_holdsWhat m_holdsWhich m_holdsMany m_bodies m_ran m_actKind m_actN m_actA m_isParted []) sz) (QI D C (oMM C e0 e1 e2 e3 e4 e5 e6 e7 e8 e9 e10 e11 e12 e13 e14 e15 m_s m_held m_aside m_before m_isHeld m_tape m_taped m_token m_from m_to m_value m_isWrong m_due m_firsts m_rows m_rowN m_sortOf m_sizeOf m_numbers m_holdsWhat m_holdsWhich m_holdsMany m_bodies m_ran m_actKind m_actN m_actA m_isParted []) (oMM C e0 e1 e2 e3 e4 e5 e6 e7 e8 e9 e10 e11 e12 e13 e14 e15 (m_s') m_held (m_aside') m_before m_isHeld m_tape m_taped m_token m_from m_to m_value m_isWrong m_due m_firsts m_rows m_rowN m_sortOf m_sizeOf m_numbers m_holdsWhat m_holdsWhich m_holdsMany m_bodies m_ran m_actKind m_actN m_actA m_isParted []) sz r) 0 0 (va_A (oMM C e0 e1 e2 e3 e4 e5 e6 e7 e8 e9 e10 e11 e12 e13 e14 e15 m_s m_held m_aside m_before m_isHeld m_tape m_taped m_token m_from m_to m_value m_isWrong m_due m_firsts m_rows m_rowN m_sortOf m_sizeOf m_numbers m_holdsWhat m_holdsWhich m_holdsMany m_bodies m_ran m_actKind m_actN m_actA m_isParted []) sz) := by
  refine Met.ofW (cc := cX6_judge) (maxL := 4) (ret := (some .int)) (by decide) rfl ?_
  intro p e s m args below meth c s₁ B hml hv
  obtain ⟨rfl, hsz, hP, hK, hD0, hE⟩ := hv
  have hx := B.exec
  have hb := B.bytes
  have hr := B.returns
  have hts := atoms_spec (ws := wsX6_judge) B.pre
  have hown : s.vm.findClass RX6 = some m.cls := findClass_of_methodNamed B.named
  have hlocks := B.notSynchronized
  subst hsz
  have hi_RX6 : ∀ w ∈ wsX60, w ∈ wsX6_judge := fun _ h => List.mem_cons_of_mem _ (List.mem_append_right _ h)
  have hD := hD0.self (sz := s.heap.size)
  obtain ⟨A, hAe⟩ := nm_ex (va_A (oMM C e0 e1 e2 e3 e4 e5 e6 e7 e8 e9 e10 e11 e12 e13 e14 e15 m_s m_held m_aside m_before m_isHeld m_tape m_taped m_token m_from m_to m_value m_isWrong m_due m_firsts m_rows m_rowN m_sortOf m_sizeOf m_numbers m_holdsWhat m_holdsWhich m_holdsMany m_bodies m_ran m_actKind m_actN m_actA m_isParted []) s.heap.size)
  rw [← hAe] at hD hE ⊢
  have hA : ∀ q : Nat, s.heap.size ≤ q → A q := fun q h => by rw [hAe]; exact Or.inr h
  have hS : va_S A s.heap s.heap [] := va_S.rf
  have hl := lv_entry ([.ref e0, .int x0]) (n := 4) (Nat.le_of_ble_eq_true rfl)
  rw [lg_entry_eq]
  generalize (lg_sl ([.ref e0, .int x0]) ++ List.replicate (4 - (lg_sl ([.ref e0, .int x0])).length) Slot.unset).toArray = ls at hl ⊢
  have hl : lv_has ls 4 [(0, .ref e0), (1, .int x0)] := hl
  obtain ⟨Q, hQ⟩ := nm_ex (MQ below (QI D C (oMM C e0 e1 e2 e3 e4 e5 e6 e7 e8 e9 e10 e11 e12 e13 e14 e15 m_s m_held m_aside m_before m_isHeld m_tape m_taped m_token m_from m_to m_value m_isWrong m_due m_firsts m_rows m_rowN m_sortOf m_sizeOf m_numbers m_holdsWhat m_holdsWhich m_holdsMany m_bodies m_ran m_actKind m_actN m_actA m_isParted []) (oMM C e0 e1 e2 e3 e4 e5 e6 e7 e8 e9 e10 e11 e12 e13 e14 e15 (m_s') m_held (m_aside') m_before m_isHeld m_tape m_taped m_token m_from m_to m_value m_isWrong m_due m_firsts m_rows m_rowN m_sortOf m_sizeOf m_numbers m_holdsWhat m_holdsWhich m_holdsMany m_bodies m_ran m_actKind m_actN m_actA m_isParted []) s.heap.size r) (List.toArray [Value.ref e0, Value.int x0]) s 0 0 A)
  show W p l e (headSpec wsX6_judge (rmX6_judge)).room s m (List.toArray [Value.ref e0, Value.int x0]) below meth c s.heap [] 0 0 (MQ below (QI D C (oMM C e0 e1 e2 e3 e4 e5 e6 e7 e8 e9 e10 e11 e12 e13 e14 e15 m_s m_held m_aside m_before m_isHeld m_tape m_taped m_token m_from m_to m_value m_isWrong m_due m_firsts m_rows m_rowN m_sortOf m_sizeOf m_numbers m_holdsWhat m_holdsWhich m_holdsMany m_bodies m_ran m_actKind m_actN m_actA m_isParted []) (oMM C e0 e1 e2 e3 e4 e5 e6 e7 e8 e9 e10 e11 e12 e13 e14 e15 (m_s') m_held (m_aside') m_before m_isHeld m_tape m_taped m_token m_from m_to m_value m_isWrong m_due m_firsts m_rows m_rowN m_sortOf m_sizeOf m_numbers m_holdsWhat m_holdsWhich m_holdsMany m_bodies m_ran m_actKind m_actN m_actA m_isParted []) s.heap.size r) (List.toArray [Value.ref e0, Value.int x0]) s 0 0 A) _
  rw [← hQ]
  unfold f_X6_judge at hf
  have main : ∀ (H : Heap) (locs : List Loc), va_P D vwCl (oMM C e0 e1 e2 e3 e4 e5 e6 e7 e8 e9 e10 e11 e12 e13 e14 e15 m_s m_held m_aside m_before m_isHeld m_tape m_taped m_token m_from m_to m_value m_isWrong m_due m_firsts m_rows m_rowN m_sortOf m_sizeOf m_numbers m_holdsWhat m_holdsWhich m_holdsMany m_bodies m_ran m_actKind m_actN m_actA m_isParted []) H → va_D A (oMM C e0 e1 e2 e3 e4 e5 e6 e7 e8 e9 e10 e11 e12 e13 e14 e15 m_s m_held m_aside m_before m_isHeld m_tape m_taped m_token m_from m_to m_value m_isWrong m_due m_firsts m_rows m_rowN m_sortOf m_sizeOf m_numbers m_holdsWhat m_holdsWhich m_holdsMany m_bodies m_ran m_actKind m_actN m_actA m_isParted []) → va_S A s.heap H locs → W p l e (headSpec wsX6_judge (rmX6_judge)).room s m (List.toArray [Value.ref e0, Value.int x0]) below meth c H locs 0 0 Q (F0 m 0 ls []) := by
    intro H locs hP hD hS
    refine lv_aload_n hx hb dX6_judge_0 rfl (lv_at hl 0 rfl) ?_
    refine lv_iload_n hx hb dX6_judge_1 rfl (lv_at hl 1 rfl) ?_
    refine kmz (w1 := (oMM C e0 e1 e2 e3 e4 e5 e6 e7 e8 e9 e10 e11 e12 e13 e14 e15 m_s m_held m_aside m_before m_isHeld m_tape m_taped m_token m_from m_to m_value m_isWrong m_due m_firsts m_rows m_rowN m_sortOf m_sizeOf m_numbers m_holdsWhat m_holdsWhich m_holdsMany m_bodies m_ran m_actKind m_actN m_actA m_isParted [])) (va_runV (As := [.int x0]) (rest := []) ⟨hx, hb, hml, hown, hts⟩ (c_X6_isOne l E D C e0 e1 e2 e3 e4 e5 e6 e7 e8 e9 e10 e11 e12 e13 e14 e15 H.size m_s m_held m_aside m_before m_isHeld m_tape m_taped m_token m_from m_to m_value m_isWrong m_due m_firsts m_rows m_rowN m_sortOf m_sizeOf m_numbers m_holdsWhat m_holdsWhich m_holdsMany m_bodies m_ran m_actKind m_actN m_actA m_isParted x0 _ rfl) (cwV 1 hts gX6_judge_X6_isOne rfl rfl rfl hdX6_isOne ⟨Nat.le_of_ble_eq_true rfl, Nat.le_of_ble_eq_true rfl⟩) (kpreM hP hD hK hS hE hA 0 rfl rfl rfl) rfl rfl hl.1 rfl (lv_room (Nat.le_of_ble_eq_true rfl)) dX6_judge_2 ⟨Nat.zero_le _, Nat.zero_le _⟩) hP hD hS hA rfl (fun H locs hz1 hP hD hS => ?_)
    refine lv_if_ne (tgt := 10) hx hb dX6_judge_5 (by decide) (fun c2 => ?_) (fun c2 => ?_)
    · replace hf := if_fe c2 hf
      refine lv_aload_n hx hb dX6_judge_10 rfl (lv_at hl 0 rfl) ?_
      refine va_get (D := D) (ci := 6) (v := .ref e1) (C := RX6) (T := TX6) (N := 28) hx hb hts hi_RX6 hown hK hP 0 rfl rfl 0 (by decide) (hts (.fieldLink RX6 7 "TravelMarksModel" "s" "[I") (List.mem_of_getElem? (i := 1) rfl)) (fun _ h9 => h9) rfl dX6_judge_11 ?_
      refine lv_aload_n hx hb dX6_judge_14 rfl (lv_at hl 0 rfl) ?_
      refine va_get (D := D) (ci := 6) (v := .ref e3) (C := RX6) (T := TX6) (N := 28) hx hb hts hi_RX6 hown hK hP 0 rfl rfl 2 (by decide) (hts (.fieldLink RX6 16 "TravelMarksModel" "aside" "[I") (List.mem_of_getElem? (i := 2) rfl)) (fun _ h9 => h9) rfl dX6_judge_15 ?_
      obtain ⟨v3, h4, hf⟩ := ob1_e hf
      refine kcv (Wx := (oMM C e0 e1 e2 e3 e4 e5 e6 e7 e8 e9 e10 e11 e12 e13 e14 e15 m_s m_held v3 m_before m_isHeld m_tape m_taped m_token m_from m_to m_value m_isWrong m_due m_firsts m_rows m_rowN m_sortOf m_sizeOf m_numbers m_holdsWhat m_holdsWhich m_holdsMany m_bodies m_ran m_actKind m_actN m_actA m_isParted [])) (va_runS (As := [.ref e1, .ref e3]) (rest := []) ⟨hx, hb, hml, hown, hts⟩ (c_X6_copyRow l E D C e1 e3 H.size N m_s m_aside v3 h4) (va_cwS 2 hts gX6_judge_X6_copyRow rfl rfl rfl hdX6_copyRow ⟨Nat.le_of_ble_eq_true rfl, Nat.le_of_ble_eq_true rfl⟩) (kpre hP hD hK hS hE hA [1, 3] rfl rfl) rfl rfl hl.1 rfl (lv_room (Nat.le_of_ble_eq_true rfl)) dX6_judge_18 ⟨Nat.zero_le _, Nat.zero_le _⟩) hP hD hS hA [1, 3] rfl rfl rfl (fun H locs hP hD hS => ?_)
      refine lv_iconst (v := 0) hx hb dX6_judge_21 rfl ?_
      refine lv_istore_n (lv' := [(2, .int 0), (0, .ref e0), (1, .int x0)]) hx hb dX6_judge_22 rfl hl (by decide) rfl (fun ls hl => ?_)
      refine lv_iconst (v := 1) hx hb dX6_judge_23 rfl ?_
      refine lv_istore_n (lv' := [(3, .int 1), (2, .int 0), (0, .ref e0), (1, .int x0)]) hx hb dX6_judge_24 rfl hl (by decide) rfl (fun ls hl => ?_)
      obtain ⟨j8, hj8, hf⟩ := lj_e hf
      have Hj8 : ∀ (i5 : Int32) (i6 : Int32) (v7 : Nat → Int32) (H : Heap) (locs : List Loc) (ls : Array Slot), va_P D vwCl (oMM C e0 e1 e2 e3 e4 e5 e6 e7 e8 e9 e10 e11 e12 e13 e14 e15 v7 m_held v3 m_before m_isHeld m_tape m_taped m_token m_from m_to m_value m_isWrong m_due m_firsts m_rows m_rowN m_sortOf m_sizeOf m_numbers m_holdsWhat m_holdsWhich m_holdsMany m_bodies m_ran m_actKind m_actN m_actA m_isParted []) H → va_D A (oMM C e0 e1 e2 e3 e4 e5 e6 e7 e8 e9 e10 e11 e12 e13 e14 e15 v7 m_held v3 m_before m_isHeld m_tape m_taped m_token m_from m_to m_value m_isWrong m_due m_firsts m_rows m_rowN m_sortOf m_sizeOf m_numbers m_holdsWhat m_holdsWhich m_holdsMany m_bodies m_ran m_actKind m_actN m_actA m_isParted []) → va_S A s.heap H locs → lv_has ls 4 [(3, .int i5), (2, .int i6), (0, .ref e0)] → j8 i5 i6 v7 = some (r, m_s', m_aside') → W p l e (headSpec wsX6_judge (rmX6_judge)).room s m (List.toArray [Value.ref e0, Value.int x0]) below meth c H locs 0 0 Q (F0 m 106 ls []) := by
        intro i5 i6 v7 H locs ls hP hD hS hl hf
        rw [hj8] at hf
        refine lv_aload_n hx hb dX6_judge_106 rfl (lv_at hl 2 rfl) ?_
        refine va_get (D := D) (ci := 6) (v := .ref e3) (C := RX6) (T := TX6) (N := 28) hx hb hts hi_RX6 hown hK hP 0 rfl rfl 2 (by decide) (hts (.fieldLink RX6 16 "TravelMarksModel" "aside" "[I") (List.mem_of_getElem? (i := 2) rfl)) (fun _ h9 => h9) rfl dX6_judge_107 ?_
        refine lv_aload_n hx hb dX6_judge_110 rfl (lv_at hl 2 rfl) ?_
        refine va_get (D := D) (ci := 6) (v := .ref e1) (C := RX6) (T := TX6) (N := 28) hx hb hts hi_RX6 hown hK hP 0 rfl rfl 0 (by decide) (hts (.fieldLink RX6 7 "TravelMarksModel" "s" "[I") (List.mem_of_getElem? (i := 1) rfl)) (fun _ h9 => h9) rfl dX6_judge_111 ?_
        obtain ⟨v9, h10, hf⟩ := ob1_e hf
        refine kcv (Wx := (oMM C e0 e1 e2 e3 e4 e5 e6 e7 e8 e9 e10 e11 e12 e13 e14 e15 v9 m_held v3 m_before m_isHeld m_tape m_taped m_token m_from m_to m_value m_isWrong m_due m_firsts m_rows m_rowN m_sortOf m_sizeOf m_numbers m_holdsWhat m_holdsWhich m_holdsMany m_bodies m_ran m_actKind m_actN m_actA m_isParted [])) (va_runS (As := [.ref e3, .ref e1]) (rest := []) ⟨hx, hb, hml, hown, hts⟩ (c_X6_copyRow l E D C e3 e1 H.size N v3 v7 v9 h10) (va_cwS 2 hts gX6_judge_X6_copyRow rfl rfl rfl hdX6_copyRow ⟨Nat.le_of_ble_eq_true rfl, Nat.le_of_ble_eq_true rfl⟩) (kpre hP hD hK hS hE hA [3, 1] rfl rfl) rfl rfl hl.1 rfl (lv_room (Nat.le_of_ble_eq_true rfl)) dX6_judge_114 ⟨Nat.zero_le _, Nat.zero_le _⟩) hP hD hS hA [3, 1] rfl rfl rfl (fun H locs hP hD hS => ?_)
        refine lv_iload_n hx hb dX6_judge_117 rfl (lv_at hl 0 rfl) ?_
        refine lv_if_eq (tgt := 125) hx hb dX6_judge_118 (by decide) (fun c11 => ?_) (fun c11 => ?_)
        · replace hf := if_te c11 hf
          refine lv_iload_n hx hb dX6_judge_125 rfl (lv_at hl 1 rfl) ?_
          cases hf
          exact kri hQ hAe hx hb hr hlocks hP hD hK hS dX6_judge_126
        · replace hf := if_fe c11 hf
          refine lv_iconst (v := 0) hx hb dX6_judge_121 rfl ?_
          refine lv_goto (tgt := 126) hx hb dX6_judge_122 (by decide) ?_
          cases hf
          exact kri hQ hAe hx hb hr hlocks hP hD hK hS dX6_judge_126
      have hL25 : ∀ (n : Nat) (i12 : Int32) (i13 : Int32) (v14 : Nat → Int32) (H : Heap) (locs : List Loc) (ls : Array Slot), va_P D vwCl (oMM C e0 e1 e2 e3 e4 e5 e6 e7 e8 e9 e10 e11 e12 e13 e14 e15 v14 m_held v3 m_before m_isHeld m_tape m_taped m_token m_from m_to m_value m_isWrong m_due m_firsts m_rows m_rowN m_sortOf m_sizeOf m_numbers m_holdsWhat m_holdsWhich m_holdsMany m_bodies m_ran m_actKind m_actN m_actA m_isParted []) H → va_D A (oMM C e0 e1 e2 e3 e4 e5 e6 e7 e8 e9 e10 e11 e12 e13 e14 e15 v14 m_held v3 m_before m_isHeld m_tape m_taped m_token m_from m_to m_value m_isWrong m_due m_firsts m_rows m_rowN m_sortOf m_sizeOf m_numbers m_holdsWhat m_holdsWhich m_holdsMany m_bodies m_ran m_actKind m_actN m_actA m_isParted []) → va_S A s.heap H locs → lv_has ls 4 [(3, .int i12), (2, .int i13), (0, .ref e0), (1, .int x0)] → f_X6_judge_L25 N m_rows m_rowN x0 j8 n i12 i13 v14 = some (r, m_s', m_aside') → W p l e (headSpec wsX6_judge (rmX6_judge)).room s m (List.toArray [Value.ref e0, Value.int x0]) below meth c H locs 0 0 Q (F0 m 25 ls []) := by
        intro n
        induction n with
        | zero =>
          intro i12 i13 v14 H locs ls hP hD hS hl hf
          exact absurd hf (fun h => by cases h)
        | succ n ih =>
          intro i12 i13 v14 H locs ls hP hD hS hl hf
          rw [f_X6_judge_L25] at hf
          refine lv_iload_n hx hb dX6_judge_25 rfl (lv_at hl 1 rfl) ?_
          refine lv_aload_n hx hb dX6_judge_26 rfl (lv_at hl 2 rfl) ?_
          refine va_get (D := D) (ci := 6) (v := .int m_rowN) (C := RX6) (T := TX6) (N := 28) hx hb hts hi_RX6 hown hK hP 0 rfl rfl 15 (by decide) (hts (.fieldLink RX6 153 "TravelMarksModel" "rowN" "I") (List.mem_of_getElem? (i := 3) rfl)) (fun _ h9 => h9) rfl dX6_judge_27 ?_
          refine lv_icmp_ge (tgt := 106) hx hb dX6_judge_30 (by decide) (fun c15 => ?_) (fun c15 => ?_)
          · replace hf := if_te c15 hf
            exact Hj8 i12 i13 v14 H locs ls hP hD hS (lv_sub hl [0, 1, 2] rfl) hf
          · replace hf := if_fe c15 hf
            refine lv_iload_n hx hb dX6_judge_33 rfl (lv_at hl 0 rfl) ?_
            refine lv_if_eq (tgt := 106) hx hb dX6_judge_34 (by decide) (fun c16 => ?_) (fun c16 => ?_)
            · replace hf := if_te c16 hf
              exact Hj8 i12 i13 v14 H locs ls hP hD hS (lv_sub hl [0, 1, 2] rfl) hf
            · replace hf := if_fe c16 hf
              refine lv_aload_n hx hb dX6_judge_37 rfl (lv_at hl 2 rfl) ?_
              refine va_get (D := D) (ci := 6) (v := .ref e8) (C := RX6) (T := TX6) (N := 28) hx hb hts hi_RX6 hown hK hP 0 rfl rfl 14 (by decide) (hts (.fieldLink RX6 31 "TravelMarksModel" "rows" "[I") (List.mem_of_getElem? (i := 4) rfl)) (fun _ h9 => h9) rfl dX6_judge_38 ?_
              refine lv_iconst (v := 3) hx hb dX6_judge_41 rfl ?_
              refine lv_iload_n hx hb dX6_judge_42 rfl (lv_at hl 1 rfl) ?_
              refine lv_imul hx hb dX6_judge_43 ?_
              refine lv_iconst (v := 2) hx hb dX6_judge_44 rfl ?_
              refine lv_iadd hx hb dX6_judge_45 ?_
              obtain ⟨y18, ey18, hi17, hf⟩ := rdA_x hf
              refine va_iald hx hb hK hP 8 0 rfl rfl hi17 dX6_judge_46 ?_
              refine lv_ren ey18 ?_
              refine lv_aload_n hx hb dX6_judge_47 rfl (lv_at hl 2 rfl) ?_
              obtain ⟨r19, v20, h21, hf⟩ := ob2_e hf
              refine kmi (w1 := (oMM C e0 e1 e2 e3 e4 e5 e6 e7 e8 e9 e10 e11 e12 e13 e14 e15 v20 m_held v3 m_before m_isHeld m_tape m_taped m_token m_from m_to m_value m_isWrong m_due m_firsts m_rows m_rowN m_sortOf m_sizeOf m_numbers m_holdsWhat m_holdsWhich m_holdsMany m_bodies m_ran m_actKind m_actN m_actA m_isParted [])) (va_runV (As := []) (rest := [.int y18]) ⟨hx, hb, hml, hown, hts⟩ (c_X6_goesOn l E D C e0 e1 e2 e3 e4 e5 e6 e7 e8 e9 e10 e11 e12 e13 e14 e15 H.size N v14 m_held v3 m_before m_isHeld m_tape m_taped m_token m_from m_to m_value m_isWrong m_due m_firsts m_rows m_rowN m_sortOf m_sizeOf m_numbers m_holdsWhat m_holdsWhich m_holdsMany m_bodies m_ran m_actKind m_actN m_actA m_isParted r19 v20 h21) (cwV 0 hts gX6_judge_X6_goesOn rfl rfl rfl hdX6_goesOn ⟨Nat.le_of_ble_eq_true rfl, Nat.le_of_ble_eq_true rfl⟩) (kpreM hP hD hK hS hE hA 0 rfl rfl rfl) rfl rfl hl.1 rfl (lv_room (Nat.le_of_ble_eq_true rfl)) dX6_judge_48 ⟨Nat.zero_le _, Nat.zero_le _⟩) hP hD hS hA rfl (fun H locs hP hD hS => ?_)
              refine lv_iload_n hx hb dX6_judge_51 rfl (lv_at hl 3 rfl) ?_
              refine lv_ishr hx hb dX6_judge_52 ?_
              refine lv_iconst (v := 1) hx hb dX6_judge_53 rfl ?_
              refine lv_iand hx hb dX6_judge_54 ?_
              obtain ⟨j23, hj23, hf⟩ := lj_e hf
              have Hj23 : ∀ (k22 : Int32) (H : Heap) (locs : List Loc) (ls : Array Slot), va_P D vwCl (oMM C e0 e1 e2 e3 e4 e5 e6 e7 e8 e9 e10 e11 e12 e13 e14 e15 v20 m_held v3 m_before m_isHeld m_tape m_taped m_token m_from m_to m_value m_isWrong m_due m_firsts m_rows m_rowN m_sortOf m_sizeOf m_numbers m_holdsWhat m_holdsWhich m_holdsMany m_bodies m_ran m_actKind m_actN m_actA m_isParted []) H → va_D A (oMM C e0 e1 e2 e3 e4 e5 e6 e7 e8 e9 e10 e11 e12 e13 e14 e15 v20 m_held v3 m_before m_isHeld m_tape m_taped m_token m_from m_to m_value m_isWrong m_due m_firsts m_rows m_rowN m_sortOf m_sizeOf m_numbers m_holdsWhat m_holdsWhich m_holdsMany m_bodies m_ran m_actKind m_actN m_actA m_isParted []) → va_S A s.heap H locs → lv_has ls 4 [(2, .int i13), (0, .ref e0), (1, .int x0)] → j23 k22 = some (r, m_s', m_aside') → W p l e (headSpec wsX6_judge (rmX6_judge)).room s m (List.toArray [Value.ref e0, Value.int x0]) below meth c H locs 0 0 Q (F0 m 99 ls [.int k22]) := by
                intro k22 H locs ls hP hD hS hl hf
                rw [hj23] at hf
                refine lv_istore_n (lv' := [(3, .int k22), (2, .int i13), (0, .ref e0), (1, .int x0)]) hx hb dX6_judge_99 rfl hl (by decide) rfl (fun ls hl => ?_)
                obtain ⟨t24, et24, hf⟩ := lj_e hf
                refine lv_iinc (v := t24) (lv' := [(2, .int t24), (3, .int k22), (0, .ref e0), (1, .int x0)]) hx hb dX6_judge_100 hl (k := 1) rfl (by rw [et24]; rfl) (by decide) rfl (fun ls hl => ?_)
                refine lv_goto (tgt := 25) hx hb dX6_judge_103 (by decide) ?_
                exact ih k22 t24 v20 H locs ls hP hD hS (lv_sub hl [1, 0, 2, 3] rfl) hf
              obtain ⟨j25, hj25, hf⟩ := lj_e hf
              have Hj25 : ∀ (H : Heap) (locs : List Loc) (ls : Array Slot), va_P D vwCl (oMM C e0 e1 e2 e3 e4 e5 e6 e7 e8 e9 e10 e11 e12 e13 e14 e15 v20 m_held v3 m_before m_isHeld m_tape m_taped m_token m_from m_to m_value m_isWrong m_due m_firsts m_rows m_rowN m_sortOf m_sizeOf m_numbers m_holdsWhat m_holdsWhich m_holdsMany m_bodies m_ran m_actKind m_actN m_actA m_isParted []) H → va_D A (oMM C e0 e1 e2 e3 e4 e5 e6 e7 e8 e9 e10 e11 e12 e13 e14 e15 v20 m_held v3 m_before m_isHeld m_tape m_taped m_token m_from m_to m_value m_isWrong m_due m_firsts m_rows m_rowN m_sortOf m_sizeOf m_numbers m_holdsWhat m_holdsWhich m_holdsMany m_bodies m_ran m_actKind m_actN m_actA m_isParted []) → va_S A s.heap H locs → lv_has ls 4 [(2, .int i13), (0, .ref e0), (1, .int x0)] → j25 = some (r, m_s', m_aside') → W p l e (headSpec wsX6_judge (rmX6_judge)).room s m (List.toArray [Value.ref e0, Value.int x0]) below meth c H locs 0 0 Q (F0 m 98 ls []) := by
                intro H locs ls hP hD hS hl hf
                rw [hj25] at hf
                refine lv_iconst (v := 0) hx hb dX6_judge_98 rfl ?_
                exact Hj23 0 H locs ls hP hD hS (lv_sub hl [0, 1, 2] rfl) hf
              refine lv_icmp_ne (tgt := 98) hx hb dX6_judge_55 (by decide) (fun c26 => ?_) (fun c26 => ?_)
              · replace hf := if_fe c26 hf
                exact Hj25 H locs ls hP hD hS (lv_sub hl [1, 2, 3] rfl) hf
              · replace hf := if_te c26 hf
                refine lv_aload_n hx hb dX6_judge_58 rfl (lv_at hl 2 rfl) ?_
                refine va_get (D := D) (ci := 6) (v := .ref e8) (C := RX6) (T := TX6) (N := 28) hx hb hts hi_RX6 hown hK hP 0 rfl rfl 14 (by decide) (hts (.fieldLink RX6 31 "TravelMarksModel" "rows" "[I") (List.mem_of_getElem? (i := 4) rfl)) (fun _ h9 => h9) rfl dX6_judge_59 ?_
                refine lv_iconst (v := 3) hx hb dX6_judge_62 rfl ?_
                refine lv_iload_n hx hb dX6_judge_63 rfl (lv_at hl 1 rfl) ?_
                refine lv_imul hx hb dX6_judge_64 ?_
                obtain ⟨y28, ey28, hi27, hf⟩ := rdA_x hf
                refine va_iald hx hb hK hP 8 0 rfl rfl hi27 dX6_judge_65 ?_
                refine lv_ren ey28 ?_
                refine lv_aload_n hx hb dX6_judge_66 rfl (lv_at hl 2 rfl) ?_
                refine lv_iload_n hx hb dX6_judge_67 rfl (lv_at hl 3 rfl) ?_
                refine lv_iconst (v := 2) hx hb dX6_judge_68 rfl ?_
                obtain ⟨r29, h30, hf⟩ := ob1_e hf
                refine kmi (w1 := (oMM C e0 e1 e2 e3 e4 e5 e6 e7 e8 e9 e10 e11 e12 e13 e14 e15 v20 m_held v3 m_before m_isHeld m_tape m_taped m_token m_from m_to m_value m_isWrong m_due m_firsts m_rows m_rowN m_sortOf m_sizeOf m_numbers m_holdsWhat m_holdsWhich m_holdsMany m_bodies m_ran m_actKind m_actN m_actA m_isParted [])) (va_runV (As := [.int x0, .int 2]) (rest := [.int y28]) ⟨hx, hb, hml, hown, hts⟩ (c_X6_its l E D C e0 e1 e2 e3 e4 e5 e6 e7 e8 e9 e10 e11 e12 e13 e14 e15 H.size v20 m_held v3 m_before m_isHeld m_tape m_taped m_token m_from m_to m_value m_isWrong m_due m_firsts m_rows m_rowN m_sortOf m_sizeOf m_numbers m_holdsWhat m_holdsWhich m_holdsMany m_bodies m_ran m_actKind m_actN m_actA m_isParted x0 2 r29 h30) (cwV 2 hts gX6_judge_X6_its rfl rfl rfl hdX6_its ⟨Nat.le_of_ble_eq_true rfl, Nat.le_of_ble_eq_true rfl⟩) (kpreM hP hD hK hS hE hA 0 rfl rfl rfl) rfl rfl hl.1 rfl (lv_room (Nat.le_of_ble_eq_true rfl)) dX6_judge_69 ⟨Nat.zero_le _, Nat.zero_le _⟩) hP hD hS hA rfl (fun H locs hP hD hS => ?_)
                refine lv_icmp_ne (tgt := 98) hx hb dX6_judge_72 (by decide) (fun c31 => ?_) (fun c31 => ?_)
                · replace hf := if_fe c31 hf
                  exact Hj25 H locs ls hP hD hS (lv_sub hl [1, 2, 3] rfl) hf
                · replace hf := if_te c31 hf
                  refine lv_aload_n hx hb dX6_judge_75 rfl (lv_at hl 2 rfl) ?_
                  refine va_get (D := D) (ci := 6) (v := .ref e8) (C := RX6) (T := TX6) (N := 28) hx hb hts hi_RX6 hown hK hP 0 rfl rfl 14 (by decide) (hts (.fieldLink RX6 31 "TravelMarksModel" "rows" "[I") (List.mem_of_getElem? (i := 4) rfl)) (fun _ h9 => h9) rfl dX6_judge_76 ?_
                  refine lv_iconst (v := 3) hx hb dX6_judge_79 rfl ?_
                  refine lv_iload_n hx hb dX6_judge_80 rfl (lv_at hl 1 rfl) ?_
                  refine lv_imul hx hb dX6_judge_81 ?_
                  refine lv_iconst (v := 1) hx hb dX6_judge_82 rfl ?_
                  refine lv_iadd hx hb dX6_judge_83 ?_
                  obtain ⟨y33, ey33, hi32, hf⟩ := rdA_x hf
                  refine va_iald hx hb hK hP 8 0 rfl rfl hi32 dX6_judge_84 ?_
                  refine lv_ren ey33 ?_
                  refine lv_aload_n hx hb dX6_judge_85 rfl (lv_at hl 2 rfl) ?_
                  refine lv_iload_n hx hb dX6_judge_86 rfl (lv_at hl 3 rfl) ?_
                  refine lv_iconst (v := 1) hx hb dX6_judge_87 rfl ?_
                  obtain ⟨r34, h35, hf⟩ := ob1_e hf
                  refine kmi (w1 := (oMM C e0 e1 e2 e3 e4 e5 e6 e7 e8 e9 e10 e11 e12 e13 e14 e15 v20 m_held v3 m_before m_isHeld m_tape m_taped m_token m_from m_to m_value m_isWrong m_due m_firsts m_rows m_rowN m_sortOf m_sizeOf m_numbers m_holdsWhat m_holdsWhich m_holdsMany m_bodies m_ran m_actKind m_actN m_actA m_isParted [])) (va_runV (As := [.int x0, .int 1]) (rest := [.int y33]) ⟨hx, hb, hml, hown, hts⟩ (c_X6_its l E D C e0 e1 e2 e3 e4 e5 e6 e7 e8 e9 e10 e11 e12 e13 e14 e15 H.size v20 m_held v3 m_before m_isHeld m_tape m_taped m_token m_from m_to m_value m_isWrong m_due m_firsts m_rows m_rowN m_sortOf m_sizeOf m_numbers m_holdsWhat m_holdsWhich m_holdsMany m_bodies m_ran m_actKind m_actN m_actA m_isParted x0 1 r34 h35) (cwV 2 hts gX6_judge_X6_its rfl rfl rfl hdX6_its ⟨Nat.le_of_ble_eq_true rfl, Nat.le_of_ble_eq_true rfl⟩) (kpreM hP hD hK hS hE hA 0 rfl rfl rfl) rfl rfl hl.1 rfl (lv_room (Nat.le_of_ble_eq_true rfl)) dX6_judge_88 ⟨Nat.zero_le _, Nat.zero_le _⟩) hP hD hS hA rfl (fun H locs hP hD hS => ?_)
                  refine lv_icmp_ne (tgt := 98) hx hb dX6_judge_91 (by decide) (fun c36 => ?_) (fun c36 => ?_)
                  · replace hf := if_fe c36 hf
                    exact Hj25 H locs ls hP hD hS (lv_sub hl [1, 2, 3] rfl) hf
                  · replace hf := if_te c36 hf
                    refine lv_iconst (v := 1) hx hb dX6_judge_94 rfl ?_
                    refine lv_goto (tgt := 99) hx hb dX6_judge_95 (by decide) ?_
                    exact Hj23 1 H locs ls hP hD hS (lv_sub hl [1, 2, 3] rfl) hf
      exact hL25 N 1 0 m_s H locs ls hP hD hS (lv_sub hl [0, 1, 2, 3] rfl) hf
    · replace hf := if_te c2 hf
      refine lv_iconst (v := (-1)) hx hb dX6_judge_8 rfl ?_
      cases hf
      exact kri hQ hAe hx hb hr hlocks hP hD hK hS dX6_judge_9
  exact main _ _ hP hD hS

def rmX6_isShelf : Room := { frames := 1, cells := 0, slots := 0, locals := 25 }
theorem hdX6_isShelf : yX6_isShelf.cls ≠ "java/lang/invoke/MethodHandle" ∧ yX6_isShelf.cls ≠ "java/lang/invoke/VarHandle" ∧ (parseMethodDescriptor yX6_isShelf.desc).map (fun d => d.parameters.length) = some 1 := by decide +kernel
set_option maxHeartbeats 40000000 in
set_option maxRecDepth 100000 in
theorem c_X6_isShelf (l : Launch) (E : Nat → Nat) (D : va_G) (C : Nat → ClassId) (sz : Nat)  (x0 : Int32) (r : Int32) (hf : f_X6_isShelf x0 = r) : Met l yX6_isShelf wsX6_isShelf rmX6_isShelf (PC E D C [.int x0] [] sz) (QZ D C [] [] sz r) 0 0 (va_A [] sz) := by
  refine Met.ofW (cc := cX6_isShelf) (maxL := 1) (ret := (some .boolean)) (by decide) rfl ?_
  intro p e s m args below meth c s₁ B hml hv
  obtain ⟨rfl, hsz, hP, hK, hD0, hE⟩ := hv
  have hx := B.exec
  have hb := B.bytes
  have hr := B.returns
  have hts := atoms_spec (ws := wsX6_isShelf) B.pre
  have hown : s.vm.findClass RX6 = some m.cls := findClass_of_methodNamed B.named
  have hlocks := B.notSynchronized
  subst hsz
  have hD := hD0.self (sz := s.heap.size)
  obtain ⟨A, hAe⟩ := nm_ex (va_A [] s.heap.size)
  rw [← hAe] at hD hE ⊢
  have hA : ∀ q : Nat, s.heap.size ≤ q → A q := fun q h => by rw [hAe]; exact Or.inr h
  have hS : va_S A s.heap s.heap [] := va_S.rf
  have hl := lv_entry ([.int x0]) (n := 1) (Nat.le_of_ble_eq_true rfl)
  rw [lg_entry_eq]
  generalize (lg_sl ([.int x0]) ++ List.replicate (1 - (lg_sl ([.int x0])).length) Slot.unset).toArray = ls at hl ⊢
  have hl : lv_has ls 1 [(0, .int x0)] := hl
  obtain ⟨Q, hQ⟩ := nm_ex (MQ below (QZ D C [] [] s.heap.size r) (List.toArray [Value.int x0]) s 0 0 A)
  show W p l e (headSpec wsX6_isShelf (rmX6_isShelf)).room s m (List.toArray [Value.int x0]) below meth c s.heap [] 0 0 (MQ below (QZ D C [] [] s.heap.size r) (List.toArray [Value.int x0]) s 0 0 A) _
  rw [← hQ]
  unfold f_X6_isShelf at hf
  have main : ∀ (H : Heap) (locs : List Loc), va_P D vwCl [] H → va_D A [] → va_S A s.heap H locs → W p l e (headSpec wsX6_isShelf (rmX6_isShelf)).room s m (List.toArray [Value.int x0]) below meth c H locs 0 0 Q (F0 m 0 ls []) := by
    intro H locs hP hD hS
    refine lv_iload_n hx hb dX6_isShelf_0 rfl (lv_at hl 0 rfl) ?_
    refine lv_i2l hx hb dX6_isShelf_1 rfl ?_
    refine lv_lconst (v := 0) hx hb dX6_isShelf_2 rfl ?_
    refine lv_ldc2 (v := 3) hx hb hown (hts (.constantLong RX6 156 (3)) (List.mem_of_getElem? (i := 1) rfl)) dX6_isShelf_3 ?_
    refine kcz (Wx := []) (va_runS (As := [.long (Int32.toInt64 x0), .long 0, .long 3]) (rest := []) ⟨hx, hb, hml, hown, hts⟩ (c_X6_isIn l E D C H.size (Int32.toInt64 x0) 0 3 _ rfl) (va_cwS 3 hts gX6_isShelf_X6_isIn rfl rfl rfl hdX6_isIn ⟨Nat.le_of_ble_eq_true rfl, Nat.le_of_ble_eq_true rfl⟩) (kpre hP hD hK hS hE hA [] rfl rfl) rfl rfl hl.1 rfl (lv_room (Nat.le_of_ble_eq_true rfl)) dX6_isShelf_6 ⟨Nat.zero_le _, Nat.zero_le _⟩) hP hD hS hA [] rfl rfl rfl (fun H locs hz1 hP hD hS => ?_)
    cases hf
    exact krz hQ hAe hx hb hr hlocks hz1 hP hD hK hS dX6_isShelf_9
  exact main _ _ hP hD hS

