def rmX6_goes : Room := { frames := 6, cells := 0, slots := 0, locals := 142 }
theorem hdX6_goes : yX6_goes.cls = RX6 ∧ yX6_goes.cls ≠ "java/lang/invoke/MethodHandle" ∧ yX6_goes.cls ≠ "java/lang/invoke/VarHandle" ∧ (parseMethodDescriptor yX6_goes.desc).map (fun d => d.parameters.length) = some 1 := by decide +kernel
set_option maxHeartbeats 40000000 in
set_option maxRecDepth 100000 in
theorem c_X6_goes (l : Launch) (E : Nat → Nat) (D : va_G) (C : Nat → ClassId) (e0 e1 e2 e3 e4 e5 e6 e7 e8 e9 e10 e11 e12 e13 e14 e15 : Nat) (sz : Nat) (N : Nat) (m_s : Nat → Int32) (m_held : Nat → Int32) (m_aside : Nat → Int32) (m_before : Nat → Int32) (m_isHeld : Int32) (m_tape : Nat → Int32) (m_taped : Int32) (m_token : Int32) (m_from : Int32) (m_to : Int32) (m_value : Int32) (m_isWrong : Int32) (m_due : Nat → Int32) (m_firsts : Nat → Int32) (m_rows : Nat → Int32) (m_rowN : Int32) (m_sortOf : Nat → Int32) (m_sizeOf : Nat → Int32) (m_numbers : Nat → Int32) (m_holdsWhat : Nat → Int32) (m_holdsWhich : Nat → Int32) (m_holdsMany : Nat → Int32) (m_bodies : Nat → Int32) (m_ran : Int32) (m_actKind : Int32) (m_actN : Int32) (m_actA : Int32) (m_isParted : Int32) (x0 : Int32) (m_s' : Nat → Int32) (hf : f_X6_goes N m_s x0 = some m_s') : Met l yX6_goes wsX6_goes rmX6_goes (PC E D C [.ref e0, .int x0] (oMM C e0 e1 e2 e3 e4 e5 e6 e7 e8 e9 e10 e11 e12 e13 e14 e15 m_s m_held m_aside m_before m_isHeld m_tape m_taped m_token m_from m_to m_value m_isWrong m_due m_firsts m_rows m_rowN m_sortOf m_sizeOf m_numbers m_holdsWhat m_holdsWhich m_holdsMany m_bodies m_ran m_actKind m_actN m_actA m_isParted []) sz) (QV D C (oMM C e0 e1 e2 e3 e4 e5 e6 e7 e8 e9 e10 e11 e12 e13 e14 e15 m_s m_held m_aside m_before m_isHeld m_tape m_taped m_token m_from m_to m_value m_isWrong m_due m_firsts m_rows m_rowN m_sortOf m_sizeOf m_numbers m_holdsWhat m_holdsWhich m_holdsMany m_bodies m_ran m_actKind m_actN m_actA m_isParted []) (oMM C e0 e1 e2 e3 e4 e5 e6 e7 e8 e9 e10 e11 e12 e13 e14 e15 (m_s') m_held m_aside m_before m_isHeld m_tape m_taped m_token m_from m_to m_value m_isWrong m_due m_firsts m_rows m_rowN m_sortOf m_sizeOf m_numbers m_holdsWhat m_holdsWhich m_holdsMany m_bodies m_ran m_actKind m_actN m_actA m_isParted []) sz) 0 0 (va_A (oMM C e0 e1 e2 e3 e4 e5 e6 e7 e8 e9 e10 e11 e12 e13 e14 e15 m_s m_held m_aside m_before m_isHeld m_tape m_taped m_token m_from m_to m_value m_isWrong m_due m_firsts m_rows m_rowN m_sortOf m_sizeOf m_numbers m_holdsWhat m_holdsWhich m_holdsMany m_bodies m_ran m_actKind m_actN m_actA m_isParted []) sz) := by
  refine Met.ofW (cc := cX6_goes) (maxL := 4) (ret := none) (by decide) rfl ?_
  intro p e s m args below meth c s₁ B hml hv
  obtain ⟨rfl, hsz, hP, hK, hD0, hE⟩ := hv
  have hx := B.exec
  have hb := B.bytes
  have hr := B.returns
  have hts := atoms_spec (ws := wsX6_goes) B.pre
  have hown : s.vm.findClass RX6 = some m.cls := findClass_of_methodNamed B.named
  have hlocks := B.notSynchronized
  subst hsz
  have hD := hD0.self (sz := s.heap.size)
  obtain ⟨A, hAe⟩ := nm_ex (va_A (oMM C e0 e1 e2 e3 e4 e5 e6 e7 e8 e9 e10 e11 e12 e13 e14 e15 m_s m_held m_aside m_before m_isHeld m_tape m_taped m_token m_from m_to m_value m_isWrong m_due m_firsts m_rows m_rowN m_sortOf m_sizeOf m_numbers m_holdsWhat m_holdsWhich m_holdsMany m_bodies m_ran m_actKind m_actN m_actA m_isParted []) s.heap.size)
  rw [← hAe] at hD hE ⊢
  have hA : ∀ q : Nat, s.heap.size ≤ q → A q := fun q h => by rw [hAe]; exact Or.inr h
  have hS : va_S A s.heap s.heap [] := va_S.rf
  have hl := lv_entry ([.ref e0, .int x0]) (n := 4) (Nat.le_of_ble_eq_true rfl)
  rw [lg_entry_eq]
  generalize (lg_sl ([.ref e0, .int x0]) ++ List.replicate (4 - (lg_sl ([.ref e0, .int x0])).length) Slot.unset).toArray = ls at hl ⊢
  have hl : lv_has ls 4 [(0, .ref e0), (1, .int x0)] := hl
  obtain ⟨Q, hQ⟩ := nm_ex (MQ below (QV D C (oMM C e0 e1 e2 e3 e4 e5 e6 e7 e8 e9 e10 e11 e12 e13 e14 e15 m_s m_held m_aside m_before m_isHeld m_tape m_taped m_token m_from m_to m_value m_isWrong m_due m_firsts m_rows m_rowN m_sortOf m_sizeOf m_numbers m_holdsWhat m_holdsWhich m_holdsMany m_bodies m_ran m_actKind m_actN m_actA m_isParted []) (oMM C e0 e1 e2 e3 e4 e5 e6 e7 e8 e9 e10 e11 e12 e13 e14 e15 (m_s') m_held m_aside m_before m_isHeld m_tape m_taped m_token m_from m_to m_value m_isWrong m_due m_firsts m_rows m_rowN m_sortOf m_sizeOf m_numbers m_holdsWhat m_holdsWhich m_holdsMany m_bodies m_ran m_actKind m_actN m_actA m_isParted []) s.heap.size) (List.toArray [Value.ref e0, Value.int x0]) s 0 0 A)
  show W p l e (headSpec wsX6_goes (rmX6_goes)).room s m (List.toArray [Value.ref e0, Value.int x0]) below meth c s.heap [] 0 0 (MQ below (QV D C (oMM C e0 e1 e2 e3 e4 e5 e6 e7 e8 e9 e10 e11 e12 e13 e14 e15 m_s m_held m_aside m_before m_isHeld m_tape m_taped m_token m_from m_to m_value m_isWrong m_due m_firsts m_rows m_rowN m_sortOf m_sizeOf m_numbers m_holdsWhat m_holdsWhich m_holdsMany m_bodies m_ran m_actKind m_actN m_actA m_isParted []) (oMM C e0 e1 e2 e3 e4 e5 e6 e7 e8 e9 e10 e11 e12 e13 e14 e15 (m_s') m_held m_aside m_before m_isHeld m_tape m_taped m_token m_from m_to m_value m_isWrong m_due m_firsts m_rows m_rowN m_sortOf m_sizeOf m_numbers m_holdsWhat m_holdsWhich m_holdsMany m_bodies m_ran m_actKind m_actN m_actA m_isParted []) s.heap.size) (List.toArray [Value.ref e0, Value.int x0]) s 0 0 A) _
  rw [← hQ]
  unfold f_X6_goes at hf
  have main : ∀ (H : Heap) (locs : List Loc), va_P D vwCl (oMM C e0 e1 e2 e3 e4 e5 e6 e7 e8 e9 e10 e11 e12 e13 e14 e15 m_s m_held m_aside m_before m_isHeld m_tape m_taped m_token m_from m_to m_value m_isWrong m_due m_firsts m_rows m_rowN m_sortOf m_sizeOf m_numbers m_holdsWhat m_holdsWhich m_holdsMany m_bodies m_ran m_actKind m_actN m_actA m_isParted []) H → va_D A (oMM C e0 e1 e2 e3 e4 e5 e6 e7 e8 e9 e10 e11 e12 e13 e14 e15 m_s m_held m_aside m_before m_isHeld m_tape m_taped m_token m_from m_to m_value m_isWrong m_due m_firsts m_rows m_rowN m_sortOf m_sizeOf m_numbers m_holdsWhat m_holdsWhich m_holdsMany m_bodies m_ran m_actKind m_actN m_actA m_isParted []) → va_S A s.heap H locs → W p l e (headSpec wsX6_goes (rmX6_goes)).room s m (List.toArray [Value.ref e0, Value.int x0]) below meth c H locs 0 0 Q (F0 m 0 ls []) := by
    intro H locs hP hD hS
    refine lv_iconst (v := 0) hx hb dX6_goes_0 rfl ?_
    refine lv_istore_n (lv' := [(2, .int 0), (0, .ref e0), (1, .int x0)]) hx hb dX6_goes_1 rfl hl (by decide) rfl (fun ls hl => ?_)
    have hL2 : ∀ (n : Nat) (i1 : Int32) (v2 : Nat → Int32) (H : Heap) (locs : List Loc) (ls : Array Slot), va_P D vwCl (oMM C e0 e1 e2 e3 e4 e5 e6 e7 e8 e9 e10 e11 e12 e13 e14 e15 v2 m_held m_aside m_before m_isHeld m_tape m_taped m_token m_from m_to m_value m_isWrong m_due m_firsts m_rows m_rowN m_sortOf m_sizeOf m_numbers m_holdsWhat m_holdsWhich m_holdsMany m_bodies m_ran m_actKind m_actN m_actA m_isParted []) H → va_D A (oMM C e0 e1 e2 e3 e4 e5 e6 e7 e8 e9 e10 e11 e12 e13 e14 e15 v2 m_held m_aside m_before m_isHeld m_tape m_taped m_token m_from m_to m_value m_isWrong m_due m_firsts m_rows m_rowN m_sortOf m_sizeOf m_numbers m_holdsWhat m_holdsWhich m_holdsMany m_bodies m_ran m_actKind m_actN m_actA m_isParted []) → va_S A s.heap H locs → lv_has ls 4 [(2, .int i1), (0, .ref e0), (1, .int x0)] → f_X6_goes_L2 N x0 n i1 v2 = some m_s' → W p l e (headSpec wsX6_goes (rmX6_goes)).room s m (List.toArray [Value.ref e0, Value.int x0]) below meth c H locs 0 0 Q (F0 m 2 ls []) := by
      intro n
      induction n with
      | zero =>
        intro i1 v2 H locs ls hP hD hS hl hf
        exact absurd hf (fun h => by cases h)
      | succ n ih =>
        intro i1 v2 H locs ls hP hD hS hl hf
        rw [f_X6_goes_L2] at hf
        refine lv_iload_n hx hb dX6_goes_2 rfl (lv_at hl 0 rfl) ?_
        refine lv_iload_n hx hb dX6_goes_3 rfl (lv_at hl 2 rfl) ?_
        refine lv_icmp_ge (tgt := 18) hx hb dX6_goes_4 (by decide) (fun c3 => ?_) (fun c3 => ?_)
        · replace hf := if_te c3 hf
          cases hf
          exact krv hQ hAe hx hb hr hlocks hP hD hK hS dX6_goes_18
        · replace hf := if_fe c3 hf
          refine lv_aload_n hx hb dX6_goes_7 rfl (lv_at hl 1 rfl) ?_
          obtain ⟨r4, v5, h6, hf⟩ := ob2_e hf
          refine kmi (w1 := (oMM C e0 e1 e2 e3 e4 e5 e6 e7 e8 e9 e10 e11 e12 e13 e14 e15 v5 m_held m_aside m_before m_isHeld m_tape m_taped m_token m_from m_to m_value m_isWrong m_due m_firsts m_rows m_rowN m_sortOf m_sizeOf m_numbers m_holdsWhat m_holdsWhich m_holdsMany m_bodies m_ran m_actKind m_actN m_actA m_isParted [])) (va_runV (As := []) (rest := []) ⟨hx, hb, hml, hown, hts⟩ (c_X6_goesOn l E D C e0 e1 e2 e3 e4 e5 e6 e7 e8 e9 e10 e11 e12 e13 e14 e15 H.size N v2 m_held m_aside m_before m_isHeld m_tape m_taped m_token m_from m_to m_value m_isWrong m_due m_firsts m_rows m_rowN m_sortOf m_sizeOf m_numbers m_holdsWhat m_holdsWhich m_holdsMany m_bodies m_ran m_actKind m_actN m_actA m_isParted r4 v5 h6) (cwV 0 hts gX6_goes_X6_goesOn rfl rfl rfl hdX6_goesOn ⟨Nat.le_of_ble_eq_true rfl, Nat.le_of_ble_eq_true rfl⟩) (kpreM hP hD hK hS hE hA 0 rfl rfl rfl) rfl rfl hl.1 rfl (lv_room (Nat.le_of_ble_eq_true rfl)) dX6_goes_8 ⟨Nat.zero_le _, Nat.zero_le _⟩) hP hD hS hA rfl (fun H locs hP hD hS => ?_)
          refine lv_istore_n (lv' := [(3, .int r4), (2, .int i1), (0, .ref e0), (1, .int x0)]) hx hb dX6_goes_11 rfl hl (by decide) rfl (fun ls hl => ?_)
          obtain ⟨t7, et7, hf⟩ := lj_e hf
          refine lv_iinc (v := t7) (lv' := [(2, .int t7), (3, .int r4), (0, .ref e0), (1, .int x0)]) hx hb dX6_goes_12 hl (k := 1) rfl (by rw [et7]; rfl) (by decide) rfl (fun ls hl => ?_)
          refine lv_goto (tgt := 2) hx hb dX6_goes_15 (by decide) ?_
          exact ih t7 v5 H locs ls hP hD hS (lv_sub hl [0, 2, 3] rfl) hf
    exact hL2 N 0 m_s H locs ls hP hD hS (lv_sub hl [0, 1, 2] rfl) hf
  exact main _ _ hP hD hS

def rmX6_marked : Room := { frames := 1, cells := 0, slots := 0, locals := 22 }
theorem hdX6_marked : yX6_marked.cls = RX6 ∧ yX6_marked.cls ≠ "java/lang/invoke/MethodHandle" ∧ yX6_marked.cls ≠ "java/lang/invoke/VarHandle" ∧ (parseMethodDescriptor yX6_marked.desc).map (fun d => d.parameters.length) = some 0 := by decide +kernel
set_option maxHeartbeats 40000000 in
set_option maxRecDepth 100000 in
theorem c_X6_marked (l : Launch) (E : Nat → Nat) (D : va_G) (C : Nat → ClassId) (e0 e1 e2 e3 e4 e5 e6 e7 e8 e9 e10 e11 e12 e13 e14 e15 : Nat) (sz : Nat) (N : Nat) (m_s : Nat → Int32) (m_held : Nat → Int32) (m_aside : Nat → Int32) (m_before : Nat → Int32) (m_isHeld : Int32) (m_tape : Nat → Int32) (m_taped : Int32) (m_token : Int32) (m_from : Int32) (m_to : Int32) (m_value : Int32) (m_isWrong : Int32) (m_due : Nat → Int32) (m_firsts : Nat → Int32) (m_rows : Nat → Int32) (m_rowN : Int32) (m_sortOf : Nat → Int32) (m_sizeOf : Nat → Int32) (m_numbers : Nat → Int32) (m_holdsWhat : Nat → Int32) (m_holdsWhich : Nat → Int32) (m_holdsMany : Nat → Int32) (m_bodies : Nat → Int32) (m_ran : Int32) (m_actKind : Int32) (m_actN : Int32) (m_actA : Int32) (m_isParted : Int32)  (r : Int32) (hf : f_X6_marked N m_s = some r) : Met l yX6_marked wsX6_marked rmX6_marked (PC E D C [.ref e0] (oMM C e0 e1 e2 e3 e4 e5 e6 e7 e8 e9 e10 e11 e12 e13 e14 e15 m_s m_held m_aside m_before m_isHeld m_tape m_taped m_token m_from m_to m_value m_isWrong m_due m_firsts m_rows m_rowN m_sortOf m_sizeOf m_numbers m_holdsWhat m_holdsWhich m_holdsMany m_bodies m_ran m_actKind m_actN m_actA m_isParted []) sz) (QI D C (oMM C e0 e1 e2 e3 e4 e5 e6 e7 e8 e9 e10 e11 e12 e13 e14 e15 m_s m_held m_aside m_before m_isHeld m_tape m_taped m_token m_from m_to m_value m_isWrong m_due m_firsts m_rows m_rowN m_sortOf m_sizeOf m_numbers m_holdsWhat m_holdsWhich m_holdsMany m_bodies m_ran m_actKind m_actN m_actA m_isParted []) (oMM C e0 e1 e2 e3 e4 e5 e6 e7 e8 e9 e10 e11 e12 e13 e14 e15 m_s m_held m_aside m_before m_isHeld m_tape m_taped m_token m_from m_to m_value m_isWrong m_due m_firsts m_rows m_rowN m_sortOf m_sizeOf m_numbers m_holdsWhat m_holdsWhich m_holdsMany m_bodies m_ran m_actKind m_actN m_actA m_isParted []) sz r) 0 0 (va_A (oMM C e0 e1 e2 e3 e4 e5 e6 e7 e8 e9 e10 e11 e12 e13 e14 e15 m_s m_held m_aside m_before m_isHeld m_tape m_taped m_token m_from m_to m_value m_isWrong m_due m_firsts m_rows m_rowN m_sortOf m_sizeOf m_numbers m_holdsWhat m_holdsWhich m_holdsMany m_bodies m_ran m_actKind m_actN m_actA m_isParted []) sz) := by
  refine Met.ofW (cc := cX6_marked) (maxL := 3) (ret := (some .int)) (by decide) rfl ?_
  intro p e s m args below meth c s₁ B hml hv
  obtain ⟨rfl, hsz, hP, hK, hD0, hE⟩ := hv
  have hx := B.exec
  have hb := B.bytes
  have hr := B.returns
  have hts := atoms_spec (ws := wsX6_marked) B.pre
  have hown : s.vm.findClass RX6 = some m.cls := findClass_of_methodNamed B.named
  have hlocks := B.notSynchronized
  subst hsz
  have hi_RX6 : ∀ w ∈ wsX60, w ∈ wsX6_marked := fun _ h => List.mem_cons_of_mem _ (List.mem_append_right _ h)
  have hD := hD0.self (sz := s.heap.size)
  obtain ⟨A, hAe⟩ := nm_ex (va_A (oMM C e0 e1 e2 e3 e4 e5 e6 e7 e8 e9 e10 e11 e12 e13 e14 e15 m_s m_held m_aside m_before m_isHeld m_tape m_taped m_token m_from m_to m_value m_isWrong m_due m_firsts m_rows m_rowN m_sortOf m_sizeOf m_numbers m_holdsWhat m_holdsWhich m_holdsMany m_bodies m_ran m_actKind m_actN m_actA m_isParted []) s.heap.size)
  rw [← hAe] at hD hE ⊢
  have hA : ∀ q : Nat, s.heap.size ≤ q → A q := fun q h => by rw [hAe]; exact Or.inr h
  have hS : va_S A s.heap s.heap [] := va_S.rf
  have hl := lv_entry ([.ref e0]) (n := 3) (Nat.le_of_ble_eq_true rfl)
  rw [lg_entry_eq]
  generalize (lg_sl ([.ref e0]) ++ List.replicate (3 - (lg_sl ([.ref e0])).length) Slot.unset).toArray = ls at hl ⊢
  have hl : lv_has ls 3 [(0, .ref e0)] := hl
  obtain ⟨Q, hQ⟩ := nm_ex (MQ below (QI D C (oMM C e0 e1 e2 e3 e4 e5 e6 e7 e8 e9 e10 e11 e12 e13 e14 e15 m_s m_held m_aside m_before m_isHeld m_tape m_taped m_token m_from m_to m_value m_isWrong m_due m_firsts m_rows m_rowN m_sortOf m_sizeOf m_numbers m_holdsWhat m_holdsWhich m_holdsMany m_bodies m_ran m_actKind m_actN m_actA m_isParted []) (oMM C e0 e1 e2 e3 e4 e5 e6 e7 e8 e9 e10 e11 e12 e13 e14 e15 m_s m_held m_aside m_before m_isHeld m_tape m_taped m_token m_from m_to m_value m_isWrong m_due m_firsts m_rows m_rowN m_sortOf m_sizeOf m_numbers m_holdsWhat m_holdsWhich m_holdsMany m_bodies m_ran m_actKind m_actN m_actA m_isParted []) s.heap.size r) (List.toArray [Value.ref e0]) s 0 0 A)
  show W p l e (headSpec wsX6_marked (rmX6_marked)).room s m (List.toArray [Value.ref e0]) below meth c s.heap [] 0 0 (MQ below (QI D C (oMM C e0 e1 e2 e3 e4 e5 e6 e7 e8 e9 e10 e11 e12 e13 e14 e15 m_s m_held m_aside m_before m_isHeld m_tape m_taped m_token m_from m_to m_value m_isWrong m_due m_firsts m_rows m_rowN m_sortOf m_sizeOf m_numbers m_holdsWhat m_holdsWhich m_holdsMany m_bodies m_ran m_actKind m_actN m_actA m_isParted []) (oMM C e0 e1 e2 e3 e4 e5 e6 e7 e8 e9 e10 e11 e12 e13 e14 e15 m_s m_held m_aside m_before m_isHeld m_tape m_taped m_token m_from m_to m_value m_isWrong m_due m_firsts m_rows m_rowN m_sortOf m_sizeOf m_numbers m_holdsWhat m_holdsWhich m_holdsMany m_bodies m_ran m_actKind m_actN m_actA m_isParted []) s.heap.size r) (List.toArray [Value.ref e0]) s 0 0 A) _
  rw [← hQ]
  unfold f_X6_marked at hf
  have main : ∀ (H : Heap) (locs : List Loc), va_P D vwCl (oMM C e0 e1 e2 e3 e4 e5 e6 e7 e8 e9 e10 e11 e12 e13 e14 e15 m_s m_held m_aside m_before m_isHeld m_tape m_taped m_token m_from m_to m_value m_isWrong m_due m_firsts m_rows m_rowN m_sortOf m_sizeOf m_numbers m_holdsWhat m_holdsWhich m_holdsMany m_bodies m_ran m_actKind m_actN m_actA m_isParted []) H → va_D A (oMM C e0 e1 e2 e3 e4 e5 e6 e7 e8 e9 e10 e11 e12 e13 e14 e15 m_s m_held m_aside m_before m_isHeld m_tape m_taped m_token m_from m_to m_value m_isWrong m_due m_firsts m_rows m_rowN m_sortOf m_sizeOf m_numbers m_holdsWhat m_holdsWhich m_holdsMany m_bodies m_ran m_actKind m_actN m_actA m_isParted []) → va_S A s.heap H locs → W p l e (headSpec wsX6_marked (rmX6_marked)).room s m (List.toArray [Value.ref e0]) below meth c H locs 0 0 Q (F0 m 0 ls []) := by
    intro H locs hP hD hS
    refine lv_iconst (v := 0) hx hb dX6_marked_0 rfl ?_
    refine lv_istore_n (lv' := [(1, .int 0), (0, .ref e0)]) hx hb dX6_marked_1 rfl hl (by decide) rfl (fun ls hl => ?_)
    refine lv_iconst (v := 0) hx hb dX6_marked_2 rfl ?_
    refine lv_istore_n (lv' := [(2, .int 0), (1, .int 0), (0, .ref e0)]) hx hb dX6_marked_3 rfl hl (by decide) rfl (fun ls hl => ?_)
    have hL4 : ∀ (n : Nat) (i1 : Int32) (i2 : Int32) (H : Heap) (locs : List Loc) (ls : Array Slot), va_P D vwCl (oMM C e0 e1 e2 e3 e4 e5 e6 e7 e8 e9 e10 e11 e12 e13 e14 e15 m_s m_held m_aside m_before m_isHeld m_tape m_taped m_token m_from m_to m_value m_isWrong m_due m_firsts m_rows m_rowN m_sortOf m_sizeOf m_numbers m_holdsWhat m_holdsWhich m_holdsMany m_bodies m_ran m_actKind m_actN m_actA m_isParted []) H → va_D A (oMM C e0 e1 e2 e3 e4 e5 e6 e7 e8 e9 e10 e11 e12 e13 e14 e15 m_s m_held m_aside m_before m_isHeld m_tape m_taped m_token m_from m_to m_value m_isWrong m_due m_firsts m_rows m_rowN m_sortOf m_sizeOf m_numbers m_holdsWhat m_holdsWhich m_holdsMany m_bodies m_ran m_actKind m_actN m_actA m_isParted []) → va_S A s.heap H locs → lv_has ls 3 [(2, .int i1), (1, .int i2), (0, .ref e0)] → f_X6_marked_L4 m_s n i1 i2 = some r → W p l e (headSpec wsX6_marked (rmX6_marked)).room s m (List.toArray [Value.ref e0]) below meth c H locs 0 0 Q (F0 m 4 ls []) := by
      intro n
      induction n with
      | zero =>
        intro i1 i2 H locs ls hP hD hS hl hf
        exact absurd hf (fun h => by cases h)
      | succ n ih =>
        intro i1 i2 H locs ls hP hD hS hl hf
        rw [f_X6_marked_L4] at hf
        refine lv_iload_n hx hb dX6_marked_4 rfl (lv_at hl 0 rfl) ?_
        refine lv_aload_n hx hb dX6_marked_5 rfl (lv_at hl 2 rfl) ?_
        refine va_get (D := D) (ci := 6) (v := .ref e1) (C := RX6) (T := TX6) (N := 28) hx hb hts hi_RX6 hown hK hP 0 rfl rfl 0 (by decide) (hts (.fieldLink RX6 7 "TravelMarksModel" "s" "[I") (List.mem_of_getElem? (i := 1) rfl)) (fun _ h9 => h9) rfl dX6_marked_6 ?_
        refine lv_iconst (v := 0) hx hb dX6_marked_9 rfl ?_
        refine va_iald hx hb hK hP 1 0 rfl rfl (i := 0) (vin (by decide)) dX6_marked_10 ?_
        refine lv_ren (show (m_s 0) = m_s (Int32.toNatClampNeg 0) from rfl) ?_
        refine lv_icmp_ge (tgt := 31) hx hb dX6_marked_11 (by decide) (fun c3 => ?_) (fun c3 => ?_)
        · replace hf := if_te c3 hf
          refine lv_iload_n hx hb dX6_marked_31 rfl (lv_at hl 1 rfl) ?_
          cases hf
          exact kri hQ hAe hx hb hr hlocks hP hD hK hS dX6_marked_32
        · replace hf := if_fe c3 hf
          refine lv_iload_n hx hb dX6_marked_14 rfl (lv_at hl 1 rfl) ?_
          refine lv_iconst (v := 1) hx hb dX6_marked_15 rfl ?_
          refine lv_aload_n hx hb dX6_marked_16 rfl (lv_at hl 2 rfl) ?_
          refine lv_iload_n hx hb dX6_marked_17 rfl (lv_at hl 0 rfl) ?_
          refine lv_iconst (v := 2) hx hb dX6_marked_18 rfl ?_
          obtain ⟨r4, h5, hf⟩ := ob1_e hf
          refine kmi (w1 := (oMM C e0 e1 e2 e3 e4 e5 e6 e7 e8 e9 e10 e11 e12 e13 e14 e15 m_s m_held m_aside m_before m_isHeld m_tape m_taped m_token m_from m_to m_value m_isWrong m_due m_firsts m_rows m_rowN m_sortOf m_sizeOf m_numbers m_holdsWhat m_holdsWhich m_holdsMany m_bodies m_ran m_actKind m_actN m_actA m_isParted [])) (va_runV (As := [.int i1, .int 2]) (rest := [.int 1, .int i2]) ⟨hx, hb, hml, hown, hts⟩ (c_X6_its l E D C e0 e1 e2 e3 e4 e5 e6 e7 e8 e9 e10 e11 e12 e13 e14 e15 H.size m_s m_held m_aside m_before m_isHeld m_tape m_taped m_token m_from m_to m_value m_isWrong m_due m_firsts m_rows m_rowN m_sortOf m_sizeOf m_numbers m_holdsWhat m_holdsWhich m_holdsMany m_bodies m_ran m_actKind m_actN m_actA m_isParted i1 2 r4 h5) (cwV 2 hts gX6_marked_X6_its rfl rfl rfl hdX6_its ⟨Nat.le_of_ble_eq_true rfl, Nat.le_of_ble_eq_true rfl⟩) (kpreM hP hD hK hS hE hA 0 rfl rfl rfl) rfl rfl hl.1 rfl (lv_room (Nat.le_of_ble_eq_true rfl)) dX6_marked_19 ⟨Nat.zero_le _, Nat.zero_le _⟩) hP hD hS hA rfl (fun H locs hP hD hS => ?_)
          refine lv_ishl hx hb dX6_marked_22 ?_
          refine lv_ior hx hb dX6_marked_23 ?_
          obtain ⟨t6, et6, hf⟩ := lj_e hf
          refine lv_ren et6 ?_
          refine lv_istore_n (lv' := [(1, .int t6), (2, .int i1), (0, .ref e0)]) hx hb dX6_marked_24 rfl hl (by decide) rfl (fun ls hl => ?_)
          obtain ⟨t7, et7, hf⟩ := lj_e hf
          refine lv_iinc (v := t7) (lv' := [(2, .int t7), (1, .int t6), (0, .ref e0)]) hx hb dX6_marked_25 hl (k := 1) rfl (by rw [et7]; rfl) (by decide) rfl (fun ls hl => ?_)
          refine lv_goto (tgt := 4) hx hb dX6_marked_28 (by decide) ?_
          exact ih t7 t6 H locs ls hP hD hS (lv_sub hl [0, 1, 2] rfl) hf
    exact hL4 N 0 0 H locs ls hP hD hS (lv_sub hl [0, 1, 2] rfl) hf
  exact main _ _ hP hD hS

def rmX6_hours : Room := { frames := 7, cells := 0, slots := 0, locals := 165 }
theorem hdX6_hours : yX6_hours.cls = RX6 ∧ yX6_hours.cls ≠ "java/lang/invoke/MethodHandle" ∧ yX6_hours.cls ≠ "java/lang/invoke/VarHandle" ∧ (parseMethodDescriptor yX6_hours.desc).map (fun d => d.parameters.length) = some 1 := by decide +kernel
set_option maxHeartbeats 40000000 in
set_option maxRecDepth 100000 in
theorem c_X6_hours (l : Launch) (E : Nat → Nat) (D : va_G) (C : Nat → ClassId) (e0 e1 e2 e3 e4 e5 e6 e7 e8 e9 e10 e11 e12 e13 e14 e15 : Nat) (sz : Nat) (N : Nat) (m_s : Nat → Int32) (m_held : Nat → Int32) (m_aside : Nat → Int32) (m_before : Nat → Int32) (m_isHeld : Int32) (m_tape : Nat → Int32) (m_taped : Int32) (m_token : Int32) (m_from : Int32) (m_to : Int32) (m_value : Int32) (m_isWrong : Int32) (m_due : Nat → Int32) (m_firsts : Nat → Int32) (m_rows : Nat → Int32) (m_rowN : Int32) (m_sortOf : Nat → Int32) (m_sizeOf : Nat → Int32) (m_numbers : Nat → Int32) (m_holdsWhat : Nat → Int32) (m_holdsWhich : Nat → Int32) (m_holdsMany : Nat → Int32) (m_bodies : Nat → Int32) (m_ran : Int32) (m_actKind : Int32) (m_actN : Int32) (m_actA : Int32) (m_isParted : Int32) (x0 : Int32) (r : Int32) (m_s' : Nat → Int32) (hf : f_X6_hours N m_s x0 = some (r, m_s')) : Met l yX6_hours wsX6_hours rmX6_hours (PC E D C [.ref e0, .int x0] (oMM C e0 e1 e2 e3 e4 e5 e6 e7 e8 e9 e10 e11 e12 e13 e14 e15 m_s m_held m_aside m_before m_isHeld m_tape m_taped m_token m_from m_to m_value m_isWrong m_due m_firsts m_rows m_rowN m_sortOf m_sizeOf m_numbers m_holdsWhat m_holdsWhich m_holdsMany m_bodies m_ran m_actKind m_actN m_actA m_isParted []) sz) (QI D C (oMM C e0 e1 e2 e3 e4 e5 e6 e7 e8 e9 e10 e11 e12 e13 e14 e15 m_s m_held m_aside m_before m_isHeld m_tape m_taped m_token m_from m_to m_value m_isWrong m_due m_firsts m_rows m_rowN m_sortOf m_sizeOf m_numbers m_holdsWhat m_holdsWhich m_holdsMany m_bodies m_ran m_actKind m_actN m_actA m_isParted []) (oMM C e0 e1 e2 e3 e4 e5 e6 e7 e8 e9 e10 e11 e12 e13 e14 e15 (m_s') m_held m_aside m_before m_isHeld m_tape m_taped m_token m_from m_to m_value m_isWrong m_due m_firsts m_rows m_rowN m_sortOf m_sizeOf m_numbers m_holdsWhat m_holdsWhich m_holdsMany m_bodies m_ran m_actKind m_actN m_actA m_isParted []) sz r) 0 0 (va_A (oMM C e0 e1 e2 e3 e4 e5 e6 e7 e8 e9 e10 e11 e12 e13 e14 e15 m_s m_held m_aside m_before m_isHeld m_tape m_taped m_token m_from m_to m_value m_isWrong m_due m_firsts m_rows m_rowN m_sortOf m_sizeOf m_numbers m_holdsWhat m_holdsWhich m_holdsMany m_bodies m_ran m_actKind m_actN m_actA m_isParted []) sz) := by
  refine Met.ofW (cc := cX6_hours) (maxL := 2) (ret := (some .int)) (by decide) rfl ?_
  intro p e s m args below meth c s₁ B hml hv
  obtain ⟨rfl, hsz, hP, hK, hD0, hE⟩ := hv
  have hx := B.exec
  have hb := B.bytes
  have hr := B.returns
  have hts := atoms_spec (ws := wsX6_hours) B.pre
  have hown : s.vm.findClass RX6 = some m.cls := findClass_of_methodNamed B.named
  have hlocks := B.notSynchronized
  subst hsz
  have hD := hD0.self (sz := s.heap.size)
  obtain ⟨A, hAe⟩ := nm_ex (va_A (oMM C e0 e1 e2 e3 e4 e5 e6 e7 e8 e9 e10 e11 e12 e13 e14 e15 m_s m_held m_aside m_before m_isHeld m_tape m_taped m_token m_from m_to m_value m_isWrong m_due m_firsts m_rows m_rowN m_sortOf m_sizeOf m_numbers m_holdsWhat m_holdsWhich m_holdsMany m_bodies m_ran m_actKind m_actN m_actA m_isParted []) s.heap.size)
  rw [← hAe] at hD hE ⊢
  have hA : ∀ q : Nat, s.heap.size ≤ q → A q := fun q h => by rw [hAe]; exact Or.inr h
  have hS : va_S A s.heap s.heap [] := va_S.rf
  have hl := lv_entry ([.ref e0, .int x0]) (n := 2) (Nat.le_of_ble_eq_true rfl)
  rw [lg_entry_eq]
  generalize (lg_sl ([.ref e0, .int x0]) ++ List.replicate (2 - (lg_sl ([.ref e0, .int x0])).length) Slot.unset).toArray = ls at hl ⊢
  have hl : lv_has ls 2 [(0, .ref e0), (1, .int x0)] := hl
  obtain ⟨Q, hQ⟩ := nm_ex (MQ below (QI D C (oMM C e0 e1 e2 e3 e4 e5 e6 e7 e8 e9 e10 e11 e12 e13 e14 e15 m_s m_held m_aside m_before m_isHeld m_tape m_taped m_token m_from m_to m_value m_isWrong m_due m_firsts m_rows m_rowN m_sortOf m_sizeOf m_numbers m_holdsWhat m_holdsWhich m_holdsMany m_bodies m_ran m_actKind m_actN m_actA m_isParted []) (oMM C e0 e1 e2 e3 e4 e5 e6 e7 e8 e9 e10 e11 e12 e13 e14 e15 (m_s') m_held m_aside m_before m_isHeld m_tape m_taped m_token m_from m_to m_value m_isWrong m_due m_firsts m_rows m_rowN m_sortOf m_sizeOf m_numbers m_holdsWhat m_holdsWhich m_holdsMany m_bodies m_ran m_actKind m_actN m_actA m_isParted []) s.heap.size r) (List.toArray [Value.ref e0, Value.int x0]) s 0 0 A)
  show W p l e (headSpec wsX6_hours (rmX6_hours)).room s m (List.toArray [Value.ref e0, Value.int x0]) below meth c s.heap [] 0 0 (MQ below (QI D C (oMM C e0 e1 e2 e3 e4 e5 e6 e7 e8 e9 e10 e11 e12 e13 e14 e15 m_s m_held m_aside m_before m_isHeld m_tape m_taped m_token m_from m_to m_value m_isWrong m_due m_firsts m_rows m_rowN m_sortOf m_sizeOf m_numbers m_holdsWhat m_holdsWhich m_holdsMany m_bodies m_ran m_actKind m_actN m_actA m_isParted []) (oMM C e0 e1 e2 e3 e4 e5 e6 e7 e8 e9 e10 e11 e12 e13 e14 e15 (m_s') m_held m_aside m_before m_isHeld m_tape m_taped m_token m_from m_to m_value m_isWrong m_due m_firsts m_rows m_rowN m_sortOf m_sizeOf m_numbers m_holdsWhat m_holdsWhich m_holdsMany m_bodies m_ran m_actKind m_actN m_actA m_isParted []) s.heap.size r) (List.toArray [Value.ref e0, Value.int x0]) s 0 0 A) _
  rw [← hQ]
  unfold f_X6_hours at hf
  have main : ∀ (H : Heap) (locs : List Loc), va_P D vwCl (oMM C e0 e1 e2 e3 e4 e5 e6 e7 e8 e9 e10 e11 e12 e13 e14 e15 m_s m_held m_aside m_before m_isHeld m_tape m_taped m_token m_from m_to m_value m_isWrong m_due m_firsts m_rows m_rowN m_sortOf m_sizeOf m_numbers m_holdsWhat m_holdsWhich m_holdsMany m_bodies m_ran m_actKind m_actN m_actA m_isParted []) H → va_D A (oMM C e0 e1 e2 e3 e4 e5 e6 e7 e8 e9 e10 e11 e12 e13 e14 e15 m_s m_held m_aside m_before m_isHeld m_tape m_taped m_token m_from m_to m_value m_isWrong m_due m_firsts m_rows m_rowN m_sortOf m_sizeOf m_numbers m_holdsWhat m_holdsWhich m_holdsMany m_bodies m_ran m_actKind m_actN m_actA m_isParted []) → va_S A s.heap H locs → W p l e (headSpec wsX6_hours (rmX6_hours)).room s m (List.toArray [Value.ref e0, Value.int x0]) below meth c H locs 0 0 Q (F0 m 0 ls []) := by
    intro H locs hP hD hS
    refine lv_iload_n hx hb dX6_hours_0 rfl (lv_at hl 1 rfl) ?_
    refine lv_i2l hx hb dX6_hours_1 rfl ?_
    refine lv_lconst (v := 1) hx hb dX6_hours_2 rfl ?_
    refine lv_ldc2 (v := 60) hx hb hown (hts (.constantLong RX6 213 (60)) (List.mem_of_getElem? (i := 1) rfl)) dX6_hours_3 ?_
    refine kcz (Wx := (oMM C e0 e1 e2 e3 e4 e5 e6 e7 e8 e9 e10 e11 e12 e13 e14 e15 m_s m_held m_aside m_before m_isHeld m_tape m_taped m_token m_from m_to m_value m_isWrong m_due m_firsts m_rows m_rowN m_sortOf m_sizeOf m_numbers m_holdsWhat m_holdsWhich m_holdsMany m_bodies m_ran m_actKind m_actN m_actA m_isParted [])) (va_runS (As := [.long (Int32.toInt64 x0), .long 1, .long 60]) (rest := []) ⟨hx, hb, hml, hown, hts⟩ (c_X6_isIn l E D C H.size (Int32.toInt64 x0) 1 60 _ rfl) (va_cwS 3 hts gX6_hours_X6_isIn rfl rfl rfl hdX6_isIn ⟨Nat.le_of_ble_eq_true rfl, Nat.le_of_ble_eq_true rfl⟩) (kpre hP hD hK hS hE hA [] rfl rfl) rfl rfl hl.1 rfl (lv_room (Nat.le_of_ble_eq_true rfl)) dX6_hours_6 ⟨Nat.zero_le _, Nat.zero_le _⟩) hP hD hS hA [] rfl rfl rfl (fun H locs hz1 hP hD hS => ?_)
    refine lv_if_ne (tgt := 14) hx hb dX6_hours_9 (by decide) (fun c2 => ?_) (fun c2 => ?_)
    · replace hf := if_fe c2 hf
      refine lv_aload_n hx hb dX6_hours_14 rfl (lv_at hl 0 rfl) ?_
      refine lv_iload_n hx hb dX6_hours_15 rfl (lv_at hl 1 rfl) ?_
      obtain ⟨v3, h4, hf⟩ := ob1_e hf
      refine kmv (w1 := (oMM C e0 e1 e2 e3 e4 e5 e6 e7 e8 e9 e10 e11 e12 e13 e14 e15 v3 m_held m_aside m_before m_isHeld m_tape m_taped m_token m_from m_to m_value m_isWrong m_due m_firsts m_rows m_rowN m_sortOf m_sizeOf m_numbers m_holdsWhat m_holdsWhich m_holdsMany m_bodies m_ran m_actKind m_actN m_actA m_isParted [])) (va_runV (As := [.int x0]) (rest := []) ⟨hx, hb, hml, hown, hts⟩ (c_X6_goes l E D C e0 e1 e2 e3 e4 e5 e6 e7 e8 e9 e10 e11 e12 e13 e14 e15 H.size N m_s m_held m_aside m_before m_isHeld m_tape m_taped m_token m_from m_to m_value m_isWrong m_due m_firsts m_rows m_rowN m_sortOf m_sizeOf m_numbers m_holdsWhat m_holdsWhich m_holdsMany m_bodies m_ran m_actKind m_actN m_actA m_isParted x0 v3 h4) (cwV 1 hts gX6_hours_X6_goes rfl rfl rfl hdX6_goes ⟨Nat.le_of_ble_eq_true rfl, Nat.le_of_ble_eq_true rfl⟩) (kpreM hP hD hK hS hE hA 0 rfl rfl rfl) rfl rfl hl.1 rfl (lv_room (Nat.le_of_ble_eq_true rfl)) dX6_hours_16 ⟨Nat.zero_le _, Nat.zero_le _⟩) hP hD hS hA rfl (fun H locs hP hD hS => ?_)
      refine lv_aload_n hx hb dX6_hours_19 rfl (lv_at hl 0 rfl) ?_
      obtain ⟨r5, h6, hf⟩ := ob1_e hf
      refine kmi (w1 := (oMM C e0 e1 e2 e3 e4 e5 e6 e7 e8 e9 e10 e11 e12 e13 e14 e15 v3 m_held m_aside m_before m_isHeld m_tape m_taped m_token m_from m_to m_value m_isWrong m_due m_firsts m_rows m_rowN m_sortOf m_sizeOf m_numbers m_holdsWhat m_holdsWhich m_holdsMany m_bodies m_ran m_actKind m_actN m_actA m_isParted [])) (va_runV (As := []) (rest := []) ⟨hx, hb, hml, hown, hts⟩ (c_X6_marked l E D C e0 e1 e2 e3 e4 e5 e6 e7 e8 e9 e10 e11 e12 e13 e14 e15 H.size N v3 m_held m_aside m_before m_isHeld m_tape m_taped m_token m_from m_to m_value m_isWrong m_due m_firsts m_rows m_rowN m_sortOf m_sizeOf m_numbers m_holdsWhat m_holdsWhich m_holdsMany m_bodies m_ran m_actKind m_actN m_actA m_isParted r5 h6) (cwV 0 hts gX6_hours_X6_marked rfl rfl rfl hdX6_marked ⟨Nat.le_of_ble_eq_true rfl, Nat.le_of_ble_eq_true rfl⟩) (kpreM hP hD hK hS hE hA 0 rfl rfl rfl) rfl rfl hl.1 rfl (lv_room (Nat.le_of_ble_eq_true rfl)) dX6_hours_20 ⟨Nat.zero_le _, Nat.zero_le _⟩) hP hD hS hA rfl (fun H locs hP hD hS => ?_)
      obtain ⟨r7, h8, hf⟩ := ob1_e hf
      refine kci (Wx := (oMM C e0 e1 e2 e3 e4 e5 e6 e7 e8 e9 e10 e11 e12 e13 e14 e15 v3 m_held m_aside m_before m_isHeld m_tape m_taped m_token m_from m_to m_value m_isWrong m_due m_firsts m_rows m_rowN m_sortOf m_sizeOf m_numbers m_holdsWhat m_holdsWhich m_holdsMany m_bodies m_ran m_actKind m_actN m_actA m_isParted [])) (va_runS (As := [.int r5]) (rest := []) ⟨hx, hb, hml, hown, hts⟩ (c_X6_size l E D C H.size N r5 r7 h8) (va_cwS 1 hts gX6_hours_X6_size rfl rfl rfl hdX6_size ⟨Nat.le_of_ble_eq_true rfl, Nat.le_of_ble_eq_true rfl⟩) (kpre hP hD hK hS hE hA [] rfl rfl) rfl rfl hl.1 rfl (lv_room (Nat.le_of_ble_eq_true rfl)) dX6_hours_23 ⟨Nat.zero_le _, Nat.zero_le _⟩) hP hD hS hA [] rfl rfl rfl (fun H locs hP hD hS => ?_)
      cases hf
      exact kri hQ hAe hx hb hr hlocks hP hD hK hS dX6_hours_26
    · replace hf := if_te c2 hf
      refine lv_iconst (v := (-1)) hx hb dX6_hours_12 rfl ?_
      cases hf
      exact kri hQ hAe hx hb hr hlocks hP hD hK hS dX6_hours_13
  exact main _ _ hP hD hS

def rmX6_seed : Room := { frames := 1, cells := 0, slots := 0, locals := 23 }
theorem hdX6_seed : yX6_seed.cls = RX6 ∧ yX6_seed.cls ≠ "java/lang/invoke/MethodHandle" ∧ yX6_seed.cls ≠ "java/lang/invoke/VarHandle" ∧ (parseMethodDescriptor yX6_seed.desc).map (fun d => d.parameters.length) = some 1 := by decide +kernel
set_option maxHeartbeats 40000000 in
set_option maxRecDepth 100000 in
theorem c_X6_seed (l : Launch) (E : Nat → Nat) (D : va_G) (C : Nat → ClassId) (e0 e1 e2 e3 e4 e5 e6 e7 e8 e9 e10 e11 e12 e13 e14 e15 : Nat) (sz : Nat) (m_s : Nat → Int32) (m_held : Nat → Int32) (m_aside : Nat → Int32) (m_before : Nat → Int32) (m_isHeld : Int32) (m_tape : Nat → Int32) (m_taped : Int32) (m_token : Int32) (m_from : Int32) (m_to : Int32) (m_value : Int32) (m_isWrong : Int32) (m_due : Nat → Int32) (m_firsts : Nat → Int32) (m_rows : Nat → Int32) (m_rowN : Int32) (m_sortOf : Nat → Int32) (m_sizeOf : Nat → Int32) (m_numbers : Nat → Int32) (m_holdsWhat : Nat → Int32) (m_holdsWhich : Nat → Int32) (m_holdsMany : Nat → Int32) (m_bodies : Nat → Int32) (m_ran : Int32) (m_actKind : Int32) (m_actN : Int32) (m_actA : Int32) (m_isParted : Int32) (x0 : Int32) (r : Int32) (m_s' : Nat → Int32) (hf : f_X6_seed m_s x0 = some (r, m_s')) : Met l yX6_seed wsX6_seed rmX6_seed (PC E D C [.ref e0, .int x0] (oMM C e0 e1 e2 e3 e4 e5 e6 e7 e8 e9 e10 e11 e12 e13 e14 e15 m_s m_held m_aside m_before m_isHeld m_tape m_taped m_token m_from m_to m_value m_isWrong m_due m_firsts m_rows m_rowN m_sortOf m_sizeOf m_numbers m_holdsWhat m_holdsWhich m_holdsMany m_bodies m_ran m_actKind m_actN m_actA m_isParted []) sz) (QI D C (oMM C e0 e1 e2 e3 e4 e5 e6 e7 e8 e9 e10 e11 e12 e13 e14 e15 m_s m_held m_aside m_before m_isHeld m_tape m_taped m_token m_from m_to m_value m_isWrong m_due m_firsts m_rows m_rowN m_sortOf m_sizeOf m_numbers m_holdsWhat m_holdsWhich m_holdsMany m_bodies m_ran m_actKind m_actN m_actA m_isParted []) (oMM C e0 e1 e2 e3 e4 e5 e6 e7 e8 e9 e10 e11 e12 e13 e14 e15 (m_s') m_held m_aside m_before m_isHeld m_tape m_taped m_token m_from m_to m_value m_isWrong m_due m_firsts m_rows m_rowN m_sortOf m_sizeOf m_numbers m_holdsWhat m_holdsWhich m_holdsMany m_bodies m_ran m_actKind m_actN m_actA m_isParted []) sz r) 0 0 (va_A (oMM C e0 e1 e2 e3 e4 e5 e6 e7 e8 e9 e10 e11 e12 e13 e14 e15 m_s m_held m_aside m_before m_isHeld m_tape m_taped m_token m_from m_to m_value m_isWrong m_due m_firsts m_rows m_rowN m_sortOf m_sizeOf m_numbers m_holdsWhat m_holdsWhich m_holdsMany m_bodies m_ran m_actKind m_actN m_actA m_isParted []) sz) := by
  refine Met.ofW (cc := cX6_seed) (maxL := 2) (ret := (some .int)) (by decide) rfl ?_
  intro p e s m args below meth c s₁ B hml hv
  obtain ⟨rfl, hsz, hP, hK, hD0, hE⟩ := hv
  have hx := B.exec
  have hb := B.bytes
  have hr := B.returns
  have hts := atoms_spec (ws := wsX6_seed) B.pre
  have hown : s.vm.findClass RX6 = some m.cls := findClass_of_methodNamed B.named
  have hlocks := B.notSynchronized
  subst hsz
  have hD := hD0.self (sz := s.heap.size)
  obtain ⟨A, hAe⟩ := nm_ex (va_A (oMM C e0 e1 e2 e3 e4 e5 e6 e7 e8 e9 e10 e11 e12 e13 e14 e15 m_s m_held m_aside m_before m_isHeld m_tape m_taped m_token m_from m_to m_value m_isWrong m_due m_firsts m_rows m_rowN m_sortOf m_sizeOf m_numbers m_holdsWhat m_holdsWhich m_holdsMany m_bodies m_ran m_actKind m_actN m_actA m_isParted []) s.heap.size)
  rw [← hAe] at hD hE ⊢
  have hA : ∀ q : Nat, s.heap.size ≤ q → A q := fun q h => by rw [hAe]; exact Or.inr h
  have hS : va_S A s.heap s.heap [] := va_S.rf
  have hl := lv_entry ([.ref e0, .int x0]) (n := 2) (Nat.le_of_ble_eq_true rfl)
  rw [lg_entry_eq]
  generalize (lg_sl ([.ref e0, .int x0]) ++ List.replicate (2 - (lg_sl ([.ref e0, .int x0])).length) Slot.unset).toArray = ls at hl ⊢
  have hl : lv_has ls 2 [(0, .ref e0), (1, .int x0)] := hl
  obtain ⟨Q, hQ⟩ := nm_ex (MQ below (QI D C (oMM C e0 e1 e2 e3 e4 e5 e6 e7 e8 e9 e10 e11 e12 e13 e14 e15 m_s m_held m_aside m_before m_isHeld m_tape m_taped m_token m_from m_to m_value m_isWrong m_due m_firsts m_rows m_rowN m_sortOf m_sizeOf m_numbers m_holdsWhat m_holdsWhich m_holdsMany m_bodies m_ran m_actKind m_actN m_actA m_isParted []) (oMM C e0 e1 e2 e3 e4 e5 e6 e7 e8 e9 e10 e11 e12 e13 e14 e15 (m_s') m_held m_aside m_before m_isHeld m_tape m_taped m_token m_from m_to m_value m_isWrong m_due m_firsts m_rows m_rowN m_sortOf m_sizeOf m_numbers m_holdsWhat m_holdsWhich m_holdsMany m_bodies m_ran m_actKind m_actN m_actA m_isParted []) s.heap.size r) (List.toArray [Value.ref e0, Value.int x0]) s 0 0 A)
  show W p l e (headSpec wsX6_seed (rmX6_seed)).room s m (List.toArray [Value.ref e0, Value.int x0]) below meth c s.heap [] 0 0 (MQ below (QI D C (oMM C e0 e1 e2 e3 e4 e5 e6 e7 e8 e9 e10 e11 e12 e13 e14 e15 m_s m_held m_aside m_before m_isHeld m_tape m_taped m_token m_from m_to m_value m_isWrong m_due m_firsts m_rows m_rowN m_sortOf m_sizeOf m_numbers m_holdsWhat m_holdsWhich m_holdsMany m_bodies m_ran m_actKind m_actN m_actA m_isParted []) (oMM C e0 e1 e2 e3 e4 e5 e6 e7 e8 e9 e10 e11 e12 e13 e14 e15 (m_s') m_held m_aside m_before m_isHeld m_tape m_taped m_token m_from m_to m_value m_isWrong m_due m_firsts m_rows m_rowN m_sortOf m_sizeOf m_numbers m_holdsWhat m_holdsWhich m_holdsMany m_bodies m_ran m_actKind m_actN m_actA m_isParted []) s.heap.size r) (List.toArray [Value.ref e0, Value.int x0]) s 0 0 A) _
  rw [← hQ]
  unfold f_X6_seed at hf
  have main : ∀ (H : Heap) (locs : List Loc), va_P D vwCl (oMM C e0 e1 e2 e3 e4 e5 e6 e7 e8 e9 e10 e11 e12 e13 e14 e15 m_s m_held m_aside m_before m_isHeld m_tape m_taped m_token m_from m_to m_value m_isWrong m_due m_firsts m_rows m_rowN m_sortOf m_sizeOf m_numbers m_holdsWhat m_holdsWhich m_holdsMany m_bodies m_ran m_actKind m_actN m_actA m_isParted []) H → va_D A (oMM C e0 e1 e2 e3 e4 e5 e6 e7 e8 e9 e10 e11 e12 e13 e14 e15 m_s m_held m_aside m_before m_isHeld m_tape m_taped m_token m_from m_to m_value m_isWrong m_due m_firsts m_rows m_rowN m_sortOf m_sizeOf m_numbers m_holdsWhat m_holdsWhich m_holdsMany m_bodies m_ran m_actKind m_actN m_actA m_isParted []) → va_S A s.heap H locs → W p l e (headSpec wsX6_seed (rmX6_seed)).room s m (List.toArray [Value.ref e0, Value.int x0]) below meth c H locs 0 0 Q (F0 m 0 ls []) := by
    intro H locs hP hD hS
    refine lv_aload_n hx hb dX6_seed_0 rfl (lv_at hl 0 rfl) ?_
    refine lv_iconst (v := 2) hx hb dX6_seed_1 rfl ?_
    refine lv_iload_n hx hb dX6_seed_2 rfl (lv_at hl 1 rfl) ?_
    obtain ⟨r1, v2, h3, hf⟩ := ob2_e hf
    refine kmi (w1 := (oMM C e0 e1 e2 e3 e4 e5 e6 e7 e8 e9 e10 e11 e12 e13 e14 e15 v2 m_held m_aside m_before m_isHeld m_tape m_taped m_token m_from m_to m_value m_isWrong m_due m_firsts m_rows m_rowN m_sortOf m_sizeOf m_numbers m_holdsWhat m_holdsWhich m_holdsMany m_bodies m_ran m_actKind m_actN m_actA m_isParted [])) (va_runV (As := [.int 2, .int x0]) (rest := []) ⟨hx, hb, hml, hown, hts⟩ (c_X6_becomes l E D C e0 e1 e2 e3 e4 e5 e6 e7 e8 e9 e10 e11 e12 e13 e14 e15 H.size m_s m_held m_aside m_before m_isHeld m_tape m_taped m_token m_from m_to m_value m_isWrong m_due m_firsts m_rows m_rowN m_sortOf m_sizeOf m_numbers m_holdsWhat m_holdsWhich m_holdsMany m_bodies m_ran m_actKind m_actN m_actA m_isParted 2 x0 r1 v2 h3) (cwV 2 hts gX6_seed_X6_becomes rfl rfl rfl hdX6_becomes ⟨Nat.le_of_ble_eq_true rfl, Nat.le_of_ble_eq_true rfl⟩) (kpreM hP hD hK hS hE hA 0 rfl rfl rfl) rfl rfl hl.1 rfl (lv_room (Nat.le_of_ble_eq_true rfl)) dX6_seed_3 ⟨Nat.zero_le _, Nat.zero_le _⟩) hP hD hS hA rfl (fun H locs hP hD hS => ?_)
    cases hf
    exact kri hQ hAe hx hb hr hlocks hP hD hK hS dX6_seed_6
  exact main _ _ hP hD hS

def rmX6_drawn : Room := { frames := 0, cells := 0, slots := 0, locals := 0 }
theorem hdX6_drawn : yX6_drawn.cls = RX6 ∧ yX6_drawn.cls ≠ "java/lang/invoke/MethodHandle" ∧ yX6_drawn.cls ≠ "java/lang/invoke/VarHandle" ∧ (parseMethodDescriptor yX6_drawn.desc).map (fun d => d.parameters.length) = some 0 := by decide +kernel
set_option maxHeartbeats 40000000 in
set_option maxRecDepth 100000 in
theorem c_X6_drawn (l : Launch) (E : Nat → Nat) (D : va_G) (C : Nat → ClassId) (e0 e1 e2 e3 e4 e5 e6 e7 e8 e9 e10 e11 e12 e13 e14 e15 : Nat) (sz : Nat) (m_s : Nat → Int32) (m_held : Nat → Int32) (m_aside : Nat → Int32) (m_before : Nat → Int32) (m_isHeld : Int32) (m_tape : Nat → Int32) (m_taped : Int32) (m_token : Int32) (m_from : Int32) (m_to : Int32) (m_value : Int32) (m_isWrong : Int32) (m_due : Nat → Int32) (m_firsts : Nat → Int32) (m_rows : Nat → Int32) (m_rowN : Int32) (m_sortOf : Nat → Int32) (m_sizeOf : Nat → Int32) (m_numbers : Nat → Int32) (m_holdsWhat : Nat → Int32) (m_holdsWhich : Nat → Int32) (m_holdsMany : Nat → Int32) (m_bodies : Nat → Int32) (m_ran : Int32) (m_actKind : Int32) (m_actN : Int32) (m_actA : Int32) (m_isParted : Int32)  (r : Int32) (m_s' : Nat → Int32) (hf : f_X6_drawn m_s = some (r, m_s')) : Met l yX6_drawn wsX6_drawn rmX6_drawn (PC E D C [.ref e0] (oMM C e0 e1 e2 e3 e4 e5 e6 e7 e8 e9 e10 e11 e12 e13 e14 e15 m_s m_held m_aside m_before m_isHeld m_tape m_taped m_token m_from m_to m_value m_isWrong m_due m_firsts m_rows m_rowN m_sortOf m_sizeOf m_numbers m_holdsWhat m_holdsWhich m_holdsMany m_bodies m_ran m_actKind m_actN m_actA m_isParted []) sz) (QI D C (oMM C e0 e1 e2 e3 e4 e5 e6 e7 e8 e9 e10 e11 e12 e13 e14 e15 m_s m_held m_aside m_before m_isHeld m_tape m_taped m_token m_from m_to m_value m_isWrong m_due m_firsts m_rows m_rowN m_sortOf m_sizeOf m_numbers m_holdsWhat m_holdsWhich m_holdsMany m_bodies m_ran m_actKind m_actN m_actA m_isParted []) (oMM C e0 e1 e2 e3 e4 e5 e6 e7 e8 e9 e10 e11 e12 e13 e14 e15 (m_s') m_held m_aside m_before m_isHeld m_tape m_taped m_token m_from m_to m_value m_isWrong m_due m_firsts m_rows m_rowN m_sortOf m_sizeOf m_numbers m_holdsWhat m_holdsWhich m_holdsMany m_bodies m_ran m_actKind m_actN m_actA m_isParted []) sz r) 0 0 (va_A (oMM C e0 e1 e2 e3 e4 e5 e6 e7 e8 e9 e10 e11 e12 e13 e14 e15 m_s m_held m_aside m_before m_isHeld m_tape m_taped m_token m_from m_to m_value m_isWrong m_due m_firsts m_rows m_rowN m_sortOf m_sizeOf m_numbers m_holdsWhat m_holdsWhich m_holdsMany m_bodies m_ran m_actKind m_actN m_actA m_isParted []) sz) := by
  refine Met.ofW (cc := cX6_drawn) (maxL := 1) (ret := (some .int)) (by decide) rfl ?_
  intro p e s m args below meth c s₁ B hml hv
  obtain ⟨rfl, hsz, hP, hK, hD0, hE⟩ := hv
  have hx := B.exec
  have hb := B.bytes
  have hr := B.returns
  have hts := atoms_spec (ws := wsX6_drawn) B.pre
  have hown : s.vm.findClass RX6 = some m.cls := findClass_of_methodNamed B.named
  have hlocks := B.notSynchronized
  subst hsz
  have hi_RX6 : ∀ w ∈ wsX60, w ∈ wsX6_drawn := fun _ h => List.mem_cons_of_mem _ (List.mem_append_right _ h)
  have hD := hD0.self (sz := s.heap.size)
  obtain ⟨A, hAe⟩ := nm_ex (va_A (oMM C e0 e1 e2 e3 e4 e5 e6 e7 e8 e9 e10 e11 e12 e13 e14 e15 m_s m_held m_aside m_before m_isHeld m_tape m_taped m_token m_from m_to m_value m_isWrong m_due m_firsts m_rows m_rowN m_sortOf m_sizeOf m_numbers m_holdsWhat m_holdsWhich m_holdsMany m_bodies m_ran m_actKind m_actN m_actA m_isParted []) s.heap.size)
  rw [← hAe] at hD hE ⊢
  have hA : ∀ q : Nat, s.heap.size ≤ q → A q := fun q h => by rw [hAe]; exact Or.inr h
  have hS : va_S A s.heap s.heap [] := va_S.rf
  have hl := lv_entry ([.ref e0]) (n := 1) (Nat.le_of_ble_eq_true rfl)
  rw [lg_entry_eq]
  generalize (lg_sl ([.ref e0]) ++ List.replicate (1 - (lg_sl ([.ref e0])).length) Slot.unset).toArray = ls at hl ⊢
  have hl : lv_has ls 1 [(0, .ref e0)] := hl
  obtain ⟨Q, hQ⟩ := nm_ex (MQ below (QI D C (oMM C e0 e1 e2 e3 e4 e5 e6 e7 e8 e9 e10 e11 e12 e13 e14 e15 m_s m_held m_aside m_before m_isHeld m_tape m_taped m_token m_from m_to m_value m_isWrong m_due m_firsts m_rows m_rowN m_sortOf m_sizeOf m_numbers m_holdsWhat m_holdsWhich m_holdsMany m_bodies m_ran m_actKind m_actN m_actA m_isParted []) (oMM C e0 e1 e2 e3 e4 e5 e6 e7 e8 e9 e10 e11 e12 e13 e14 e15 (m_s') m_held m_aside m_before m_isHeld m_tape m_taped m_token m_from m_to m_value m_isWrong m_due m_firsts m_rows m_rowN m_sortOf m_sizeOf m_numbers m_holdsWhat m_holdsWhich m_holdsMany m_bodies m_ran m_actKind m_actN m_actA m_isParted []) s.heap.size r) (List.toArray [Value.ref e0]) s 0 0 A)
  show W p l e (headSpec wsX6_drawn (rmX6_drawn)).room s m (List.toArray [Value.ref e0]) below meth c s.heap [] 0 0 (MQ below (QI D C (oMM C e0 e1 e2 e3 e4 e5 e6 e7 e8 e9 e10 e11 e12 e13 e14 e15 m_s m_held m_aside m_before m_isHeld m_tape m_taped m_token m_from m_to m_value m_isWrong m_due m_firsts m_rows m_rowN m_sortOf m_sizeOf m_numbers m_holdsWhat m_holdsWhich m_holdsMany m_bodies m_ran m_actKind m_actN m_actA m_isParted []) (oMM C e0 e1 e2 e3 e4 e5 e6 e7 e8 e9 e10 e11 e12 e13 e14 e15 (m_s') m_held m_aside m_before m_isHeld m_tape m_taped m_token m_from m_to m_value m_isWrong m_due m_firsts m_rows m_rowN m_sortOf m_sizeOf m_numbers m_holdsWhat m_holdsWhich m_holdsMany m_bodies m_ran m_actKind m_actN m_actA m_isParted []) s.heap.size r) (List.toArray [Value.ref e0]) s 0 0 A) _
  rw [← hQ]
  unfold f_X6_drawn at hf
  have main : ∀ (H : Heap) (locs : List Loc), va_P D vwCl (oMM C e0 e1 e2 e3 e4 e5 e6 e7 e8 e9 e10 e11 e12 e13 e14 e15 m_s m_held m_aside m_before m_isHeld m_tape m_taped m_token m_from m_to m_value m_isWrong m_due m_firsts m_rows m_rowN m_sortOf m_sizeOf m_numbers m_holdsWhat m_holdsWhich m_holdsMany m_bodies m_ran m_actKind m_actN m_actA m_isParted []) H → va_D A (oMM C e0 e1 e2 e3 e4 e5 e6 e7 e8 e9 e10 e11 e12 e13 e14 e15 m_s m_held m_aside m_before m_isHeld m_tape m_taped m_token m_from m_to m_value m_isWrong m_due m_firsts m_rows m_rowN m_sortOf m_sizeOf m_numbers m_holdsWhat m_holdsWhich m_holdsMany m_bodies m_ran m_actKind m_actN m_actA m_isParted []) → va_S A s.heap H locs → W p l e (headSpec wsX6_drawn (rmX6_drawn)).room s m (List.toArray [Value.ref e0]) below meth c H locs 0 0 Q (F0 m 0 ls []) := by
    intro H locs hP hD hS
    refine lv_aload_n hx hb dX6_drawn_0 rfl (lv_at hl 0 rfl) ?_
    refine va_get (D := D) (ci := 6) (v := .ref e1) (C := RX6) (T := TX6) (N := 28) hx hb hts hi_RX6 hown hK hP 0 rfl rfl 0 (by decide) (hts (.fieldLink RX6 7 "TravelMarksModel" "s" "[I") (List.mem_of_getElem? (i := 1) rfl)) (fun _ h9 => h9) rfl dX6_drawn_1 ?_
    refine lv_iconst (v := 2) hx hb dX6_drawn_4 rfl ?_
    refine lv_aload_n hx hb dX6_drawn_5 rfl (lv_at hl 0 rfl) ?_
    refine va_get (D := D) (ci := 6) (v := .ref e1) (C := RX6) (T := TX6) (N := 28) hx hb hts hi_RX6 hown hK hP 0 rfl rfl 0 (by decide) (hts (.fieldLink RX6 7 "TravelMarksModel" "s" "[I") (List.mem_of_getElem? (i := 1) rfl)) (fun _ h9 => h9) rfl dX6_drawn_6 ?_
    refine lv_iconst (v := 2) hx hb dX6_drawn_9 rfl ?_
    refine va_iald hx hb hK hP 1 0 rfl rfl (i := 2) (vin (by decide)) dX6_drawn_10 ?_
    refine lv_ren (show (m_s 2) = m_s (Int32.toNatClampNeg 2) from rfl) ?_
    refine lv_ldc hx hb hown (hts (.constant RX6 221 (1103515245)) (List.mem_of_getElem? (i := 2) rfl)) dX6_drawn_11 ?_
    refine lv_imul hx hb dX6_drawn_13 ?_
    refine lv_sipush (v := 12345) hx hb dX6_drawn_14 rfl ?_
    refine lv_iadd hx hb dX6_drawn_17 ?_
    obtain ⟨t1, et1, hf⟩ := lj_e hf
    refine lv_ren et1 ?_
    refine va_iast hx hb hK hP hD hS 1 0 rfl rfl (i := 2) (vin (by decide)) dX6_drawn_18 (fun H locs hP hD hS => ?_)
    obtain ⟨v2, ev2, hf⟩ := lj_e hf
    have hP : va_P D vwCl (oMM C e0 e1 e2 e3 e4 e5 e6 e7 e8 e9 e10 e11 e12 e13 e14 e15 v2 m_held m_aside m_before m_isHeld m_tape m_taped m_token m_from m_to m_value m_isWrong m_due m_firsts m_rows m_rowN m_sortOf m_sizeOf m_numbers m_holdsWhat m_holdsWhich m_holdsMany m_bodies m_ran m_actKind m_actN m_actA m_isParted []) H := by rw [ev2]; exact hP
    have hD : va_D A (oMM C e0 e1 e2 e3 e4 e5 e6 e7 e8 e9 e10 e11 e12 e13 e14 e15 v2 m_held m_aside m_before m_isHeld m_tape m_taped m_token m_from m_to m_value m_isWrong m_due m_firsts m_rows m_rowN m_sortOf m_sizeOf m_numbers m_holdsWhat m_holdsWhich m_holdsMany m_bodies m_ran m_actKind m_actN m_actA m_isParted []) := by rw [ev2]; exact hD
    refine lv_aload_n hx hb dX6_drawn_19 rfl (lv_at hl 0 rfl) ?_
    refine va_get (D := D) (ci := 6) (v := .ref e1) (C := RX6) (T := TX6) (N := 28) hx hb hts hi_RX6 hown hK hP 0 rfl rfl 0 (by decide) (hts (.fieldLink RX6 7 "TravelMarksModel" "s" "[I") (List.mem_of_getElem? (i := 1) rfl)) (fun _ h9 => h9) rfl dX6_drawn_20 ?_
    refine lv_iconst (v := 2) hx hb dX6_drawn_23 rfl ?_
    refine va_iald hx hb hK hP 1 0 rfl rfl (i := 2) (vin (by decide)) dX6_drawn_24 ?_
    refine lv_ren (show (v2 2) = v2 (Int32.toNatClampNeg 2) from rfl) ?_
    refine lv_bipush (v := 16) hx hb dX6_drawn_25 rfl ?_
    refine lv_iushr hx hb dX6_drawn_27 rfl ?_
    obtain ⟨t3, et3, hf⟩ := lj_e hf
    refine lv_ren et3 ?_
    cases hf
    exact kri hQ hAe hx hb hr hlocks hP hD hK hS dX6_drawn_28
  exact main _ _ hP hD hS

def rmX6_hour : Room := { frames := 7, cells := 0, slots := 0, locals := 165 }
theorem hdX6_hour : yX6_hour.cls = RX6 ∧ yX6_hour.cls ≠ "java/lang/invoke/MethodHandle" ∧ yX6_hour.cls ≠ "java/lang/invoke/VarHandle" ∧ (parseMethodDescriptor yX6_hour.desc).map (fun d => d.parameters.length) = some 0 := by decide +kernel
set_option maxHeartbeats 40000000 in
set_option maxRecDepth 100000 in
theorem c_X6_hour (l : Launch) (E : Nat → Nat) (D : va_G) (C : Nat → ClassId) (e0 e1 e2 e3 e4 e5 e6 e7 e8 e9 e10 e11 e12 e13 e14 e15 : Nat) (sz : Nat) (N : Nat) (m_s : Nat → Int32) (m_held : Nat → Int32) (m_aside : Nat → Int32) (m_before : Nat → Int32) (m_isHeld : Int32) (m_tape : Nat → Int32) (m_taped : Int32) (m_token : Int32) (m_from : Int32) (m_to : Int32) (m_value : Int32) (m_isWrong : Int32) (m_due : Nat → Int32) (m_firsts : Nat → Int32) (m_rows : Nat → Int32) (m_rowN : Int32) (m_sortOf : Nat → Int32) (m_sizeOf : Nat → Int32) (m_numbers : Nat → Int32) (m_holdsWhat : Nat → Int32) (m_holdsWhich : Nat → Int32) (m_holdsMany : Nat → Int32) (m_bodies : Nat → Int32) (m_ran : Int32) (m_actKind : Int32) (m_actN : Int32) (m_actA : Int32) (m_isParted : Int32)  (r : Int32) (m_s' : Nat → Int32) (hf : f_X6_hour N m_s = some (r, m_s')) : Met l yX6_hour wsX6_hour rmX6_hour (PC E D C [.ref e0] (oMM C e0 e1 e2 e3 e4 e5 e6 e7 e8 e9 e10 e11 e12 e13 e14 e15 m_s m_held m_aside m_before m_isHeld m_tape m_taped m_token m_from m_to m_value m_isWrong m_due m_firsts m_rows m_rowN m_sortOf m_sizeOf m_numbers m_holdsWhat m_holdsWhich m_holdsMany m_bodies m_ran m_actKind m_actN m_actA m_isParted []) sz) (QI D C (oMM C e0 e1 e2 e3 e4 e5 e6 e7 e8 e9 e10 e11 e12 e13 e14 e15 m_s m_held m_aside m_before m_isHeld m_tape m_taped m_token m_from m_to m_value m_isWrong m_due m_firsts m_rows m_rowN m_sortOf m_sizeOf m_numbers m_holdsWhat m_holdsWhich m_holdsMany m_bodies m_ran m_actKind m_actN m_actA m_isParted []) (oMM C e0 e1 e2 e3 e4 e5 e6 e7 e8 e9 e10 e11 e12 e13 e14 e15 (m_s') m_held m_aside m_before m_isHeld m_tape m_taped m_token m_from m_to m_value m_isWrong m_due m_firsts m_rows m_rowN m_sortOf m_sizeOf m_numbers m_holdsWhat m_holdsWhich m_holdsMany m_bodies m_ran m_actKind m_actN m_actA m_isParted []) sz r) 0 0 (va_A (oMM C e0 e1 e2 e3 e4 e5 e6 e7 e8 e9 e10 e11 e12 e13 e14 e15 m_s m_held m_aside m_before m_isHeld m_tape m_taped m_token m_from m_to m_value m_isWrong m_due m_firsts m_rows m_rowN m_sortOf m_sizeOf m_numbers m_holdsWhat m_holdsWhich m_holdsMany m_bodies m_ran m_actKind m_actN m_actA m_isParted []) sz) := by
  refine Met.ofW (cc := cX6_hour) (maxL := 4) (ret := (some .int)) (by decide) rfl ?_
  intro p e s m args below meth c s₁ B hml hv
  obtain ⟨rfl, hsz, hP, hK, hD0, hE⟩ := hv
  have hx := B.exec
  have hb := B.bytes
  have hr := B.returns
  have hts := atoms_spec (ws := wsX6_hour) B.pre
  have hown : s.vm.findClass RX6 = some m.cls := findClass_of_methodNamed B.named
  have hlocks := B.notSynchronized
  subst hsz
  have hi_RX6 : ∀ w ∈ wsX60, w ∈ wsX6_hour := fun _ h => List.mem_cons_of_mem _ (List.mem_append_right _ h)
  have hD := hD0.self (sz := s.heap.size)
  obtain ⟨A, hAe⟩ := nm_ex (va_A (oMM C e0 e1 e2 e3 e4 e5 e6 e7 e8 e9 e10 e11 e12 e13 e14 e15 m_s m_held m_aside m_before m_isHeld m_tape m_taped m_token m_from m_to m_value m_isWrong m_due m_firsts m_rows m_rowN m_sortOf m_sizeOf m_numbers m_holdsWhat m_holdsWhich m_holdsMany m_bodies m_ran m_actKind m_actN m_actA m_isParted []) s.heap.size)
  rw [← hAe] at hD hE ⊢
  have hA : ∀ q : Nat, s.heap.size ≤ q → A q := fun q h => by rw [hAe]; exact Or.inr h
  have hS : va_S A s.heap s.heap [] := va_S.rf
  have hl := lv_entry ([.ref e0]) (n := 4) (Nat.le_of_ble_eq_true rfl)
  rw [lg_entry_eq]
  generalize (lg_sl ([.ref e0]) ++ List.replicate (4 - (lg_sl ([.ref e0])).length) Slot.unset).toArray = ls at hl ⊢
  have hl : lv_has ls 4 [(0, .ref e0)] := hl
  obtain ⟨Q, hQ⟩ := nm_ex (MQ below (QI D C (oMM C e0 e1 e2 e3 e4 e5 e6 e7 e8 e9 e10 e11 e12 e13 e14 e15 m_s m_held m_aside m_before m_isHeld m_tape m_taped m_token m_from m_to m_value m_isWrong m_due m_firsts m_rows m_rowN m_sortOf m_sizeOf m_numbers m_holdsWhat m_holdsWhich m_holdsMany m_bodies m_ran m_actKind m_actN m_actA m_isParted []) (oMM C e0 e1 e2 e3 e4 e5 e6 e7 e8 e9 e10 e11 e12 e13 e14 e15 (m_s') m_held m_aside m_before m_isHeld m_tape m_taped m_token m_from m_to m_value m_isWrong m_due m_firsts m_rows m_rowN m_sortOf m_sizeOf m_numbers m_holdsWhat m_holdsWhich m_holdsMany m_bodies m_ran m_actKind m_actN m_actA m_isParted []) s.heap.size r) (List.toArray [Value.ref e0]) s 0 0 A)
  show W p l e (headSpec wsX6_hour (rmX6_hour)).room s m (List.toArray [Value.ref e0]) below meth c s.heap [] 0 0 (MQ below (QI D C (oMM C e0 e1 e2 e3 e4 e5 e6 e7 e8 e9 e10 e11 e12 e13 e14 e15 m_s m_held m_aside m_before m_isHeld m_tape m_taped m_token m_from m_to m_value m_isWrong m_due m_firsts m_rows m_rowN m_sortOf m_sizeOf m_numbers m_holdsWhat m_holdsWhich m_holdsMany m_bodies m_ran m_actKind m_actN m_actA m_isParted []) (oMM C e0 e1 e2 e3 e4 e5 e6 e7 e8 e9 e10 e11 e12 e13 e14 e15 (m_s') m_held m_aside m_before m_isHeld m_tape m_taped m_token m_from m_to m_value m_isWrong m_due m_firsts m_rows m_rowN m_sortOf m_sizeOf m_numbers m_holdsWhat m_holdsWhich m_holdsMany m_bodies m_ran m_actKind m_actN m_actA m_isParted []) s.heap.size r) (List.toArray [Value.ref e0]) s 0 0 A) _
  rw [← hQ]
  unfold f_X6_hour at hf
  have main : ∀ (H : Heap) (locs : List Loc), va_P D vwCl (oMM C e0 e1 e2 e3 e4 e5 e6 e7 e8 e9 e10 e11 e12 e13 e14 e15 m_s m_held m_aside m_before m_isHeld m_tape m_taped m_token m_from m_to m_value m_isWrong m_due m_firsts m_rows m_rowN m_sortOf m_sizeOf m_numbers m_holdsWhat m_holdsWhich m_holdsMany m_bodies m_ran m_actKind m_actN m_actA m_isParted []) H → va_D A (oMM C e0 e1 e2 e3 e4 e5 e6 e7 e8 e9 e10 e11 e12 e13 e14 e15 m_s m_held m_aside m_before m_isHeld m_tape m_taped m_token m_from m_to m_value m_isWrong m_due m_firsts m_rows m_rowN m_sortOf m_sizeOf m_numbers m_holdsWhat m_holdsWhich m_holdsMany m_bodies m_ran m_actKind m_actN m_actA m_isParted []) → va_S A s.heap H locs → W p l e (headSpec wsX6_hour (rmX6_hour)).room s m (List.toArray [Value.ref e0]) below meth c H locs 0 0 Q (F0 m 0 ls []) := by
    intro H locs hP hD hS
    refine lv_aload_n hx hb dX6_hour_0 rfl (lv_at hl 0 rfl) ?_
    obtain ⟨r1, v2, h3, hf⟩ := ob2_e hf
    refine kmi (w1 := (oMM C e0 e1 e2 e3 e4 e5 e6 e7 e8 e9 e10 e11 e12 e13 e14 e15 v2 m_held m_aside m_before m_isHeld m_tape m_taped m_token m_from m_to m_value m_isWrong m_due m_firsts m_rows m_rowN m_sortOf m_sizeOf m_numbers m_holdsWhat m_holdsWhich m_holdsMany m_bodies m_ran m_actKind m_actN m_actA m_isParted [])) (va_runV (As := []) (rest := []) ⟨hx, hb, hml, hown, hts⟩ (c_X6_drawn l E D C e0 e1 e2 e3 e4 e5 e6 e7 e8 e9 e10 e11 e12 e13 e14 e15 H.size m_s m_held m_aside m_before m_isHeld m_tape m_taped m_token m_from m_to m_value m_isWrong m_due m_firsts m_rows m_rowN m_sortOf m_sizeOf m_numbers m_holdsWhat m_holdsWhich m_holdsMany m_bodies m_ran m_actKind m_actN m_actA m_isParted r1 v2 h3) (cwV 0 hts gX6_hour_X6_drawn rfl rfl rfl hdX6_drawn ⟨Nat.le_of_ble_eq_true rfl, Nat.le_of_ble_eq_true rfl⟩) (kpreM hP hD hK hS hE hA 0 rfl rfl rfl) rfl rfl hl.1 rfl (lv_room (Nat.le_of_ble_eq_true rfl)) dX6_hour_1 ⟨Nat.zero_le _, Nat.zero_le _⟩) hP hD hS hA rfl (fun H locs hP hD hS => ?_)
    refine lv_bipush (v := 8) hx hb dX6_hour_4 rfl ?_
    refine lv_irem hx hb dX6_hour_6 (by decide) ?_
    obtain ⟨t4, et4, hf⟩ := lj_e hf
    refine lv_ren et4 ?_
    refine lv_istore_n (lv' := [(1, .int t4), (0, .ref e0)]) hx hb dX6_hour_7 rfl hl (by decide) rfl (fun ls hl => ?_)
    refine lv_aload_n hx hb dX6_hour_8 rfl (lv_at hl 1 rfl) ?_
    obtain ⟨r5, v6, h7, hf⟩ := ob2_e hf
    refine kmi (w1 := (oMM C e0 e1 e2 e3 e4 e5 e6 e7 e8 e9 e10 e11 e12 e13 e14 e15 v6 m_held m_aside m_before m_isHeld m_tape m_taped m_token m_from m_to m_value m_isWrong m_due m_firsts m_rows m_rowN m_sortOf m_sizeOf m_numbers m_holdsWhat m_holdsWhich m_holdsMany m_bodies m_ran m_actKind m_actN m_actA m_isParted [])) (va_runV (As := []) (rest := []) ⟨hx, hb, hml, hown, hts⟩ (c_X6_drawn l E D C e0 e1 e2 e3 e4 e5 e6 e7 e8 e9 e10 e11 e12 e13 e14 e15 H.size v2 m_held m_aside m_before m_isHeld m_tape m_taped m_token m_from m_to m_value m_isWrong m_due m_firsts m_rows m_rowN m_sortOf m_sizeOf m_numbers m_holdsWhat m_holdsWhich m_holdsMany m_bodies m_ran m_actKind m_actN m_actA m_isParted r5 v6 h7) (cwV 0 hts gX6_hour_X6_drawn rfl rfl rfl hdX6_drawn ⟨Nat.le_of_ble_eq_true rfl, Nat.le_of_ble_eq_true rfl⟩) (kpreM hP hD hK hS hE hA 0 rfl rfl rfl) rfl rfl hl.1 rfl (lv_room (Nat.le_of_ble_eq_true rfl)) dX6_hour_9 ⟨Nat.zero_le _, Nat.zero_le _⟩) hP hD hS hA rfl (fun H locs hP hD hS => ?_)
    refine lv_bipush (v := 100) hx hb dX6_hour_12 rfl ?_
    refine lv_irem hx hb dX6_hour_14 (by decide) ?_
    refine lv_aload_n hx hb dX6_hour_15 rfl (lv_at hl 1 rfl) ?_
    refine va_get (D := D) (ci := 6) (v := .ref e1) (C := RX6) (T := TX6) (N := 28) hx hb hts hi_RX6 hown hK hP 0 rfl rfl 0 (by decide) (hts (.fieldLink RX6 7 "TravelMarksModel" "s" "[I") (List.mem_of_getElem? (i := 1) rfl)) (fun _ h9 => h9) rfl dX6_hour_16 ?_
    refine lv_bipush (v := 6) hx hb dX6_hour_19 rfl ?_
    refine va_iald hx hb hK hP 1 0 rfl rfl (i := 6) (vin (by decide)) dX6_hour_21 ?_
    refine lv_ren (show (v6 6) = v6 (Int32.toNatClampNeg 6) from rfl) ?_
    obtain ⟨j9, hj9, hf⟩ := lj_e hf
    have Hj9 : ∀ (v8 : Nat → Int32) (H : Heap) (locs : List Loc) (ls : Array Slot), va_P D vwCl (oMM C e0 e1 e2 e3 e4 e5 e6 e7 e8 e9 e10 e11 e12 e13 e14 e15 v8 m_held m_aside m_before m_isHeld m_tape m_taped m_token m_from m_to m_value m_isWrong m_due m_firsts m_rows m_rowN m_sortOf m_sizeOf m_numbers m_holdsWhat m_holdsWhich m_holdsMany m_bodies m_ran m_actKind m_actN m_actA m_isParted []) H → va_D A (oMM C e0 e1 e2 e3 e4 e5 e6 e7 e8 e9 e10 e11 e12 e13 e14 e15 v8 m_held m_aside m_before m_isHeld m_tape m_taped m_token m_from m_to m_value m_isWrong m_due m_firsts m_rows m_rowN m_sortOf m_sizeOf m_numbers m_holdsWhat m_holdsWhich m_holdsMany m_bodies m_ran m_actKind m_actN m_actA m_isParted []) → va_S A s.heap H locs → lv_has ls 4 [(0, .ref e0)] → j9 v8 = some (r, m_s') → W p l e (headSpec wsX6_hour (rmX6_hour)).room s m (List.toArray [Value.ref e0]) below meth c H locs 0 0 Q (F0 m 49 ls []) := by
      intro v8 H locs ls hP hD hS hl hf
      rw [hj9] at hf
      refine lv_aload_n hx hb dX6_hour_49 rfl (lv_at hl 0 rfl) ?_
      refine lv_iconst (v := 1) hx hb dX6_hour_50 rfl ?_
      obtain ⟨v10, h11, hf⟩ := ob1_e hf
      refine kmv (w1 := (oMM C e0 e1 e2 e3 e4 e5 e6 e7 e8 e9 e10 e11 e12 e13 e14 e15 v10 m_held m_aside m_before m_isHeld m_tape m_taped m_token m_from m_to m_value m_isWrong m_due m_firsts m_rows m_rowN m_sortOf m_sizeOf m_numbers m_holdsWhat m_holdsWhich m_holdsMany m_bodies m_ran m_actKind m_actN m_actA m_isParted [])) (va_runV (As := [.int 1]) (rest := []) ⟨hx, hb, hml, hown, hts⟩ (c_X6_goes l E D C e0 e1 e2 e3 e4 e5 e6 e7 e8 e9 e10 e11 e12 e13 e14 e15 H.size N v8 m_held m_aside m_before m_isHeld m_tape m_taped m_token m_from m_to m_value m_isWrong m_due m_firsts m_rows m_rowN m_sortOf m_sizeOf m_numbers m_holdsWhat m_holdsWhich m_holdsMany m_bodies m_ran m_actKind m_actN m_actA m_isParted 1 v10 h11) (cwV 1 hts gX6_hour_X6_goes rfl rfl rfl hdX6_goes ⟨Nat.le_of_ble_eq_true rfl, Nat.le_of_ble_eq_true rfl⟩) (kpreM hP hD hK hS hE hA 0 rfl rfl rfl) rfl rfl hl.1 rfl (lv_room (Nat.le_of_ble_eq_true rfl)) dX6_hour_51 ⟨Nat.zero_le _, Nat.zero_le _⟩) hP hD hS hA rfl (fun H locs hP hD hS => ?_)
      refine lv_aload_n hx hb dX6_hour_54 rfl (lv_at hl 0 rfl) ?_
      obtain ⟨r12, h13, hf⟩ := ob1_e hf
      refine kmi (w1 := (oMM C e0 e1 e2 e3 e4 e5 e6 e7 e8 e9 e10 e11 e12 e13 e14 e15 v10 m_held m_aside m_before m_isHeld m_tape m_taped m_token m_from m_to m_value m_isWrong m_due m_firsts m_rows m_rowN m_sortOf m_sizeOf m_numbers m_holdsWhat m_holdsWhich m_holdsMany m_bodies m_ran m_actKind m_actN m_actA m_isParted [])) (va_runV (As := []) (rest := []) ⟨hx, hb, hml, hown, hts⟩ (c_X6_marked l E D C e0 e1 e2 e3 e4 e5 e6 e7 e8 e9 e10 e11 e12 e13 e14 e15 H.size N v10 m_held m_aside m_before m_isHeld m_tape m_taped m_token m_from m_to m_value m_isWrong m_due m_firsts m_rows m_rowN m_sortOf m_sizeOf m_numbers m_holdsWhat m_holdsWhich m_holdsMany m_bodies m_ran m_actKind m_actN m_actA m_isParted r12 h13) (cwV 0 hts gX6_hour_X6_marked rfl rfl rfl hdX6_marked ⟨Nat.le_of_ble_eq_true rfl, Nat.le_of_ble_eq_true rfl⟩) (kpreM hP hD hK hS hE hA 0 rfl rfl rfl) rfl rfl hl.1 rfl (lv_room (Nat.le_of_ble_eq_true rfl)) dX6_hour_55 ⟨Nat.zero_le _, Nat.zero_le _⟩) hP hD hS hA rfl (fun H locs hP hD hS => ?_)
      obtain ⟨r14, h15, hf⟩ := ob1_e hf
      refine kci (Wx := (oMM C e0 e1 e2 e3 e4 e5 e6 e7 e8 e9 e10 e11 e12 e13 e14 e15 v10 m_held m_aside m_before m_isHeld m_tape m_taped m_token m_from m_to m_value m_isWrong m_due m_firsts m_rows m_rowN m_sortOf m_sizeOf m_numbers m_holdsWhat m_holdsWhich m_holdsMany m_bodies m_ran m_actKind m_actN m_actA m_isParted [])) (va_runS (As := [.int r12]) (rest := []) ⟨hx, hb, hml, hown, hts⟩ (c_X6_size l E D C H.size N r12 r14 h15) (va_cwS 1 hts gX6_hour_X6_size rfl rfl rfl hdX6_size ⟨Nat.le_of_ble_eq_true rfl, Nat.le_of_ble_eq_true rfl⟩) (kpre hP hD hK hS hE hA [] rfl rfl) rfl rfl hl.1 rfl (lv_room (Nat.le_of_ble_eq_true rfl)) dX6_hour_58 ⟨Nat.zero_le _, Nat.zero_le _⟩) hP hD hS hA [] rfl rfl rfl (fun H locs hP hD hS => ?_)
      cases hf
      exact kri hQ hAe hx hb hr hlocks hP hD hK hS dX6_hour_61
    refine lv_icmp_ge (tgt := 49) hx hb dX6_hour_22 (by decide) (fun c16 => ?_) (fun c16 => ?_)
    · replace hf := if_te c16 hf
      exact Hj9 v6 H locs ls hP hD hS (lv_sub hl [1] rfl) hf
    · replace hf := if_fe c16 hf
      refine lv_aload_n hx hb dX6_hour_25 rfl (lv_at hl 1 rfl) ?_
      obtain ⟨r17, v18, h19, hf⟩ := ob2_e hf
      refine kmi (w1 := (oMM C e0 e1 e2 e3 e4 e5 e6 e7 e8 e9 e10 e11 e12 e13 e14 e15 v18 m_held m_aside m_before m_isHeld m_tape m_taped m_token m_from m_to m_value m_isWrong m_due m_firsts m_rows m_rowN m_sortOf m_sizeOf m_numbers m_holdsWhat m_holdsWhich m_holdsMany m_bodies m_ran m_actKind m_actN m_actA m_isParted [])) (va_runV (As := []) (rest := []) ⟨hx, hb, hml, hown, hts⟩ (c_X6_drawn l E D C e0 e1 e2 e3 e4 e5 e6 e7 e8 e9 e10 e11 e12 e13 e14 e15 H.size v6 m_held m_aside m_before m_isHeld m_tape m_taped m_token m_from m_to m_value m_isWrong m_due m_firsts m_rows m_rowN m_sortOf m_sizeOf m_numbers m_holdsWhat m_holdsWhich m_holdsMany m_bodies m_ran m_actKind m_actN m_actA m_isParted r17 v18 h19) (cwV 0 hts gX6_hour_X6_drawn rfl rfl rfl hdX6_drawn ⟨Nat.le_of_ble_eq_true rfl, Nat.le_of_ble_eq_true rfl⟩) (kpreM hP hD hK hS hE hA 0 rfl rfl rfl) rfl rfl hl.1 rfl (lv_room (Nat.le_of_ble_eq_true rfl)) dX6_hour_26 ⟨Nat.zero_le _, Nat.zero_le _⟩) hP hD hS hA rfl (fun H locs hP hD hS => ?_)
      refine lv_bipush (v := 8) hx hb dX6_hour_29 rfl ?_
      refine lv_irem hx hb dX6_hour_31 (by decide) ?_
      obtain ⟨t20, et20, hf⟩ := lj_e hf
      refine lv_ren et20 ?_
      refine lv_istore_n (lv' := [(2, .int t20), (1, .int t4), (0, .ref e0)]) hx hb dX6_hour_32 rfl hl (by decide) rfl (fun ls hl => ?_)
      refine lv_iload_n hx hb dX6_hour_33 rfl (lv_at hl 1 rfl) ?_
      refine lv_iload_n hx hb dX6_hour_34 rfl (lv_at hl 0 rfl) ?_
      obtain ⟨j23, hj23, hf⟩ := lj_e hf
      have Hj23 : ∀ (k21 : Int32) (v22 : Nat → Int32) (H : Heap) (locs : List Loc) (ls : Array Slot), va_P D vwCl (oMM C e0 e1 e2 e3 e4 e5 e6 e7 e8 e9 e10 e11 e12 e13 e14 e15 v22 m_held m_aside m_before m_isHeld m_tape m_taped m_token m_from m_to m_value m_isWrong m_due m_firsts m_rows m_rowN m_sortOf m_sizeOf m_numbers m_holdsWhat m_holdsWhich m_holdsMany m_bodies m_ran m_actKind m_actN m_actA m_isParted []) H → va_D A (oMM C e0 e1 e2 e3 e4 e5 e6 e7 e8 e9 e10 e11 e12 e13 e14 e15 v22 m_held m_aside m_before m_isHeld m_tape m_taped m_token m_from m_to m_value m_isWrong m_due m_firsts m_rows m_rowN m_sortOf m_sizeOf m_numbers m_holdsWhat m_holdsWhich m_holdsMany m_bodies m_ran m_actKind m_actN m_actA m_isParted []) → va_S A s.heap H locs → lv_has ls 4 [(0, .ref e0)] → j23 k21 v22 = some (r, m_s') → W p l e (headSpec wsX6_hour (rmX6_hour)).room s m (List.toArray [Value.ref e0]) below meth c H locs 0 0 Q (F0 m 48 ls [.int k21]) := by
        intro k21 v22 H locs ls hP hD hS hl hf
        rw [hj23] at hf
        refine lv_istore_n (lv' := [(3, .int k21), (0, .ref e0)]) hx hb dX6_hour_48 rfl hl (by decide) rfl (fun ls hl => ?_)
        exact Hj9 v22 H locs ls hP hD hS (lv_sub hl [1] rfl) hf
      refine lv_icmp_ne (tgt := 42) hx hb dX6_hour_35 (by decide) (fun c24 => ?_) (fun c24 => ?_)
      · replace hf := if_fe c24 hf
        refine lv_aload_n hx hb dX6_hour_42 rfl (lv_at hl 2 rfl) ?_
        refine lv_iload_n hx hb dX6_hour_43 rfl (lv_at hl 1 rfl) ?_
        refine lv_iload_n hx hb dX6_hour_44 rfl (lv_at hl 0 rfl) ?_
        obtain ⟨r25, v26, h27, hf⟩ := ob2_e hf
        refine kmi (w1 := (oMM C e0 e1 e2 e3 e4 e5 e6 e7 e8 e9 e10 e11 e12 e13 e14 e15 v26 m_held m_aside m_before m_isHeld m_tape m_taped m_token m_from m_to m_value m_isWrong m_due m_firsts m_rows m_rowN m_sortOf m_sizeOf m_numbers m_holdsWhat m_holdsWhich m_holdsMany m_bodies m_ran m_actKind m_actN m_actA m_isParted [])) (va_runV (As := [.int t4, .int t20]) (rest := []) ⟨hx, hb, hml, hown, hts⟩ (c_X6_touches l E D C e0 e1 e2 e3 e4 e5 e6 e7 e8 e9 e10 e11 e12 e13 e14 e15 H.size N v18 m_held m_aside m_before m_isHeld m_tape m_taped m_token m_from m_to m_value m_isWrong m_due m_firsts m_rows m_rowN m_sortOf m_sizeOf m_numbers m_holdsWhat m_holdsWhich m_holdsMany m_bodies m_ran m_actKind m_actN m_actA m_isParted t4 t20 r25 v26 h27) (cwV 2 hts gX6_hour_X6_touches rfl rfl rfl hdX6_touches ⟨Nat.le_of_ble_eq_true rfl, Nat.le_of_ble_eq_true rfl⟩) (kpreM hP hD hK hS hE hA 0 rfl rfl rfl) rfl rfl hl.1 rfl (lv_room (Nat.le_of_ble_eq_true rfl)) dX6_hour_45 ⟨Nat.zero_le _, Nat.zero_le _⟩) hP hD hS hA rfl (fun H locs hP hD hS => ?_)
        exact Hj23 r25 v26 H locs ls hP hD hS (lv_sub hl [2] rfl) hf
      · replace hf := if_te c24 hf
        refine lv_iconst (v := 0) hx hb dX6_hour_38 rfl ?_
        refine lv_goto (tgt := 48) hx hb dX6_hour_39 (by decide) ?_
        exact Hj23 0 v18 H locs ls hP hD hS (lv_sub hl [2] rfl) hf
  exact main _ _ hP hD hS

def rmX6_stir : Room := { frames := 8, cells := 0, slots := 0, locals := 188 }
theorem hdX6_stir : yX6_stir.cls = RX6 ∧ yX6_stir.cls ≠ "java/lang/invoke/MethodHandle" ∧ yX6_stir.cls ≠ "java/lang/invoke/VarHandle" ∧ (parseMethodDescriptor yX6_stir.desc).map (fun d => d.parameters.length) = some 1 := by decide +kernel
set_option maxHeartbeats 40000000 in
set_option maxRecDepth 100000 in
theorem c_X6_stir (l : Launch) (E : Nat → Nat) (D : va_G) (C : Nat → ClassId) (e0 e1 e2 e3 e4 e5 e6 e7 e8 e9 e10 e11 e12 e13 e14 e15 : Nat) (sz : Nat) (N : Nat) (m_s : Nat → Int32) (m_held : Nat → Int32) (m_aside : Nat → Int32) (m_before : Nat → Int32) (m_isHeld : Int32) (m_tape : Nat → Int32) (m_taped : Int32) (m_token : Int32) (m_from : Int32) (m_to : Int32) (m_value : Int32) (m_isWrong : Int32) (m_due : Nat → Int32) (m_firsts : Nat → Int32) (m_rows : Nat → Int32) (m_rowN : Int32) (m_sortOf : Nat → Int32) (m_sizeOf : Nat → Int32) (m_numbers : Nat → Int32) (m_holdsWhat : Nat → Int32) (m_holdsWhich : Nat → Int32) (m_holdsMany : Nat → Int32) (m_bodies : Nat → Int32) (m_ran : Int32) (m_actKind : Int32) (m_actN : Int32) (m_actA : Int32) (m_isParted : Int32) (x0 : Int32) (r : Int32) (m_s' : Nat → Int32) (m_aside' : Nat → Int32) (m_due' : Nat → Int32) (hf : f_X6_stir N m_s m_aside m_due x0 = some (r, m_s', m_aside', m_due')) : Met l yX6_stir wsX6_stir rmX6_stir (PC E D C [.ref e0, .int x0] (oMM C e0 e1 e2 e3 e4 e5 e6 e7 e8 e9 e10 e11 e12 e13 e14 e15 m_s m_held m_aside m_before m_isHeld m_tape m_taped m_token m_from m_to m_value m_isWrong m_due m_firsts m_rows m_rowN m_sortOf m_sizeOf m_numbers m_holdsWhat m_holdsWhich m_holdsMany m_bodies m_ran m_actKind m_actN m_actA m_isParted []) sz) (QI D C (oMM C e0 e1 e2 e3 e4 e5 e6 e7 e8 e9 e10 e11 e12 e13 e14 e15 m_s m_held m_aside m_before m_isHeld m_tape m_taped m_token m_from m_to m_value m_isWrong m_due m_firsts m_rows m_rowN m_sortOf m_sizeOf m_numbers m_holdsWhat m_holdsWhich m_holdsMany m_bodies m_ran m_actKind m_actN m_actA m_isParted []) (oMM C e0 e1 e2 e3 e4 e5 e6 e7 e8 e9 e10 e11 e12 e13 e14 e15 (m_s') m_held (m_aside') m_before m_isHeld m_tape m_taped m_token m_from m_to m_value m_isWrong (m_due') m_firsts m_rows m_rowN m_sortOf m_sizeOf m_numbers m_holdsWhat m_holdsWhich m_holdsMany m_bodies m_ran m_actKind m_actN m_actA m_isParted []) sz r) 0 0 (va_A (oMM C e0 e1 e2 e3 e4 e5 e6 e7 e8 e9 e10 e11 e12 e13 e14 e15 m_s m_held m_aside m_before m_isHeld m_tape m_taped m_token m_from m_to m_value m_isWrong m_due m_firsts m_rows m_rowN m_sortOf m_sizeOf m_numbers m_holdsWhat m_holdsWhich m_holdsMany m_bodies m_ran m_actKind m_actN m_actA m_isParted []) sz) := by
  refine Met.ofW (cc := cX6_stir) (maxL := 8) (ret := (some .int)) (by decide) rfl ?_
  intro p e s m args below meth c s₁ B hml hv
  obtain ⟨rfl, hsz, hP, hK, hD0, hE⟩ := hv
  have hx := B.exec
  have hb := B.bytes
  have hr := B.returns
  have hts := atoms_spec (ws := wsX6_stir) B.pre
  have hown : s.vm.findClass RX6 = some m.cls := findClass_of_methodNamed B.named
  have hlocks := B.notSynchronized
  subst hsz
  have hi_RX6 : ∀ w ∈ wsX60, w ∈ wsX6_stir := fun _ h => List.mem_cons_of_mem _ (List.mem_append_right _ h)
  have hD := hD0.self (sz := s.heap.size)
  obtain ⟨A, hAe⟩ := nm_ex (va_A (oMM C e0 e1 e2 e3 e4 e5 e6 e7 e8 e9 e10 e11 e12 e13 e14 e15 m_s m_held m_aside m_before m_isHeld m_tape m_taped m_token m_from m_to m_value m_isWrong m_due m_firsts m_rows m_rowN m_sortOf m_sizeOf m_numbers m_holdsWhat m_holdsWhich m_holdsMany m_bodies m_ran m_actKind m_actN m_actA m_isParted []) s.heap.size)
  rw [← hAe] at hD hE ⊢
  have hA : ∀ q : Nat, s.heap.size ≤ q → A q := fun q h => by rw [hAe]; exact Or.inr h
  have hS : va_S A s.heap s.heap [] := va_S.rf
  have hl := lv_entry ([.ref e0, .int x0]) (n := 8) (Nat.le_of_ble_eq_true rfl)
  rw [lg_entry_eq]
  generalize (lg_sl ([.ref e0, .int x0]) ++ List.replicate (8 - (lg_sl ([.ref e0, .int x0])).length) Slot.unset).toArray = ls at hl ⊢
  have hl : lv_has ls 8 [(0, .ref e0), (1, .int x0)] := hl
  obtain ⟨Q, hQ⟩ := nm_ex (MQ below (QI D C (oMM C e0 e1 e2 e3 e4 e5 e6 e7 e8 e9 e10 e11 e12 e13 e14 e15 m_s m_held m_aside m_before m_isHeld m_tape m_taped m_token m_from m_to m_value m_isWrong m_due m_firsts m_rows m_rowN m_sortOf m_sizeOf m_numbers m_holdsWhat m_holdsWhich m_holdsMany m_bodies m_ran m_actKind m_actN m_actA m_isParted []) (oMM C e0 e1 e2 e3 e4 e5 e6 e7 e8 e9 e10 e11 e12 e13 e14 e15 (m_s') m_held (m_aside') m_before m_isHeld m_tape m_taped m_token m_from m_to m_value m_isWrong (m_due') m_firsts m_rows m_rowN m_sortOf m_sizeOf m_numbers m_holdsWhat m_holdsWhich m_holdsMany m_bodies m_ran m_actKind m_actN m_actA m_isParted []) s.heap.size r) (List.toArray [Value.ref e0, Value.int x0]) s 0 0 A)
  show W p l e (headSpec wsX6_stir (rmX6_stir)).room s m (List.toArray [Value.ref e0, Value.int x0]) below meth c s.heap [] 0 0 (MQ below (QI D C (oMM C e0 e1 e2 e3 e4 e5 e6 e7 e8 e9 e10 e11 e12 e13 e14 e15 m_s m_held m_aside m_before m_isHeld m_tape m_taped m_token m_from m_to m_value m_isWrong m_due m_firsts m_rows m_rowN m_sortOf m_sizeOf m_numbers m_holdsWhat m_holdsWhich m_holdsMany m_bodies m_ran m_actKind m_actN m_actA m_isParted []) (oMM C e0 e1 e2 e3 e4 e5 e6 e7 e8 e9 e10 e11 e12 e13 e14 e15 (m_s') m_held (m_aside') m_before m_isHeld m_tape m_taped m_token m_from m_to m_value m_isWrong (m_due') m_firsts m_rows m_rowN m_sortOf m_sizeOf m_numbers m_holdsWhat m_holdsWhich m_holdsMany m_bodies m_ran m_actKind m_actN m_actA m_isParted []) s.heap.size r) (List.toArray [Value.ref e0, Value.int x0]) s 0 0 A) _
  rw [← hQ]
  unfold f_X6_stir at hf
  have main : ∀ (H : Heap) (locs : List Loc), va_P D vwCl (oMM C e0 e1 e2 e3 e4 e5 e6 e7 e8 e9 e10 e11 e12 e13 e14 e15 m_s m_held m_aside m_before m_isHeld m_tape m_taped m_token m_from m_to m_value m_isWrong m_due m_firsts m_rows m_rowN m_sortOf m_sizeOf m_numbers m_holdsWhat m_holdsWhich m_holdsMany m_bodies m_ran m_actKind m_actN m_actA m_isParted []) H → va_D A (oMM C e0 e1 e2 e3 e4 e5 e6 e7 e8 e9 e10 e11 e12 e13 e14 e15 m_s m_held m_aside m_before m_isHeld m_tape m_taped m_token m_from m_to m_value m_isWrong m_due m_firsts m_rows m_rowN m_sortOf m_sizeOf m_numbers m_holdsWhat m_holdsWhich m_holdsMany m_bodies m_ran m_actKind m_actN m_actA m_isParted []) → va_S A s.heap H locs → W p l e (headSpec wsX6_stir (rmX6_stir)).room s m (List.toArray [Value.ref e0, Value.int x0]) below meth c H locs 0 0 Q (F0 m 0 ls []) := by
    intro H locs hP hD hS
    refine lv_iload_n hx hb dX6_stir_0 rfl (lv_at hl 1 rfl) ?_
    refine lv_i2l hx hb dX6_stir_1 rfl ?_
    refine lv_lconst (v := 1) hx hb dX6_stir_2 rfl ?_
    refine lv_ldc2 (v := 30) hx hb hown (hts (.constantLong RX6 225 (30)) (List.mem_of_getElem? (i := 1) rfl)) dX6_stir_3 ?_
    refine kcz (Wx := (oMM C e0 e1 e2 e3 e4 e5 e6 e7 e8 e9 e10 e11 e12 e13 e14 e15 m_s m_held m_aside m_before m_isHeld m_tape m_taped m_token m_from m_to m_value m_isWrong m_due m_firsts m_rows m_rowN m_sortOf m_sizeOf m_numbers m_holdsWhat m_holdsWhich m_holdsMany m_bodies m_ran m_actKind m_actN m_actA m_isParted [])) (va_runS (As := [.long (Int32.toInt64 x0), .long 1, .long 30]) (rest := []) ⟨hx, hb, hml, hown, hts⟩ (c_X6_isIn l E D C H.size (Int32.toInt64 x0) 1 30 _ rfl) (va_cwS 3 hts gX6_stir_X6_isIn rfl rfl rfl hdX6_isIn ⟨Nat.le_of_ble_eq_true rfl, Nat.le_of_ble_eq_true rfl⟩) (kpre hP hD hK hS hE hA [] rfl rfl) rfl rfl hl.1 rfl (lv_room (Nat.le_of_ble_eq_true rfl)) dX6_stir_6 ⟨Nat.zero_le _, Nat.zero_le _⟩) hP hD hS hA [] rfl rfl rfl (fun H locs hz1 hP hD hS => ?_)
    refine lv_if_ne (tgt := 14) hx hb dX6_stir_9 (by decide) (fun c2 => ?_) (fun c2 => ?_)
    · replace hf := if_fe c2 hf
      refine lv_aload_n hx hb dX6_stir_14 rfl (lv_at hl 0 rfl) ?_
      refine va_get (D := D) (ci := 6) (v := .ref e1) (C := RX6) (T := TX6) (N := 28) hx hb hts hi_RX6 hown hK hP 0 rfl rfl 0 (by decide) (hts (.fieldLink RX6 7 "TravelMarksModel" "s" "[I") (List.mem_of_getElem? (i := 2) rfl)) (fun _ h9 => h9) rfl dX6_stir_15 ?_
      refine lv_aload_n hx hb dX6_stir_18 rfl (lv_at hl 0 rfl) ?_
      refine va_get (D := D) (ci := 6) (v := .ref e3) (C := RX6) (T := TX6) (N := 28) hx hb hts hi_RX6 hown hK hP 0 rfl rfl 2 (by decide) (hts (.fieldLink RX6 16 "TravelMarksModel" "aside" "[I") (List.mem_of_getElem? (i := 3) rfl)) (fun _ h9 => h9) rfl dX6_stir_19 ?_
      obtain ⟨v3, h4, hf⟩ := ob1_e hf
      refine kcv (Wx := (oMM C e0 e1 e2 e3 e4 e5 e6 e7 e8 e9 e10 e11 e12 e13 e14 e15 m_s m_held v3 m_before m_isHeld m_tape m_taped m_token m_from m_to m_value m_isWrong m_due m_firsts m_rows m_rowN m_sortOf m_sizeOf m_numbers m_holdsWhat m_holdsWhich m_holdsMany m_bodies m_ran m_actKind m_actN m_actA m_isParted [])) (va_runS (As := [.ref e1, .ref e3]) (rest := []) ⟨hx, hb, hml, hown, hts⟩ (c_X6_copyRow l E D C e1 e3 H.size N m_s m_aside v3 h4) (va_cwS 2 hts gX6_stir_X6_copyRow rfl rfl rfl hdX6_copyRow ⟨Nat.le_of_ble_eq_true rfl, Nat.le_of_ble_eq_true rfl⟩) (kpre hP hD hK hS hE hA [1, 3] rfl rfl) rfl rfl hl.1 rfl (lv_room (Nat.le_of_ble_eq_true rfl)) dX6_stir_22 ⟨Nat.zero_le _, Nat.zero_le _⟩) hP hD hS hA [1, 3] rfl rfl rfl (fun H locs hP hD hS => ?_)
      refine lv_aload_n hx hb dX6_stir_25 rfl (lv_at hl 0 rfl) ?_
      refine lv_iconst (v := 1) hx hb dX6_stir_26 rfl ?_
      obtain ⟨v5, h6, hf⟩ := ob1_e hf
      refine kmv (w1 := (oMM C e0 e1 e2 e3 e4 e5 e6 e7 e8 e9 e10 e11 e12 e13 e14 e15 v5 m_held v3 m_before m_isHeld m_tape m_taped m_token m_from m_to m_value m_isWrong m_due m_firsts m_rows m_rowN m_sortOf m_sizeOf m_numbers m_holdsWhat m_holdsWhich m_holdsMany m_bodies m_ran m_actKind m_actN m_actA m_isParted [])) (va_runV (As := [.int 1]) (rest := []) ⟨hx, hb, hml, hown, hts⟩ (c_X6_goes l E D C e0 e1 e2 e3 e4 e5 e6 e7 e8 e9 e10 e11 e12 e13 e14 e15 H.size N m_s m_held v3 m_before m_isHeld m_tape m_taped m_token m_from m_to m_value m_isWrong m_due m_firsts m_rows m_rowN m_sortOf m_sizeOf m_numbers m_holdsWhat m_holdsWhich m_holdsMany m_bodies m_ran m_actKind m_actN m_actA m_isParted 1 v5 h6) (cwV 1 hts gX6_stir_X6_goes rfl rfl rfl hdX6_goes ⟨Nat.le_of_ble_eq_true rfl, Nat.le_of_ble_eq_true rfl⟩) (kpreM hP hD hK hS hE hA 0 rfl rfl rfl) rfl rfl hl.1 rfl (lv_room (Nat.le_of_ble_eq_true rfl)) dX6_stir_27 ⟨Nat.zero_le _, Nat.zero_le _⟩) hP hD hS hA rfl (fun H locs hP hD hS => ?_)
      refine lv_iconst (v := 0) hx hb dX6_stir_30 rfl ?_
      refine lv_istore_n (lv' := [(2, .int 0), (0, .ref e0), (1, .int x0)]) hx hb dX6_stir_31 rfl hl (by decide) rfl (fun ls hl => ?_)
      obtain ⟨j8, hj8, hf⟩ := lj_e hf
      have Hj8 : ∀ (v7 : Nat → Int32) (H : Heap) (locs : List Loc) (ls : Array Slot), va_P D vwCl (oMM C e0 e1 e2 e3 e4 e5 e6 e7 e8 e9 e10 e11 e12 e13 e14 e15 v5 m_held v3 m_before m_isHeld m_tape m_taped m_token m_from m_to m_value m_isWrong v7 m_firsts m_rows m_rowN m_sortOf m_sizeOf m_numbers m_holdsWhat m_holdsWhich m_holdsMany m_bodies m_ran m_actKind m_actN m_actA m_isParted []) H → va_D A (oMM C e0 e1 e2 e3 e4 e5 e6 e7 e8 e9 e10 e11 e12 e13 e14 e15 v5 m_held v3 m_before m_isHeld m_tape m_taped m_token m_from m_to m_value m_isWrong v7 m_firsts m_rows m_rowN m_sortOf m_sizeOf m_numbers m_holdsWhat m_holdsWhich m_holdsMany m_bodies m_ran m_actKind m_actN m_actA m_isParted []) → va_S A s.heap H locs → lv_has ls 8 [(0, .ref e0), (1, .int x0)] → j8 v7 = some (r, m_s', m_aside', m_due') → W p l e (headSpec wsX6_stir (rmX6_stir)).room s m (List.toArray [Value.ref e0, Value.int x0]) below meth c H locs 0 0 Q (F0 m 60 ls []) := by
        intro v7 H locs ls hP hD hS hl hf
        rw [hj8] at hf
        refine lv_aload_n hx hb dX6_stir_60 rfl (lv_at hl 0 rfl) ?_
        refine va_get (D := D) (ci := 6) (v := .ref e3) (C := RX6) (T := TX6) (N := 28) hx hb hts hi_RX6 hown hK hP 0 rfl rfl 2 (by decide) (hts (.fieldLink RX6 16 "TravelMarksModel" "aside" "[I") (List.mem_of_getElem? (i := 3) rfl)) (fun _ h9 => h9) rfl dX6_stir_61 ?_
        refine lv_iconst (v := 2) hx hb dX6_stir_64 rfl ?_
        refine va_iald hx hb hK hP 3 0 rfl rfl (i := 2) (vin (by decide)) dX6_stir_65 ?_
        refine lv_ren (show (v3 2) = v3 (Int32.toNatClampNeg 2) from rfl) ?_
        obtain ⟨t9, et9, hf⟩ := lj_e hf
        refine lv_ren et9 ?_
        refine lv_istore_n (lv' := [(2, .int t9), (0, .ref e0), (1, .int x0)]) hx hb dX6_stir_66 rfl hl (by decide) rfl (fun ls hl => ?_)
        refine lv_iconst (v := 0) hx hb dX6_stir_67 rfl ?_
        refine lv_istore_n (lv' := [(3, .int 0), (2, .int t9), (0, .ref e0), (1, .int x0)]) hx hb dX6_stir_68 rfl hl (by decide) rfl (fun ls hl => ?_)
        refine lv_iconst (v := 0) hx hb dX6_stir_69 rfl ?_
        refine lv_istore (lv' := [(4, .int 0), (3, .int 0), (2, .int t9), (0, .ref e0), (1, .int x0)]) hx hb dX6_stir_70 hl (by decide) rfl (fun ls hl => ?_)
        obtain ⟨j12, hj12, hf⟩ := lj_e hf
        have Hj12 : ∀ (i10 : Int32) (v11 : Nat → Int32) (H : Heap) (locs : List Loc) (ls : Array Slot), va_P D vwCl (oMM C e0 e1 e2 e3 e4 e5 e6 e7 e8 e9 e10 e11 e12 e13 e14 e15 v11 m_held v3 m_before m_isHeld m_tape m_taped m_token m_from m_to m_value m_isWrong v7 m_firsts m_rows m_rowN m_sortOf m_sizeOf m_numbers m_holdsWhat m_holdsWhich m_holdsMany m_bodies m_ran m_actKind m_actN m_actA m_isParted []) H → va_D A (oMM C e0 e1 e2 e3 e4 e5 e6 e7 e8 e9 e10 e11 e12 e13 e14 e15 v11 m_held v3 m_before m_isHeld m_tape m_taped m_token m_from m_to m_value m_isWrong v7 m_firsts m_rows m_rowN m_sortOf m_sizeOf m_numbers m_holdsWhat m_holdsWhich m_holdsMany m_bodies m_ran m_actKind m_actN m_actA m_isParted []) → va_S A s.heap H locs → lv_has ls 8 [(3, .int i10), (0, .ref e0)] → j12 i10 v11 = some (r, m_s', m_aside', m_due') → W p l e (headSpec wsX6_stir (rmX6_stir)).room s m (List.toArray [Value.ref e0, Value.int x0]) below meth c H locs 0 0 Q (F0 m 178 ls []) := by
          intro i10 v11 H locs ls hP hD hS hl hf
          rw [hj12] at hf
          refine lv_aload_n hx hb dX6_stir_178 rfl (lv_at hl 1 rfl) ?_
          refine va_get (D := D) (ci := 6) (v := .ref e3) (C := RX6) (T := TX6) (N := 28) hx hb hts hi_RX6 hown hK hP 0 rfl rfl 2 (by decide) (hts (.fieldLink RX6 16 "TravelMarksModel" "aside" "[I") (List.mem_of_getElem? (i := 3) rfl)) (fun _ h9 => h9) rfl dX6_stir_179 ?_
          refine lv_aload_n hx hb dX6_stir_182 rfl (lv_at hl 1 rfl) ?_
          refine va_get (D := D) (ci := 6) (v := .ref e1) (C := RX6) (T := TX6) (N := 28) hx hb hts hi_RX6 hown hK hP 0 rfl rfl 0 (by decide) (hts (.fieldLink RX6 7 "TravelMarksModel" "s" "[I") (List.mem_of_getElem? (i := 2) rfl)) (fun _ h9 => h9) rfl dX6_stir_183 ?_
          obtain ⟨v13, h14, hf⟩ := ob1_e hf
          refine kcv (Wx := (oMM C e0 e1 e2 e3 e4 e5 e6 e7 e8 e9 e10 e11 e12 e13 e14 e15 v13 m_held v3 m_before m_isHeld m_tape m_taped m_token m_from m_to m_value m_isWrong v7 m_firsts m_rows m_rowN m_sortOf m_sizeOf m_numbers m_holdsWhat m_holdsWhich m_holdsMany m_bodies m_ran m_actKind m_actN m_actA m_isParted [])) (va_runS (As := [.ref e3, .ref e1]) (rest := []) ⟨hx, hb, hml, hown, hts⟩ (c_X6_copyRow l E D C e3 e1 H.size N v3 v11 v13 h14) (va_cwS 2 hts gX6_stir_X6_copyRow rfl rfl rfl hdX6_copyRow ⟨Nat.le_of_ble_eq_true rfl, Nat.le_of_ble_eq_true rfl⟩) (kpre hP hD hK hS hE hA [3, 1] rfl rfl) rfl rfl hl.1 rfl (lv_room (Nat.le_of_ble_eq_true rfl)) dX6_stir_186 ⟨Nat.zero_le _, Nat.zero_le _⟩) hP hD hS hA [3, 1] rfl rfl rfl (fun H locs hP hD hS => ?_)
          refine lv_iload_n hx hb dX6_stir_189 rfl (lv_at hl 0 rfl) ?_
          cases hf
          exact kri hQ hAe hx hb hr hlocks hP hD hK hS dX6_stir_190
        have hL72 : ∀ (n : Nat) (i15 : Int32) (i16 : Int32) (i17 : Int32) (v18 : Nat → Int32) (H : Heap) (locs : List Loc) (ls : Array Slot), va_P D vwCl (oMM C e0 e1 e2 e3 e4 e5 e6 e7 e8 e9 e10 e11 e12 e13 e14 e15 v18 m_held v3 m_before m_isHeld m_tape m_taped m_token m_from m_to m_value m_isWrong v7 m_firsts m_rows m_rowN m_sortOf m_sizeOf m_numbers m_holdsWhat m_holdsWhich m_holdsMany m_bodies m_ran m_actKind m_actN m_actA m_isParted []) H → va_D A (oMM C e0 e1 e2 e3 e4 e5 e6 e7 e8 e9 e10 e11 e12 e13 e14 e15 v18 m_held v3 m_before m_isHeld m_tape m_taped m_token m_from m_to m_value m_isWrong v7 m_firsts m_rows m_rowN m_sortOf m_sizeOf m_numbers m_holdsWhat m_holdsWhich m_holdsMany m_bodies m_ran m_actKind m_actN m_actA m_isParted []) → va_S A s.heap H locs → lv_has ls 8 [(4, .int i15), (3, .int i16), (2, .int i17), (0, .ref e0), (1, .int x0)] → f_X6_stir_L72 N x0 v3 v7 j12 n i15 i16 i17 v18 = some (r, m_s', m_aside', m_due') → W p l e (headSpec wsX6_stir (rmX6_stir)).room s m (List.toArray [Value.ref e0, Value.int x0]) below meth c H locs 0 0 Q (F0 m 72 ls []) := by
          intro n
          induction n with
          | zero =>
            intro i15 i16 i17 v18 H locs ls hP hD hS hl hf
            exact absurd hf (fun h => by cases h)
          | succ n ih =>
            intro i15 i16 i17 v18 H locs ls hP hD hS hl hf
            rw [f_X6_stir_L72] at hf
            refine lv_iload hx hb dX6_stir_72 (lv_at hl 0 rfl) ?_
            refine lv_iload_n hx hb dX6_stir_74 rfl (lv_at hl 4 rfl) ?_
            refine lv_icmp_ge (tgt := 178) hx hb dX6_stir_75 (by decide) (fun c19 => ?_) (fun c19 => ?_)
            · replace hf := if_te c19 hf
              exact Hj12 i16 v18 H locs ls hP hD hS (lv_sub hl [1, 3] rfl) hf
            · replace hf := if_fe c19 hf
              refine lv_aload_n hx hb dX6_stir_78 rfl (lv_at hl 3 rfl) ?_
              refine va_get (D := D) (ci := 6) (v := .ref e3) (C := RX6) (T := TX6) (N := 28) hx hb hts hi_RX6 hown hK hP 0 rfl rfl 2 (by decide) (hts (.fieldLink RX6 16 "TravelMarksModel" "aside" "[I") (List.mem_of_getElem? (i := 3) rfl)) (fun _ h9 => h9) rfl dX6_stir_79 ?_
              refine lv_aload_n hx hb dX6_stir_82 rfl (lv_at hl 3 rfl) ?_
              refine va_get (D := D) (ci := 6) (v := .ref e1) (C := RX6) (T := TX6) (N := 28) hx hb hts hi_RX6 hown hK hP 0 rfl rfl 0 (by decide) (hts (.fieldLink RX6 7 "TravelMarksModel" "s" "[I") (List.mem_of_getElem? (i := 2) rfl)) (fun _ h9 => h9) rfl dX6_stir_83 ?_
              obtain ⟨v20, h21, hf⟩ := ob1_e hf
              refine kcv (Wx := (oMM C e0 e1 e2 e3 e4 e5 e6 e7 e8 e9 e10 e11 e12 e13 e14 e15 v20 m_held v3 m_before m_isHeld m_tape m_taped m_token m_from m_to m_value m_isWrong v7 m_firsts m_rows m_rowN m_sortOf m_sizeOf m_numbers m_holdsWhat m_holdsWhich m_holdsMany m_bodies m_ran m_actKind m_actN m_actA m_isParted [])) (va_runS (As := [.ref e3, .ref e1]) (rest := []) ⟨hx, hb, hml, hown, hts⟩ (c_X6_copyRow l E D C e3 e1 H.size N v3 v18 v20 h21) (va_cwS 2 hts gX6_stir_X6_copyRow rfl rfl rfl hdX6_copyRow ⟨Nat.le_of_ble_eq_true rfl, Nat.le_of_ble_eq_true rfl⟩) (kpre hP hD hK hS hE hA [3, 1] rfl rfl) rfl rfl hl.1 rfl (lv_room (Nat.le_of_ble_eq_true rfl)) dX6_stir_86 ⟨Nat.zero_le _, Nat.zero_le _⟩) hP hD hS hA [3, 1] rfl rfl rfl (fun H locs hP hD hS => ?_)
              refine lv_aload_n hx hb dX6_stir_89 rfl (lv_at hl 3 rfl) ?_
              refine va_get (D := D) (ci := 6) (v := .ref e1) (C := RX6) (T := TX6) (N := 28) hx hb hts hi_RX6 hown hK hP 0 rfl rfl 0 (by decide) (hts (.fieldLink RX6 7 "TravelMarksModel" "s" "[I") (List.mem_of_getElem? (i := 2) rfl)) (fun _ h9 => h9) rfl dX6_stir_90 ?_
              refine lv_iconst (v := 2) hx hb dX6_stir_93 rfl ?_
              refine lv_iload_n hx hb dX6_stir_94 rfl (lv_at hl 2 rfl) ?_
              refine va_iast hx hb hK hP hD hS 1 0 rfl rfl (i := 2) (vin (by decide)) dX6_stir_95 (fun H locs hP hD hS => ?_)
              obtain ⟨v22, ev22, hf⟩ := lj_e hf
              have hP : va_P D vwCl (oMM C e0 e1 e2 e3 e4 e5 e6 e7 e8 e9 e10 e11 e12 e13 e14 e15 v22 m_held v3 m_before m_isHeld m_tape m_taped m_token m_from m_to m_value m_isWrong v7 m_firsts m_rows m_rowN m_sortOf m_sizeOf m_numbers m_holdsWhat m_holdsWhich m_holdsMany m_bodies m_ran m_actKind m_actN m_actA m_isParted []) H := by rw [ev22]; exact hP
              have hD : va_D A (oMM C e0 e1 e2 e3 e4 e5 e6 e7 e8 e9 e10 e11 e12 e13 e14 e15 v22 m_held v3 m_before m_isHeld m_tape m_taped m_token m_from m_to m_value m_isWrong v7 m_firsts m_rows m_rowN m_sortOf m_sizeOf m_numbers m_holdsWhat m_holdsWhich m_holdsMany m_bodies m_ran m_actKind m_actN m_actA m_isParted []) := by rw [ev22]; exact hD
              refine lv_aload_n hx hb dX6_stir_96 rfl (lv_at hl 3 rfl) ?_
              obtain ⟨r23, v24, h25, hf⟩ := ob2_e hf
              refine kmi (w1 := (oMM C e0 e1 e2 e3 e4 e5 e6 e7 e8 e9 e10 e11 e12 e13 e14 e15 v24 m_held v3 m_before m_isHeld m_tape m_taped m_token m_from m_to m_value m_isWrong v7 m_firsts m_rows m_rowN m_sortOf m_sizeOf m_numbers m_holdsWhat m_holdsWhich m_holdsMany m_bodies m_ran m_actKind m_actN m_actA m_isParted [])) (va_runV (As := []) (rest := []) ⟨hx, hb, hml, hown, hts⟩ (c_X6_hour l E D C e0 e1 e2 e3 e4 e5 e6 e7 e8 e9 e10 e11 e12 e13 e14 e15 H.size N v22 m_held v3 m_before m_isHeld m_tape m_taped m_token m_from m_to m_value m_isWrong v7 m_firsts m_rows m_rowN m_sortOf m_sizeOf m_numbers m_holdsWhat m_holdsWhich m_holdsMany m_bodies m_ran m_actKind m_actN m_actA m_isParted r23 v24 h25) (cwV 0 hts gX6_stir_X6_hour rfl rfl rfl hdX6_hour ⟨Nat.le_of_ble_eq_true rfl, Nat.le_of_ble_eq_true rfl⟩) (kpreM hP hD hK hS hE hA 0 rfl rfl rfl) rfl rfl hl.1 rfl (lv_room (Nat.le_of_ble_eq_true rfl)) dX6_stir_97 ⟨Nat.zero_le _, Nat.zero_le _⟩) hP hD hS hA rfl (fun H locs hP hD hS => ?_)
              refine lv_istore (lv' := [(5, .int r23), (4, .int i15), (3, .int i16), (2, .int i17), (0, .ref e0), (1, .int x0)]) hx hb dX6_stir_100 hl (by decide) rfl (fun ls hl => ?_)
              refine lv_iconst (v := 0) hx hb dX6_stir_102 rfl ?_
              refine lv_istore (lv' := [(6, .int 0), (5, .int r23), (4, .int i15), (3, .int i16), (2, .int i17), (0, .ref e0), (1, .int x0)]) hx hb dX6_stir_103 hl (by decide) rfl (fun ls hl => ?_)
              refine lv_iconst (v := 0) hx hb dX6_stir_105 rfl ?_
              refine lv_istore (lv' := [(7, .int 0), (6, .int 0), (5, .int r23), (4, .int i15), (3, .int i16), (2, .int i17), (0, .ref e0), (1, .int x0)]) hx hb dX6_stir_106 hl (by decide) rfl (fun ls hl => ?_)
              obtain ⟨j27, hj27, hf⟩ := lj_e hf
              have Hj27 : ∀ (i26 : Int32) (H : Heap) (locs : List Loc) (ls : Array Slot), va_P D vwCl (oMM C e0 e1 e2 e3 e4 e5 e6 e7 e8 e9 e10 e11 e12 e13 e14 e15 v24 m_held v3 m_before m_isHeld m_tape m_taped m_token m_from m_to m_value m_isWrong v7 m_firsts m_rows m_rowN m_sortOf m_sizeOf m_numbers m_holdsWhat m_holdsWhich m_holdsMany m_bodies m_ran m_actKind m_actN m_actA m_isParted []) H → va_D A (oMM C e0 e1 e2 e3 e4 e5 e6 e7 e8 e9 e10 e11 e12 e13 e14 e15 v24 m_held v3 m_before m_isHeld m_tape m_taped m_token m_from m_to m_value m_isWrong v7 m_firsts m_rows m_rowN m_sortOf m_sizeOf m_numbers m_holdsWhat m_holdsWhich m_holdsMany m_bodies m_ran m_actKind m_actN m_actA m_isParted []) → va_S A s.heap H locs → lv_has ls 8 [(6, .int i26), (4, .int i15), (3, .int i16), (0, .ref e0), (1, .int x0)] → j27 i26 = some (r, m_s', m_aside', m_due') → W p l e (headSpec wsX6_stir (rmX6_stir)).room s m (List.toArray [Value.ref e0, Value.int x0]) below meth c H locs 0 0 Q (F0 m 152 ls []) := by
                intro i26 H locs ls hP hD hS hl hf
                rw [hj27] at hf
                refine lv_iload_n hx hb dX6_stir_152 rfl (lv_at hl 2 rfl) ?_
                refine lv_iload hx hb dX6_stir_153 (lv_at hl 0 rfl) ?_
                obtain ⟨j29, hj29, hf⟩ := lj_e hf
                have Hj29 : ∀ (k28 : Int32) (H : Heap) (locs : List Loc) (ls : Array Slot), va_P D vwCl (oMM C e0 e1 e2 e3 e4 e5 e6 e7 e8 e9 e10 e11 e12 e13 e14 e15 v24 m_held v3 m_before m_isHeld m_tape m_taped m_token m_from m_to m_value m_isWrong v7 m_firsts m_rows m_rowN m_sortOf m_sizeOf m_numbers m_holdsWhat m_holdsWhich m_holdsMany m_bodies m_ran m_actKind m_actN m_actA m_isParted []) H → va_D A (oMM C e0 e1 e2 e3 e4 e5 e6 e7 e8 e9 e10 e11 e12 e13 e14 e15 v24 m_held v3 m_before m_isHeld m_tape m_taped m_token m_from m_to m_value m_isWrong v7 m_firsts m_rows m_rowN m_sortOf m_sizeOf m_numbers m_holdsWhat m_holdsWhich m_holdsMany m_bodies m_ran m_actKind m_actN m_actA m_isParted []) → va_S A s.heap H locs → lv_has ls 8 [(4, .int i15), (0, .ref e0), (1, .int x0)] → j29 k28 = some (r, m_s', m_aside', m_due') → W p l e (headSpec wsX6_stir (rmX6_stir)).room s m (List.toArray [Value.ref e0, Value.int x0]) below meth c H locs 0 0 Q (F0 m 163 ls [.int k28, .int i16]) := by
                  intro k28 H locs ls hP hD hS hl hf
                  rw [hj29] at hf
                  refine lv_iadd hx hb dX6_stir_163 ?_
                  obtain ⟨t30, et30, hf⟩ := lj_e hf
                  refine lv_ren et30 ?_
                  refine lv_istore_n (lv' := [(3, .int t30), (4, .int i15), (0, .ref e0), (1, .int x0)]) hx hb dX6_stir_164 rfl hl (by decide) rfl (fun ls hl => ?_)
                  refine lv_aload_n hx hb dX6_stir_165 rfl (lv_at hl 2 rfl) ?_
                  refine va_get (D := D) (ci := 6) (v := .ref e1) (C := RX6) (T := TX6) (N := 28) hx hb hts hi_RX6 hown hK hP 0 rfl rfl 0 (by decide) (hts (.fieldLink RX6 7 "TravelMarksModel" "s" "[I") (List.mem_of_getElem? (i := 2) rfl)) (fun _ h9 => h9) rfl dX6_stir_166 ?_
                  refine lv_iconst (v := 2) hx hb dX6_stir_169 rfl ?_
                  refine va_iald hx hb hK hP 1 0 rfl rfl (i := 2) (vin (by decide)) dX6_stir_170 ?_
                  refine lv_ren (show (v24 2) = v24 (Int32.toNatClampNeg 2) from rfl) ?_
                  obtain ⟨t31, et31, hf⟩ := lj_e hf
                  refine lv_ren et31 ?_
                  refine lv_istore_n (lv' := [(2, .int t31), (3, .int t30), (4, .int i15), (0, .ref e0), (1, .int x0)]) hx hb dX6_stir_171 rfl hl (by decide) rfl (fun ls hl => ?_)
                  obtain ⟨t32, et32, hf⟩ := lj_e hf
                  refine lv_iinc (v := t32) (lv' := [(4, .int t32), (2, .int t31), (3, .int t30), (0, .ref e0), (1, .int x0)]) hx hb dX6_stir_172 hl (k := 2) rfl (by rw [et32]; rfl) (by decide) rfl (fun ls hl => ?_)
                  refine lv_goto (tgt := 72) hx hb dX6_stir_175 (by decide) ?_
                  exact ih t32 t30 t31 v24 H locs ls hP hD hS (lv_sub hl [0, 2, 1, 3, 4] rfl) hf
                refine lv_if_eq (tgt := 162) hx hb dX6_stir_155 (by decide) (fun c33 => ?_) (fun c33 => ?_)
                · replace hf := if_te c33 hf
                  refine lv_iconst (v := 0) hx hb dX6_stir_162 rfl ?_
                  exact Hj29 0 H locs ls hP hD hS (lv_sub hl [1, 3, 4] rfl) hf
                · replace hf := if_fe c33 hf
                  refine lv_iconst (v := 1) hx hb dX6_stir_158 rfl ?_
                  refine lv_goto (tgt := 163) hx hb dX6_stir_159 (by decide) ?_
                  exact Hj29 1 H locs ls hP hD hS (lv_sub hl [1, 3, 4] rfl) hf
              have hL108 : ∀ (n : Nat) (i34 : Int32) (i35 : Int32) (H : Heap) (locs : List Loc) (ls : Array Slot), va_P D vwCl (oMM C e0 e1 e2 e3 e4 e5 e6 e7 e8 e9 e10 e11 e12 e13 e14 e15 v24 m_held v3 m_before m_isHeld m_tape m_taped m_token m_from m_to m_value m_isWrong v7 m_firsts m_rows m_rowN m_sortOf m_sizeOf m_numbers m_holdsWhat m_holdsWhich m_holdsMany m_bodies m_ran m_actKind m_actN m_actA m_isParted []) H → va_D A (oMM C e0 e1 e2 e3 e4 e5 e6 e7 e8 e9 e10 e11 e12 e13 e14 e15 v24 m_held v3 m_before m_isHeld m_tape m_taped m_token m_from m_to m_value m_isWrong v7 m_firsts m_rows m_rowN m_sortOf m_sizeOf m_numbers m_holdsWhat m_holdsWhich m_holdsMany m_bodies m_ran m_actKind m_actN m_actA m_isParted []) → va_S A s.heap H locs → lv_has ls 8 [(7, .int i34), (6, .int i35), (4, .int i15), (3, .int i16), (0, .ref e0), (1, .int x0)] → f_X6_stir_L108 v7 v24 j27 n i34 i35 = some (r, m_s', m_aside', m_due') → W p l e (headSpec wsX6_stir (rmX6_stir)).room s m (List.toArray [Value.ref e0, Value.int x0]) below meth c H locs 0 0 Q (F0 m 108 ls []) := by
                intro n
                induction n with
                | zero =>
                  intro i34 i35 H locs ls hP hD hS hl hf
                  exact absurd hf (fun h => by cases h)
                | succ n ih =>
                  intro i34 i35 H locs ls hP hD hS hl hf
                  rw [f_X6_stir_L108] at hf
                  refine lv_iload hx hb dX6_stir_108 (lv_at hl 0 rfl) ?_
                  refine lv_aload_n hx hb dX6_stir_110 rfl (lv_at hl 4 rfl) ?_
                  refine va_get (D := D) (ci := 6) (v := .ref e1) (C := RX6) (T := TX6) (N := 28) hx hb hts hi_RX6 hown hK hP 0 rfl rfl 0 (by decide) (hts (.fieldLink RX6 7 "TravelMarksModel" "s" "[I") (List.mem_of_getElem? (i := 2) rfl)) (fun _ h9 => h9) rfl dX6_stir_111 ?_
                  refine lv_iconst (v := 0) hx hb dX6_stir_114 rfl ?_
                  refine va_iald hx hb hK hP 1 0 rfl rfl (i := 0) (vin (by decide)) dX6_stir_115 ?_
                  refine lv_ren (show (v24 0) = v24 (Int32.toNatClampNeg 0) from rfl) ?_
                  refine lv_icmp_ge (tgt := 152) hx hb dX6_stir_116 (by decide) (fun c36 => ?_) (fun c36 => ?_)
                  · replace hf := if_te c36 hf
                    exact Hj27 i35 H locs ls hP hD hS (lv_sub hl [1, 2, 3, 4, 5] rfl) hf
                  · replace hf := if_fe c36 hf
                    refine lv_iload hx hb dX6_stir_119 (lv_at hl 1 rfl) ?_
                    refine lv_aload_n hx hb dX6_stir_121 rfl (lv_at hl 4 rfl) ?_
                    refine lv_iload hx hb dX6_stir_122 (lv_at hl 0 rfl) ?_
                    refine lv_iconst (v := 2) hx hb dX6_stir_124 rfl ?_
                    obtain ⟨r37, h38, hf⟩ := ob1_e hf
                    refine kmi (w1 := (oMM C e0 e1 e2 e3 e4 e5 e6 e7 e8 e9 e10 e11 e12 e13 e14 e15 v24 m_held v3 m_before m_isHeld m_tape m_taped m_token m_from m_to m_value m_isWrong v7 m_firsts m_rows m_rowN m_sortOf m_sizeOf m_numbers m_holdsWhat m_holdsWhich m_holdsMany m_bodies m_ran m_actKind m_actN m_actA m_isParted [])) (va_runV (As := [.int i34, .int 2]) (rest := [.int i35]) ⟨hx, hb, hml, hown, hts⟩ (c_X6_its l E D C e0 e1 e2 e3 e4 e5 e6 e7 e8 e9 e10 e11 e12 e13 e14 e15 H.size v24 m_held v3 m_before m_isHeld m_tape m_taped m_token m_from m_to m_value m_isWrong v7 m_firsts m_rows m_rowN m_sortOf m_sizeOf m_numbers m_holdsWhat m_holdsWhich m_holdsMany m_bodies m_ran m_actKind m_actN m_actA m_isParted i34 2 r37 h38) (cwV 2 hts gX6_stir_X6_its rfl rfl rfl hdX6_its ⟨Nat.le_of_ble_eq_true rfl, Nat.le_of_ble_eq_true rfl⟩) (kpreM hP hD hK hS hE hA 0 rfl rfl rfl) rfl rfl hl.1 rfl (lv_room (Nat.le_of_ble_eq_true rfl)) dX6_stir_125 ⟨Nat.zero_le _, Nat.zero_le _⟩) hP hD hS hA rfl (fun H locs hP hD hS => ?_)
                    refine lv_aload_n hx hb dX6_stir_128 rfl (lv_at hl 4 rfl) ?_
                    refine va_get (D := D) (ci := 6) (v := .ref e6) (C := RX6) (T := TX6) (N := 28) hx hb hts hi_RX6 hown hK hP 0 rfl rfl 12 (by decide) (hts (.fieldLink RX6 25 "TravelMarksModel" "due" "[I") (List.mem_of_getElem? (i := 4) rfl)) (fun _ h9 => h9) rfl dX6_stir_129 ?_
                    refine lv_iload hx hb dX6_stir_132 (lv_at hl 0 rfl) ?_
                    obtain ⟨y40, ey40, hi39, hf⟩ := rdA_x hf
                    refine va_iald hx hb hK hP 6 0 rfl rfl hi39 dX6_stir_134 ?_
                    refine lv_ren ey40 ?_
                    obtain ⟨j42, hj42, hf⟩ := lj_e hf
                    have Hj42 : ∀ (k41 : Int32) (H : Heap) (locs : List Loc) (ls : Array Slot), va_P D vwCl (oMM C e0 e1 e2 e3 e4 e5 e6 e7 e8 e9 e10 e11 e12 e13 e14 e15 v24 m_held v3 m_before m_isHeld m_tape m_taped m_token m_from m_to m_value m_isWrong v7 m_firsts m_rows m_rowN m_sortOf m_sizeOf m_numbers m_holdsWhat m_holdsWhich m_holdsMany m_bodies m_ran m_actKind m_actN m_actA m_isParted []) H → va_D A (oMM C e0 e1 e2 e3 e4 e5 e6 e7 e8 e9 e10 e11 e12 e13 e14 e15 v24 m_held v3 m_before m_isHeld m_tape m_taped m_token m_from m_to m_value m_isWrong v7 m_firsts m_rows m_rowN m_sortOf m_sizeOf m_numbers m_holdsWhat m_holdsWhich m_holdsMany m_bodies m_ran m_actKind m_actN m_actA m_isParted []) → va_S A s.heap H locs → lv_has ls 8 [(7, .int i34), (4, .int i15), (3, .int i16), (0, .ref e0), (1, .int x0)] → j42 k41 = some (r, m_s', m_aside', m_due') → W p l e (headSpec wsX6_stir (rmX6_stir)).room s m (List.toArray [Value.ref e0, Value.int x0]) below meth c H locs 0 0 Q (F0 m 143 ls [.int k41, .int i35]) := by
                      intro k41 H locs ls hP hD hS hl hf
                      rw [hj42] at hf
                      refine lv_ior hx hb dX6_stir_143 ?_
                      obtain ⟨t43, et43, hf⟩ := lj_e hf
                      refine lv_ren et43 ?_
                      refine lv_istore (lv' := [(6, .int t43), (7, .int i34), (4, .int i15), (3, .int i16), (0, .ref e0), (1, .int x0)]) hx hb dX6_stir_144 hl (by decide) rfl (fun ls hl => ?_)
                      obtain ⟨t44, et44, hf⟩ := lj_e hf
                      refine lv_iinc (v := t44) (lv' := [(7, .int t44), (6, .int t43), (4, .int i15), (3, .int i16), (0, .ref e0), (1, .int x0)]) hx hb dX6_stir_146 hl (k := 1) rfl (by rw [et44]; rfl) (by decide) rfl (fun ls hl => ?_)
                      refine lv_goto (tgt := 108) hx hb dX6_stir_149 (by decide) ?_
                      exact ih t44 t43 H locs ls hP hD hS (lv_sub hl [0, 1, 2, 3, 4, 5] rfl) hf
                    refine lv_icmp_eq (tgt := 142) hx hb dX6_stir_135 (by decide) (fun c45 => ?_) (fun c45 => ?_)
                    · replace hf := if_te c45 hf
                      refine lv_iconst (v := 0) hx hb dX6_stir_142 rfl ?_
                      exact Hj42 0 H locs ls hP hD hS (lv_sub hl [0, 2, 3, 4, 5] rfl) hf
                    · replace hf := if_fe c45 hf
                      refine lv_iconst (v := 1) hx hb dX6_stir_138 rfl ?_
                      refine lv_goto (tgt := 143) hx hb dX6_stir_139 (by decide) ?_
                      exact Hj42 1 H locs ls hP hD hS (lv_sub hl [0, 2, 3, 4, 5] rfl) hf
              exact hL108 N 0 0 H locs ls hP hD hS (lv_sub hl [0, 1, 3, 4, 6, 7] rfl) hf
        exact hL72 N 0 0 t9 v5 H locs ls hP hD hS (lv_sub hl [0, 1, 2, 3, 4] rfl) hf
      have hL32 : ∀ (n : Nat) (i46 : Int32) (v47 : Nat → Int32) (H : Heap) (locs : List Loc) (ls : Array Slot), va_P D vwCl (oMM C e0 e1 e2 e3 e4 e5 e6 e7 e8 e9 e10 e11 e12 e13 e14 e15 v5 m_held v3 m_before m_isHeld m_tape m_taped m_token m_from m_to m_value m_isWrong v47 m_firsts m_rows m_rowN m_sortOf m_sizeOf m_numbers m_holdsWhat m_holdsWhich m_holdsMany m_bodies m_ran m_actKind m_actN m_actA m_isParted []) H → va_D A (oMM C e0 e1 e2 e3 e4 e5 e6 e7 e8 e9 e10 e11 e12 e13 e14 e15 v5 m_held v3 m_before m_isHeld m_tape m_taped m_token m_from m_to m_value m_isWrong v47 m_firsts m_rows m_rowN m_sortOf m_sizeOf m_numbers m_holdsWhat m_holdsWhich m_holdsMany m_bodies m_ran m_actKind m_actN m_actA m_isParted []) → va_S A s.heap H locs → lv_has ls 8 [(2, .int i46), (0, .ref e0), (1, .int x0)] → f_X6_stir_L32 v5 j8 n i46 v47 = some (r, m_s', m_aside', m_due') → W p l e (headSpec wsX6_stir (rmX6_stir)).room s m (List.toArray [Value.ref e0, Value.int x0]) below meth c H locs 0 0 Q (F0 m 32 ls []) := by
        intro n
        induction n with
        | zero =>
          intro i46 v47 H locs ls hP hD hS hl hf
          exact absurd hf (fun h => by cases h)
        | succ n ih =>
          intro i46 v47 H locs ls hP hD hS hl hf
          rw [f_X6_stir_L32] at hf
          refine lv_iload_n hx hb dX6_stir_32 rfl (lv_at hl 0 rfl) ?_
          refine lv_aload_n hx hb dX6_stir_33 rfl (lv_at hl 1 rfl) ?_
          refine va_get (D := D) (ci := 6) (v := .ref e1) (C := RX6) (T := TX6) (N := 28) hx hb hts hi_RX6 hown hK hP 0 rfl rfl 0 (by decide) (hts (.fieldLink RX6 7 "TravelMarksModel" "s" "[I") (List.mem_of_getElem? (i := 2) rfl)) (fun _ h9 => h9) rfl dX6_stir_34 ?_
          refine lv_iconst (v := 0) hx hb dX6_stir_37 rfl ?_
          refine va_iald hx hb hK hP 1 0 rfl rfl (i := 0) (vin (by decide)) dX6_stir_38 ?_
          refine lv_ren (show (v5 0) = v5 (Int32.toNatClampNeg 0) from rfl) ?_
          refine lv_icmp_ge (tgt := 60) hx hb dX6_stir_39 (by decide) (fun c48 => ?_) (fun c48 => ?_)
          · replace hf := if_te c48 hf
            exact Hj8 v47 H locs ls hP hD hS (lv_sub hl [1, 2] rfl) hf
          · replace hf := if_fe c48 hf
            refine lv_aload_n hx hb dX6_stir_42 rfl (lv_at hl 1 rfl) ?_
            refine va_get (D := D) (ci := 6) (v := .ref e6) (C := RX6) (T := TX6) (N := 28) hx hb hts hi_RX6 hown hK hP 0 rfl rfl 12 (by decide) (hts (.fieldLink RX6 25 "TravelMarksModel" "due" "[I") (List.mem_of_getElem? (i := 4) rfl)) (fun _ h9 => h9) rfl dX6_stir_43 ?_
            refine lv_iload_n hx hb dX6_stir_46 rfl (lv_at hl 0 rfl) ?_
            refine lv_aload_n hx hb dX6_stir_47 rfl (lv_at hl 1 rfl) ?_
            refine lv_iload_n hx hb dX6_stir_48 rfl (lv_at hl 0 rfl) ?_
            refine lv_iconst (v := 2) hx hb dX6_stir_49 rfl ?_
            obtain ⟨r49, h50, hf⟩ := ob1_e hf
            refine kmi (w1 := (oMM C e0 e1 e2 e3 e4 e5 e6 e7 e8 e9 e10 e11 e12 e13 e14 e15 v5 m_held v3 m_before m_isHeld m_tape m_taped m_token m_from m_to m_value m_isWrong v47 m_firsts m_rows m_rowN m_sortOf m_sizeOf m_numbers m_holdsWhat m_holdsWhich m_holdsMany m_bodies m_ran m_actKind m_actN m_actA m_isParted [])) (va_runV (As := [.int i46, .int 2]) (rest := [.int i46, .ref e6]) ⟨hx, hb, hml, hown, hts⟩ (c_X6_its l E D C e0 e1 e2 e3 e4 e5 e6 e7 e8 e9 e10 e11 e12 e13 e14 e15 H.size v5 m_held v3 m_before m_isHeld m_tape m_taped m_token m_from m_to m_value m_isWrong v47 m_firsts m_rows m_rowN m_sortOf m_sizeOf m_numbers m_holdsWhat m_holdsWhich m_holdsMany m_bodies m_ran m_actKind m_actN m_actA m_isParted i46 2 r49 h50) (cwV 2 hts gX6_stir_X6_its rfl rfl rfl hdX6_its ⟨Nat.le_of_ble_eq_true rfl, Nat.le_of_ble_eq_true rfl⟩) (kpreM hP hD hK hS hE hA 0 rfl rfl rfl) rfl rfl hl.1 rfl (lv_room (Nat.le_of_ble_eq_true rfl)) dX6_stir_50 ⟨Nat.zero_le _, Nat.zero_le _⟩) hP hD hS hA rfl (fun H locs hP hD hS => ?_)
            obtain ⟨hi51, hf⟩ := ckA_e hf
            refine va_iast hx hb hK hP hD hS 6 0 rfl rfl hi51 dX6_stir_53 (fun H locs hP hD hS => ?_)
            obtain ⟨v52, ev52, hf⟩ := lj_e hf
            have hP : va_P D vwCl (oMM C e0 e1 e2 e3 e4 e5 e6 e7 e8 e9 e10 e11 e12 e13 e14 e15 v5 m_held v3 m_before m_isHeld m_tape m_taped m_token m_from m_to m_value m_isWrong v52 m_firsts m_rows m_rowN m_sortOf m_sizeOf m_numbers m_holdsWhat m_holdsWhich m_holdsMany m_bodies m_ran m_actKind m_actN m_actA m_isParted []) H := by rw [ev52]; exact hP
            have hD : va_D A (oMM C e0 e1 e2 e3 e4 e5 e6 e7 e8 e9 e10 e11 e12 e13 e14 e15 v5 m_held v3 m_before m_isHeld m_tape m_taped m_token m_from m_to m_value m_isWrong v52 m_firsts m_rows m_rowN m_sortOf m_sizeOf m_numbers m_holdsWhat m_holdsWhich m_holdsMany m_bodies m_ran m_actKind m_actN m_actA m_isParted []) := by rw [ev52]; exact hD
            obtain ⟨t53, et53, hf⟩ := lj_e hf
            refine lv_iinc (v := t53) (lv' := [(2, .int t53), (0, .ref e0), (1, .int x0)]) hx hb dX6_stir_54 hl (k := 0) rfl (by rw [et53]; rfl) (by decide) rfl (fun ls hl => ?_)
            refine lv_goto (tgt := 32) hx hb dX6_stir_57 (by decide) ?_
            exact ih t53 v52 H locs ls hP hD hS (lv_sub hl [0, 1, 2] rfl) hf
      exact hL32 N 0 m_due H locs ls hP hD hS (lv_sub hl [0, 1, 2] rfl) hf
    · replace hf := if_te c2 hf
      refine lv_iconst (v := (-1)) hx hb dX6_stir_12 rfl ?_
      cases hf
      exact kri hQ hAe hx hb hr hlocks hP hD hK hS dX6_stir_13
  exact main _ _ hP hD hS

def rmX6_inkOfAll : Room := { frames := 1, cells := 0, slots := 0, locals := 22 }
theorem hdX6_inkOfAll : yX6_inkOfAll.cls = RX6 ∧ yX6_inkOfAll.cls ≠ "java/lang/invoke/MethodHandle" ∧ yX6_inkOfAll.cls ≠ "java/lang/invoke/VarHandle" ∧ (parseMethodDescriptor yX6_inkOfAll.desc).map (fun d => d.parameters.length) = some 0 := by decide +kernel
set_option maxHeartbeats 40000000 in
set_option maxRecDepth 100000 in
theorem c_X6_inkOfAll (l : Launch) (E : Nat → Nat) (D : va_G) (C : Nat → ClassId) (e0 e1 e2 e3 e4 e5 e6 e7 e8 e9 e10 e11 e12 e13 e14 e15 : Nat) (sz : Nat) (N : Nat) (m_s : Nat → Int32) (m_held : Nat → Int32) (m_aside : Nat → Int32) (m_before : Nat → Int32) (m_isHeld : Int32) (m_tape : Nat → Int32) (m_taped : Int32) (m_token : Int32) (m_from : Int32) (m_to : Int32) (m_value : Int32) (m_isWrong : Int32) (m_due : Nat → Int32) (m_firsts : Nat → Int32) (m_rows : Nat → Int32) (m_rowN : Int32) (m_sortOf : Nat → Int32) (m_sizeOf : Nat → Int32) (m_numbers : Nat → Int32) (m_holdsWhat : Nat → Int32) (m_holdsWhich : Nat → Int32) (m_holdsMany : Nat → Int32) (m_bodies : Nat → Int32) (m_ran : Int32) (m_actKind : Int32) (m_actN : Int32) (m_actA : Int32) (m_isParted : Int32)  (r : Int32) (hf : f_X6_inkOfAll N m_s = some r) : Met l yX6_inkOfAll wsX6_inkOfAll rmX6_inkOfAll (PC E D C [.ref e0] (oMM C e0 e1 e2 e3 e4 e5 e6 e7 e8 e9 e10 e11 e12 e13 e14 e15 m_s m_held m_aside m_before m_isHeld m_tape m_taped m_token m_from m_to m_value m_isWrong m_due m_firsts m_rows m_rowN m_sortOf m_sizeOf m_numbers m_holdsWhat m_holdsWhich m_holdsMany m_bodies m_ran m_actKind m_actN m_actA m_isParted []) sz) (QI D C (oMM C e0 e1 e2 e3 e4 e5 e6 e7 e8 e9 e10 e11 e12 e13 e14 e15 m_s m_held m_aside m_before m_isHeld m_tape m_taped m_token m_from m_to m_value m_isWrong m_due m_firsts m_rows m_rowN m_sortOf m_sizeOf m_numbers m_holdsWhat m_holdsWhich m_holdsMany m_bodies m_ran m_actKind m_actN m_actA m_isParted []) (oMM C e0 e1 e2 e3 e4 e5 e6 e7 e8 e9 e10 e11 e12 e13 e14 e15 m_s m_held m_aside m_before m_isHeld m_tape m_taped m_token m_from m_to m_value m_isWrong m_due m_firsts m_rows m_rowN m_sortOf m_sizeOf m_numbers m_holdsWhat m_holdsWhich m_holdsMany m_bodies m_ran m_actKind m_actN m_actA m_isParted []) sz r) 0 0 (va_A (oMM C e0 e1 e2 e3 e4 e5 e6 e7 e8 e9 e10 e11 e12 e13 e14 e15 m_s m_held m_aside m_before m_isHeld m_tape m_taped m_token m_from m_to m_value m_isWrong m_due m_firsts m_rows m_rowN m_sortOf m_sizeOf m_numbers m_holdsWhat m_holdsWhich m_holdsMany m_bodies m_ran m_actKind m_actN m_actA m_isParted []) sz) := by
  refine Met.ofW (cc := cX6_inkOfAll) (maxL := 3) (ret := (some .int)) (by decide) rfl ?_
  intro p e s m args below meth c s₁ B hml hv
  obtain ⟨rfl, hsz, hP, hK, hD0, hE⟩ := hv
  have hx := B.exec
  have hb := B.bytes
  have hr := B.returns
  have hts := atoms_spec (ws := wsX6_inkOfAll) B.pre
  have hown : s.vm.findClass RX6 = some m.cls := findClass_of_methodNamed B.named
  have hlocks := B.notSynchronized
  subst hsz
  have hi_RX6 : ∀ w ∈ wsX60, w ∈ wsX6_inkOfAll := fun _ h => List.mem_cons_of_mem _ (List.mem_append_right _ h)
  have hD := hD0.self (sz := s.heap.size)
  obtain ⟨A, hAe⟩ := nm_ex (va_A (oMM C e0 e1 e2 e3 e4 e5 e6 e7 e8 e9 e10 e11 e12 e13 e14 e15 m_s m_held m_aside m_before m_isHeld m_tape m_taped m_token m_from m_to m_value m_isWrong m_due m_firsts m_rows m_rowN m_sortOf m_sizeOf m_numbers m_holdsWhat m_holdsWhich m_holdsMany m_bodies m_ran m_actKind m_actN m_actA m_isParted []) s.heap.size)
  rw [← hAe] at hD hE ⊢
  have hA : ∀ q : Nat, s.heap.size ≤ q → A q := fun q h => by rw [hAe]; exact Or.inr h
  have hS : va_S A s.heap s.heap [] := va_S.rf
  have hl := lv_entry ([.ref e0]) (n := 3) (Nat.le_of_ble_eq_true rfl)
  rw [lg_entry_eq]
  generalize (lg_sl ([.ref e0]) ++ List.replicate (3 - (lg_sl ([.ref e0])).length) Slot.unset).toArray = ls at hl ⊢
  have hl : lv_has ls 3 [(0, .ref e0)] := hl
  obtain ⟨Q, hQ⟩ := nm_ex (MQ below (QI D C (oMM C e0 e1 e2 e3 e4 e5 e6 e7 e8 e9 e10 e11 e12 e13 e14 e15 m_s m_held m_aside m_before m_isHeld m_tape m_taped m_token m_from m_to m_value m_isWrong m_due m_firsts m_rows m_rowN m_sortOf m_sizeOf m_numbers m_holdsWhat m_holdsWhich m_holdsMany m_bodies m_ran m_actKind m_actN m_actA m_isParted []) (oMM C e0 e1 e2 e3 e4 e5 e6 e7 e8 e9 e10 e11 e12 e13 e14 e15 m_s m_held m_aside m_before m_isHeld m_tape m_taped m_token m_from m_to m_value m_isWrong m_due m_firsts m_rows m_rowN m_sortOf m_sizeOf m_numbers m_holdsWhat m_holdsWhich m_holdsMany m_bodies m_ran m_actKind m_actN m_actA m_isParted []) s.heap.size r) (List.toArray [Value.ref e0]) s 0 0 A)
  show W p l e (headSpec wsX6_inkOfAll (rmX6_inkOfAll)).room s m (List.toArray [Value.ref e0]) below meth c s.heap [] 0 0 (MQ below (QI D C (oMM C e0 e1 e2 e3 e4 e5 e6 e7 e8 e9 e10 e11 e12 e13 e14 e15 m_s m_held m_aside m_before m_isHeld m_tape m_taped m_token m_from m_to m_value m_isWrong m_due m_firsts m_rows m_rowN m_sortOf m_sizeOf m_numbers m_holdsWhat m_holdsWhich m_holdsMany m_bodies m_ran m_actKind m_actN m_actA m_isParted []) (oMM C e0 e1 e2 e3 e4 e5 e6 e7 e8 e9 e10 e11 e12 e13 e14 e15 m_s m_held m_aside m_before m_isHeld m_tape m_taped m_token m_from m_to m_value m_isWrong m_due m_firsts m_rows m_rowN m_sortOf m_sizeOf m_numbers m_holdsWhat m_holdsWhich m_holdsMany m_bodies m_ran m_actKind m_actN m_actA m_isParted []) s.heap.size r) (List.toArray [Value.ref e0]) s 0 0 A) _
  rw [← hQ]
  unfold f_X6_inkOfAll at hf
  have main : ∀ (H : Heap) (locs : List Loc), va_P D vwCl (oMM C e0 e1 e2 e3 e4 e5 e6 e7 e8 e9 e10 e11 e12 e13 e14 e15 m_s m_held m_aside m_before m_isHeld m_tape m_taped m_token m_from m_to m_value m_isWrong m_due m_firsts m_rows m_rowN m_sortOf m_sizeOf m_numbers m_holdsWhat m_holdsWhich m_holdsMany m_bodies m_ran m_actKind m_actN m_actA m_isParted []) H → va_D A (oMM C e0 e1 e2 e3 e4 e5 e6 e7 e8 e9 e10 e11 e12 e13 e14 e15 m_s m_held m_aside m_before m_isHeld m_tape m_taped m_token m_from m_to m_value m_isWrong m_due m_firsts m_rows m_rowN m_sortOf m_sizeOf m_numbers m_holdsWhat m_holdsWhich m_holdsMany m_bodies m_ran m_actKind m_actN m_actA m_isParted []) → va_S A s.heap H locs → W p l e (headSpec wsX6_inkOfAll (rmX6_inkOfAll)).room s m (List.toArray [Value.ref e0]) below meth c H locs 0 0 Q (F0 m 0 ls []) := by
    intro H locs hP hD hS
    refine lv_iconst (v := 0) hx hb dX6_inkOfAll_0 rfl ?_
    refine lv_istore_n (lv' := [(1, .int 0), (0, .ref e0)]) hx hb dX6_inkOfAll_1 rfl hl (by decide) rfl (fun ls hl => ?_)
    refine lv_iconst (v := 0) hx hb dX6_inkOfAll_2 rfl ?_
    refine lv_istore_n (lv' := [(2, .int 0), (1, .int 0), (0, .ref e0)]) hx hb dX6_inkOfAll_3 rfl hl (by decide) rfl (fun ls hl => ?_)
    have hL4 : ∀ (n : Nat) (i1 : Int32) (i2 : Int32) (H : Heap) (locs : List Loc) (ls : Array Slot), va_P D vwCl (oMM C e0 e1 e2 e3 e4 e5 e6 e7 e8 e9 e10 e11 e12 e13 e14 e15 m_s m_held m_aside m_before m_isHeld m_tape m_taped m_token m_from m_to m_value m_isWrong m_due m_firsts m_rows m_rowN m_sortOf m_sizeOf m_numbers m_holdsWhat m_holdsWhich m_holdsMany m_bodies m_ran m_actKind m_actN m_actA m_isParted []) H → va_D A (oMM C e0 e1 e2 e3 e4 e5 e6 e7 e8 e9 e10 e11 e12 e13 e14 e15 m_s m_held m_aside m_before m_isHeld m_tape m_taped m_token m_from m_to m_value m_isWrong m_due m_firsts m_rows m_rowN m_sortOf m_sizeOf m_numbers m_holdsWhat m_holdsWhich m_holdsMany m_bodies m_ran m_actKind m_actN m_actA m_isParted []) → va_S A s.heap H locs → lv_has ls 3 [(2, .int i1), (1, .int i2), (0, .ref e0)] → f_X6_inkOfAll_L4 m_s n i1 i2 = some r → W p l e (headSpec wsX6_inkOfAll (rmX6_inkOfAll)).room s m (List.toArray [Value.ref e0]) below meth c H locs 0 0 Q (F0 m 4 ls []) := by
      intro n
      induction n with
      | zero =>
        intro i1 i2 H locs ls hP hD hS hl hf
        exact absurd hf (fun h => by cases h)
      | succ n ih =>
        intro i1 i2 H locs ls hP hD hS hl hf
        rw [f_X6_inkOfAll_L4] at hf
        refine lv_iload_n hx hb dX6_inkOfAll_4 rfl (lv_at hl 0 rfl) ?_
        refine lv_aload_n hx hb dX6_inkOfAll_5 rfl (lv_at hl 2 rfl) ?_
        refine va_get (D := D) (ci := 6) (v := .ref e1) (C := RX6) (T := TX6) (N := 28) hx hb hts hi_RX6 hown hK hP 0 rfl rfl 0 (by decide) (hts (.fieldLink RX6 7 "TravelMarksModel" "s" "[I") (List.mem_of_getElem? (i := 1) rfl)) (fun _ h9 => h9) rfl dX6_inkOfAll_6 ?_
        refine lv_iconst (v := 0) hx hb dX6_inkOfAll_9 rfl ?_
        refine va_iald hx hb hK hP 1 0 rfl rfl (i := 0) (vin (by decide)) dX6_inkOfAll_10 ?_
        refine lv_ren (show (m_s 0) = m_s (Int32.toNatClampNeg 0) from rfl) ?_
        refine lv_icmp_ge (tgt := 29) hx hb dX6_inkOfAll_11 (by decide) (fun c3 => ?_) (fun c3 => ?_)
        · replace hf := if_te c3 hf
          refine lv_iload_n hx hb dX6_inkOfAll_29 rfl (lv_at hl 1 rfl) ?_
          cases hf
          exact kri hQ hAe hx hb hr hlocks hP hD hK hS dX6_inkOfAll_30
        · replace hf := if_fe c3 hf
          refine lv_iload_n hx hb dX6_inkOfAll_14 rfl (lv_at hl 1 rfl) ?_
          refine lv_aload_n hx hb dX6_inkOfAll_15 rfl (lv_at hl 2 rfl) ?_
          refine lv_iload_n hx hb dX6_inkOfAll_16 rfl (lv_at hl 0 rfl) ?_
          refine lv_iconst (v := 1) hx hb dX6_inkOfAll_17 rfl ?_
          obtain ⟨r4, h5, hf⟩ := ob1_e hf
          refine kmi (w1 := (oMM C e0 e1 e2 e3 e4 e5 e6 e7 e8 e9 e10 e11 e12 e13 e14 e15 m_s m_held m_aside m_before m_isHeld m_tape m_taped m_token m_from m_to m_value m_isWrong m_due m_firsts m_rows m_rowN m_sortOf m_sizeOf m_numbers m_holdsWhat m_holdsWhich m_holdsMany m_bodies m_ran m_actKind m_actN m_actA m_isParted [])) (va_runV (As := [.int i1, .int 1]) (rest := [.int i2]) ⟨hx, hb, hml, hown, hts⟩ (c_X6_its l E D C e0 e1 e2 e3 e4 e5 e6 e7 e8 e9 e10 e11 e12 e13 e14 e15 H.size m_s m_held m_aside m_before m_isHeld m_tape m_taped m_token m_from m_to m_value m_isWrong m_due m_firsts m_rows m_rowN m_sortOf m_sizeOf m_numbers m_holdsWhat m_holdsWhich m_holdsMany m_bodies m_ran m_actKind m_actN m_actA m_isParted i1 1 r4 h5) (cwV 2 hts gX6_inkOfAll_X6_its rfl rfl rfl hdX6_its ⟨Nat.le_of_ble_eq_true rfl, Nat.le_of_ble_eq_true rfl⟩) (kpreM hP hD hK hS hE hA 0 rfl rfl rfl) rfl rfl hl.1 rfl (lv_room (Nat.le_of_ble_eq_true rfl)) dX6_inkOfAll_18 ⟨Nat.zero_le _, Nat.zero_le _⟩) hP hD hS hA rfl (fun H locs hP hD hS => ?_)
          refine lv_iadd hx hb dX6_inkOfAll_21 ?_
          obtain ⟨t6, et6, hf⟩ := lj_e hf
          refine lv_ren et6 ?_
          refine lv_istore_n (lv' := [(1, .int t6), (2, .int i1), (0, .ref e0)]) hx hb dX6_inkOfAll_22 rfl hl (by decide) rfl (fun ls hl => ?_)
          obtain ⟨t7, et7, hf⟩ := lj_e hf
          refine lv_iinc (v := t7) (lv' := [(2, .int t7), (1, .int t6), (0, .ref e0)]) hx hb dX6_inkOfAll_23 hl (k := 1) rfl (by rw [et7]; rfl) (by decide) rfl (fun ls hl => ?_)
          refine lv_goto (tgt := 4) hx hb dX6_inkOfAll_26 (by decide) ?_
          exact ih t7 t6 H locs ls hP hD hS (lv_sub hl [0, 1, 2] rfl) hf
    exact hL4 N 0 0 H locs ls hP hD hS (lv_sub hl [0, 1, 2] rfl) hf
  exact main _ _ hP hD hS

def rmX6_circles : Room := { frames := 1, cells := 0, slots := 0, locals := 25 }
theorem hdX6_circles : yX6_circles.cls = RX6 ∧ yX6_circles.cls ≠ "java/lang/invoke/MethodHandle" ∧ yX6_circles.cls ≠ "java/lang/invoke/VarHandle" ∧ (parseMethodDescriptor yX6_circles.desc).map (fun d => d.parameters.length) = some 0 := by decide +kernel
set_option maxHeartbeats 40000000 in
set_option maxRecDepth 100000 in
theorem c_X6_circles (l : Launch) (E : Nat → Nat) (D : va_G) (C : Nat → ClassId) (e0 e1 e2 e3 e4 e5 e6 e7 e8 e9 e10 e11 e12 e13 e14 e15 : Nat) (sz : Nat) (N : Nat) (m_s : Nat → Int32) (m_held : Nat → Int32) (m_aside : Nat → Int32) (m_before : Nat → Int32) (m_isHeld : Int32) (m_tape : Nat → Int32) (m_taped : Int32) (m_token : Int32) (m_from : Int32) (m_to : Int32) (m_value : Int32) (m_isWrong : Int32) (m_due : Nat → Int32) (m_firsts : Nat → Int32) (m_rows : Nat → Int32) (m_rowN : Int32) (m_sortOf : Nat → Int32) (m_sizeOf : Nat → Int32) (m_numbers : Nat → Int32) (m_holdsWhat : Nat → Int32) (m_holdsWhich : Nat → Int32) (m_holdsMany : Nat → Int32) (m_bodies : Nat → Int32) (m_ran : Int32) (m_actKind : Int32) (m_actN : Int32) (m_actA : Int32) (m_isParted : Int32)  (r : Int32) (hf : f_X6_circles N m_s = some r) : Met l yX6_circles wsX6_circles rmX6_circles (PC E D C [.ref e0] (oMM C e0 e1 e2 e3 e4 e5 e6 e7 e8 e9 e10 e11 e12 e13 e14 e15 m_s m_held m_aside m_before m_isHeld m_tape m_taped m_token m_from m_to m_value m_isWrong m_due m_firsts m_rows m_rowN m_sortOf m_sizeOf m_numbers m_holdsWhat m_holdsWhich m_holdsMany m_bodies m_ran m_actKind m_actN m_actA m_isParted []) sz) (QI D C (oMM C e0 e1 e2 e3 e4 e5 e6 e7 e8 e9 e10 e11 e12 e13 e14 e15 m_s m_held m_aside m_before m_isHeld m_tape m_taped m_token m_from m_to m_value m_isWrong m_due m_firsts m_rows m_rowN m_sortOf m_sizeOf m_numbers m_holdsWhat m_holdsWhich m_holdsMany m_bodies m_ran m_actKind m_actN m_actA m_isParted []) (oMM C e0 e1 e2 e3 e4 e5 e6 e7 e8 e9 e10 e11 e12 e13 e14 e15 m_s m_held m_aside m_before m_isHeld m_tape m_taped m_token m_from m_to m_value m_isWrong m_due m_firsts m_rows m_rowN m_sortOf m_sizeOf m_numbers m_holdsWhat m_holdsWhich m_holdsMany m_bodies m_ran m_actKind m_actN m_actA m_isParted []) sz r) 0 0 (va_A (oMM C e0 e1 e2 e3 e4 e5 e6 e7 e8 e9 e10 e11 e12 e13 e14 e15 m_s m_held m_aside m_before m_isHeld m_tape m_taped m_token m_from m_to m_value m_isWrong m_due m_firsts m_rows m_rowN m_sortOf m_sizeOf m_numbers m_holdsWhat m_holdsWhich m_holdsMany m_bodies m_ran m_actKind m_actN m_actA m_isParted []) sz) := by
  refine Met.ofW (cc := cX6_circles) (maxL := 3) (ret := (some .int)) (by decide) rfl ?_
  intro p e s m args below meth c s₁ B hml hv
  obtain ⟨rfl, hsz, hP, hK, hD0, hE⟩ := hv
  have hx := B.exec
  have hb := B.bytes
  have hr := B.returns
  have hts := atoms_spec (ws := wsX6_circles) B.pre
  have hown : s.vm.findClass RX6 = some m.cls := findClass_of_methodNamed B.named
  have hlocks := B.notSynchronized
  subst hsz
  have hD := hD0.self (sz := s.heap.size)
  obtain ⟨A, hAe⟩ := nm_ex (va_A (oMM C e0 e1 e2 e3 e4 e5 e6 e7 e8 e9 e10 e11 e12 e13 e14 e15 m_s m_held m_aside m_before m_isHeld m_tape m_taped m_token m_from m_to m_value m_isWrong m_due m_firsts m_rows m_rowN m_sortOf m_sizeOf m_numbers m_holdsWhat m_holdsWhich m_holdsMany m_bodies m_ran m_actKind m_actN m_actA m_isParted []) s.heap.size)
  rw [← hAe] at hD hE ⊢
  have hA : ∀ q : Nat, s.heap.size ≤ q → A q := fun q h => by rw [hAe]; exact Or.inr h
  have hS : va_S A s.heap s.heap [] := va_S.rf
  have hl := lv_entry ([.ref e0]) (n := 3) (Nat.le_of_ble_eq_true rfl)
  rw [lg_entry_eq]
  generalize (lg_sl ([.ref e0]) ++ List.replicate (3 - (lg_sl ([.ref e0])).length) Slot.unset).toArray = ls at hl ⊢
  have hl : lv_has ls 3 [(0, .ref e0)] := hl
  obtain ⟨Q, hQ⟩ := nm_ex (MQ below (QI D C (oMM C e0 e1 e2 e3 e4 e5 e6 e7 e8 e9 e10 e11 e12 e13 e14 e15 m_s m_held m_aside m_before m_isHeld m_tape m_taped m_token m_from m_to m_value m_isWrong m_due m_firsts m_rows m_rowN m_sortOf m_sizeOf m_numbers m_holdsWhat m_holdsWhich m_holdsMany m_bodies m_ran m_actKind m_actN m_actA m_isParted []) (oMM C e0 e1 e2 e3 e4 e5 e6 e7 e8 e9 e10 e11 e12 e13 e14 e15 m_s m_held m_aside m_before m_isHeld m_tape m_taped m_token m_from m_to m_value m_isWrong m_due m_firsts m_rows m_rowN m_sortOf m_sizeOf m_numbers m_holdsWhat m_holdsWhich m_holdsMany m_bodies m_ran m_actKind m_actN m_actA m_isParted []) s.heap.size r) (List.toArray [Value.ref e0]) s 0 0 A)
  show W p l e (headSpec wsX6_circles (rmX6_circles)).room s m (List.toArray [Value.ref e0]) below meth c s.heap [] 0 0 (MQ below (QI D C (oMM C e0 e1 e2 e3 e4 e5 e6 e7 e8 e9 e10 e11 e12 e13 e14 e15 m_s m_held m_aside m_before m_isHeld m_tape m_taped m_token m_from m_to m_value m_isWrong m_due m_firsts m_rows m_rowN m_sortOf m_sizeOf m_numbers m_holdsWhat m_holdsWhich m_holdsMany m_bodies m_ran m_actKind m_actN m_actA m_isParted []) (oMM C e0 e1 e2 e3 e4 e5 e6 e7 e8 e9 e10 e11 e12 e13 e14 e15 m_s m_held m_aside m_before m_isHeld m_tape m_taped m_token m_from m_to m_value m_isWrong m_due m_firsts m_rows m_rowN m_sortOf m_sizeOf m_numbers m_holdsWhat m_holdsWhich m_holdsMany m_bodies m_ran m_actKind m_actN m_actA m_isParted []) s.heap.size r) (List.toArray [Value.ref e0]) s 0 0 A) _
  rw [← hQ]
  unfold f_X6_circles at hf
  have main : ∀ (H : Heap) (locs : List Loc), va_P D vwCl (oMM C e0 e1 e2 e3 e4 e5 e6 e7 e8 e9 e10 e11 e12 e13 e14 e15 m_s m_held m_aside m_before m_isHeld m_tape m_taped m_token m_from m_to m_value m_isWrong m_due m_firsts m_rows m_rowN m_sortOf m_sizeOf m_numbers m_holdsWhat m_holdsWhich m_holdsMany m_bodies m_ran m_actKind m_actN m_actA m_isParted []) H → va_D A (oMM C e0 e1 e2 e3 e4 e5 e6 e7 e8 e9 e10 e11 e12 e13 e14 e15 m_s m_held m_aside m_before m_isHeld m_tape m_taped m_token m_from m_to m_value m_isWrong m_due m_firsts m_rows m_rowN m_sortOf m_sizeOf m_numbers m_holdsWhat m_holdsWhich m_holdsMany m_bodies m_ran m_actKind m_actN m_actA m_isParted []) → va_S A s.heap H locs → W p l e (headSpec wsX6_circles (rmX6_circles)).room s m (List.toArray [Value.ref e0]) below meth c H locs 0 0 Q (F0 m 0 ls []) := by
    intro H locs hP hD hS
    refine lv_iconst (v := 0) hx hb dX6_circles_0 rfl ?_
    refine lv_istore_n (lv' := [(1, .int 0), (0, .ref e0)]) hx hb dX6_circles_1 rfl hl (by decide) rfl (fun ls hl => ?_)
    refine lv_iconst (v := 0) hx hb dX6_circles_2 rfl ?_
    refine lv_istore_n (lv' := [(2, .int 0), (1, .int 0), (0, .ref e0)]) hx hb dX6_circles_3 rfl hl (by decide) rfl (fun ls hl => ?_)
    have hL4 : ∀ (n : Nat) (i1 : Int32) (i2 : Int32) (H : Heap) (locs : List Loc) (ls : Array Slot), va_P D vwCl (oMM C e0 e1 e2 e3 e4 e5 e6 e7 e8 e9 e10 e11 e12 e13 e14 e15 m_s m_held m_aside m_before m_isHeld m_tape m_taped m_token m_from m_to m_value m_isWrong m_due m_firsts m_rows m_rowN m_sortOf m_sizeOf m_numbers m_holdsWhat m_holdsWhich m_holdsMany m_bodies m_ran m_actKind m_actN m_actA m_isParted []) H → va_D A (oMM C e0 e1 e2 e3 e4 e5 e6 e7 e8 e9 e10 e11 e12 e13 e14 e15 m_s m_held m_aside m_before m_isHeld m_tape m_taped m_token m_from m_to m_value m_isWrong m_due m_firsts m_rows m_rowN m_sortOf m_sizeOf m_numbers m_holdsWhat m_holdsWhich m_holdsMany m_bodies m_ran m_actKind m_actN m_actA m_isParted []) → va_S A s.heap H locs → lv_has ls 3 [(2, .int i1), (1, .int i2), (0, .ref e0)] → f_X6_circles_L4 N m_s n i1 i2 = some r → W p l e (headSpec wsX6_circles (rmX6_circles)).room s m (List.toArray [Value.ref e0]) below meth c H locs 0 0 Q (F0 m 4 ls []) := by
      intro n
      induction n with
      | zero =>
        intro i1 i2 H locs ls hP hD hS hl hf
        exact absurd hf (fun h => by cases h)
      | succ n ih =>
        intro i1 i2 H locs ls hP hD hS hl hf
        rw [f_X6_circles_L4] at hf
        refine lv_iload_n hx hb dX6_circles_4 rfl (lv_at hl 0 rfl) ?_
        refine lv_bipush (v := 8) hx hb dX6_circles_5 rfl ?_
        refine lv_icmp_ge (tgt := 38) hx hb dX6_circles_7 (by decide) (fun c3 => ?_) (fun c3 => ?_)
        · replace hf := if_te c3 hf
          refine lv_iload_n hx hb dX6_circles_38 rfl (lv_at hl 1 rfl) ?_
          cases hf
          exact kri hQ hAe hx hb hr hlocks hP hD hK hS dX6_circles_39
        · replace hf := if_fe c3 hf
          refine lv_iload_n hx hb dX6_circles_10 rfl (lv_at hl 1 rfl) ?_
          refine lv_aload_n hx hb dX6_circles_11 rfl (lv_at hl 2 rfl) ?_
          refine lv_iload_n hx hb dX6_circles_12 rfl (lv_at hl 0 rfl) ?_
          obtain ⟨r4, h5, hf⟩ := ob1_e hf
          refine kmi (w1 := (oMM C e0 e1 e2 e3 e4 e5 e6 e7 e8 e9 e10 e11 e12 e13 e14 e15 m_s m_held m_aside m_before m_isHeld m_tape m_taped m_token m_from m_to m_value m_isWrong m_due m_firsts m_rows m_rowN m_sortOf m_sizeOf m_numbers m_holdsWhat m_holdsWhich m_holdsMany m_bodies m_ran m_actKind m_actN m_actA m_isParted [])) (va_runV (As := [.int i1]) (rest := [.int i2]) ⟨hx, hb, hml, hown, hts⟩ (c_X6_circleOf l E D C e0 e1 e2 e3 e4 e5 e6 e7 e8 e9 e10 e11 e12 e13 e14 e15 H.size N m_s m_held m_aside m_before m_isHeld m_tape m_taped m_token m_from m_to m_value m_isWrong m_due m_firsts m_rows m_rowN m_sortOf m_sizeOf m_numbers m_holdsWhat m_holdsWhich m_holdsMany m_bodies m_ran m_actKind m_actN m_actA m_isParted i1 r4 h5) (cwV 1 hts gX6_circles_X6_circleOf rfl rfl rfl hdX6_circleOf ⟨Nat.le_of_ble_eq_true rfl, Nat.le_of_ble_eq_true rfl⟩) (kpreM hP hD hK hS hE hA 0 rfl rfl rfl) rfl rfl hl.1 rfl (lv_room (Nat.le_of_ble_eq_true rfl)) dX6_circles_13 ⟨Nat.zero_le _, Nat.zero_le _⟩) hP hD hS hA rfl (fun H locs hP hD hS => ?_)
          refine lv_iconst (v := 1) hx hb dX6_circles_16 rfl ?_
          refine lv_iload_n hx hb dX6_circles_17 rfl (lv_at hl 0 rfl) ?_
          refine lv_ishl hx hb dX6_circles_18 ?_
          refine lv_iconst (v := 1) hx hb dX6_circles_19 rfl ?_
          refine lv_isub hx hb dX6_circles_20 ?_
          refine lv_iand hx hb dX6_circles_21 ?_
          obtain ⟨j7, hj7, hf⟩ := lj_e hf
          have Hj7 : ∀ (k6 : Int32) (H : Heap) (locs : List Loc) (ls : Array Slot), va_P D vwCl (oMM C e0 e1 e2 e3 e4 e5 e6 e7 e8 e9 e10 e11 e12 e13 e14 e15 m_s m_held m_aside m_before m_isHeld m_tape m_taped m_token m_from m_to m_value m_isWrong m_due m_firsts m_rows m_rowN m_sortOf m_sizeOf m_numbers m_holdsWhat m_holdsWhich m_holdsMany m_bodies m_ran m_actKind m_actN m_actA m_isParted []) H → va_D A (oMM C e0 e1 e2 e3 e4 e5 e6 e7 e8 e9 e10 e11 e12 e13 e14 e15 m_s m_held m_aside m_before m_isHeld m_tape m_taped m_token m_from m_to m_value m_isWrong m_due m_firsts m_rows m_rowN m_sortOf m_sizeOf m_numbers m_holdsWhat m_holdsWhich m_holdsMany m_bodies m_ran m_actKind m_actN m_actA m_isParted []) → va_S A s.heap H locs → lv_has ls 3 [(2, .int i1), (0, .ref e0)] → j7 k6 = some r → W p l e (headSpec wsX6_circles (rmX6_circles)).room s m (List.toArray [Value.ref e0]) below meth c H locs 0 0 Q (F0 m 30 ls [.int k6, .int i2]) := by
            intro k6 H locs ls hP hD hS hl hf
            rw [hj7] at hf
            refine lv_iadd hx hb dX6_circles_30 ?_
            obtain ⟨t8, et8, hf⟩ := lj_e hf
            refine lv_ren et8 ?_
            refine lv_istore_n (lv' := [(1, .int t8), (2, .int i1), (0, .ref e0)]) hx hb dX6_circles_31 rfl hl (by decide) rfl (fun ls hl => ?_)
            obtain ⟨t9, et9, hf⟩ := lj_e hf
            refine lv_iinc (v := t9) (lv' := [(2, .int t9), (1, .int t8), (0, .ref e0)]) hx hb dX6_circles_32 hl (k := 1) rfl (by rw [et9]; rfl) (by decide) rfl (fun ls hl => ?_)
            refine lv_goto (tgt := 4) hx hb dX6_circles_35 (by decide) ?_
            exact ih t9 t8 H locs ls hP hD hS (lv_sub hl [0, 1, 2] rfl) hf
          refine lv_if_ne (tgt := 29) hx hb dX6_circles_22 (by decide) (fun c10 => ?_) (fun c10 => ?_)
          · replace hf := if_fe c10 hf
            refine lv_iconst (v := 0) hx hb dX6_circles_29 rfl ?_
            exact Hj7 0 H locs ls hP hD hS (lv_sub hl [0, 2] rfl) hf
          · replace hf := if_te c10 hf
            refine lv_iconst (v := 1) hx hb dX6_circles_25 rfl ?_
            refine lv_goto (tgt := 30) hx hb dX6_circles_26 (by decide) ?_
            exact Hj7 1 H locs ls hP hD hS (lv_sub hl [0, 2] rfl) hf
    exact hL4 N 0 0 H locs ls hP hD hS (lv_sub hl [0, 1, 2] rfl) hf
  exact main _ _ hP hD hS

def rmX6_dryOnes : Room := { frames := 1, cells := 0, slots := 0, locals := 22 }
theorem hdX6_dryOnes : yX6_dryOnes.cls = RX6 ∧ yX6_dryOnes.cls ≠ "java/lang/invoke/MethodHandle" ∧ yX6_dryOnes.cls ≠ "java/lang/invoke/VarHandle" ∧ (parseMethodDescriptor yX6_dryOnes.desc).map (fun d => d.parameters.length) = some 0 := by decide +kernel
set_option maxHeartbeats 40000000 in
set_option maxRecDepth 100000 in
theorem c_X6_dryOnes (l : Launch) (E : Nat → Nat) (D : va_G) (C : Nat → ClassId) (e0 e1 e2 e3 e4 e5 e6 e7 e8 e9 e10 e11 e12 e13 e14 e15 : Nat) (sz : Nat) (N : Nat) (m_s : Nat → Int32) (m_held : Nat → Int32) (m_aside : Nat → Int32) (m_before : Nat → Int32) (m_isHeld : Int32) (m_tape : Nat → Int32) (m_taped : Int32) (m_token : Int32) (m_from : Int32) (m_to : Int32) (m_value : Int32) (m_isWrong : Int32) (m_due : Nat → Int32) (m_firsts : Nat → Int32) (m_rows : Nat → Int32) (m_rowN : Int32) (m_sortOf : Nat → Int32) (m_sizeOf : Nat → Int32) (m_numbers : Nat → Int32) (m_holdsWhat : Nat → Int32) (m_holdsWhich : Nat → Int32) (m_holdsMany : Nat → Int32) (m_bodies : Nat → Int32) (m_ran : Int32) (m_actKind : Int32) (m_actN : Int32) (m_actA : Int32) (m_isParted : Int32)  (r : Int32) (hf : f_X6_dryOnes N m_s = some r) : Met l yX6_dryOnes wsX6_dryOnes rmX6_dryOnes (PC E D C [.ref e0] (oMM C e0 e1 e2 e3 e4 e5 e6 e7 e8 e9 e10 e11 e12 e13 e14 e15 m_s m_held m_aside m_before m_isHeld m_tape m_taped m_token m_from m_to m_value m_isWrong m_due m_firsts m_rows m_rowN m_sortOf m_sizeOf m_numbers m_holdsWhat m_holdsWhich m_holdsMany m_bodies m_ran m_actKind m_actN m_actA m_isParted []) sz) (QI D C (oMM C e0 e1 e2 e3 e4 e5 e6 e7 e8 e9 e10 e11 e12 e13 e14 e15 m_s m_held m_aside m_before m_isHeld m_tape m_taped m_token m_from m_to m_value m_isWrong m_due m_firsts m_rows m_rowN m_sortOf m_sizeOf m_numbers m_holdsWhat m_holdsWhich m_holdsMany m_bodies m_ran m_actKind m_actN m_actA m_isParted []) (oMM C e0 e1 e2 e3 e4 e5 e6 e7 e8 e9 e10 e11 e12 e13 e14 e15 m_s m_held m_aside m_before m_isHeld m_tape m_taped m_token m_from m_to m_value m_isWrong m_due m_firsts m_rows m_rowN m_sortOf m_sizeOf m_numbers m_holdsWhat m_holdsWhich m_holdsMany m_bodies m_ran m_actKind m_actN m_actA m_isParted []) sz r) 0 0 (va_A (oMM C e0 e1 e2 e3 e4 e5 e6 e7 e8 e9 e10 e11 e12 e13 e14 e15 m_s m_held m_aside m_before m_isHeld m_tape m_taped m_token m_from m_to m_value m_isWrong m_due m_firsts m_rows m_rowN m_sortOf m_sizeOf m_numbers m_holdsWhat m_holdsWhich m_holdsMany m_bodies m_ran m_actKind m_actN m_actA m_isParted []) sz) := by
  refine Met.ofW (cc := cX6_dryOnes) (maxL := 3) (ret := (some .int)) (by decide) rfl ?_
  intro p e s m args below meth c s₁ B hml hv
  obtain ⟨rfl, hsz, hP, hK, hD0, hE⟩ := hv
  have hx := B.exec
  have hb := B.bytes
  have hr := B.returns
  have hts := atoms_spec (ws := wsX6_dryOnes) B.pre
  have hown : s.vm.findClass RX6 = some m.cls := findClass_of_methodNamed B.named
  have hlocks := B.notSynchronized
  subst hsz
  have hi_RX6 : ∀ w ∈ wsX60, w ∈ wsX6_dryOnes := fun _ h => List.mem_cons_of_mem _ (List.mem_append_right _ h)
  have hD := hD0.self (sz := s.heap.size)
  obtain ⟨A, hAe⟩ := nm_ex (va_A (oMM C e0 e1 e2 e3 e4 e5 e6 e7 e8 e9 e10 e11 e12 e13 e14 e15 m_s m_held m_aside m_before m_isHeld m_tape m_taped m_token m_from m_to m_value m_isWrong m_due m_firsts m_rows m_rowN m_sortOf m_sizeOf m_numbers m_holdsWhat m_holdsWhich m_holdsMany m_bodies m_ran m_actKind m_actN m_actA m_isParted []) s.heap.size)
  rw [← hAe] at hD hE ⊢
  have hA : ∀ q : Nat, s.heap.size ≤ q → A q := fun q h => by rw [hAe]; exact Or.inr h
  have hS : va_S A s.heap s.heap [] := va_S.rf
  have hl := lv_entry ([.ref e0]) (n := 3) (Nat.le_of_ble_eq_true rfl)
  rw [lg_entry_eq]
  generalize (lg_sl ([.ref e0]) ++ List.replicate (3 - (lg_sl ([.ref e0])).length) Slot.unset).toArray = ls at hl ⊢
  have hl : lv_has ls 3 [(0, .ref e0)] := hl
  obtain ⟨Q, hQ⟩ := nm_ex (MQ below (QI D C (oMM C e0 e1 e2 e3 e4 e5 e6 e7 e8 e9 e10 e11 e12 e13 e14 e15 m_s m_held m_aside m_before m_isHeld m_tape m_taped m_token m_from m_to m_value m_isWrong m_due m_firsts m_rows m_rowN m_sortOf m_sizeOf m_numbers m_holdsWhat m_holdsWhich m_holdsMany m_bodies m_ran m_actKind m_actN m_actA m_isParted []) (oMM C e0 e1 e2 e3 e4 e5 e6 e7 e8 e9 e10 e11 e12 e13 e14 e15 m_s m_held m_aside m_before m_isHeld m_tape m_taped m_token m_from m_to m_value m_isWrong m_due m_firsts m_rows m_rowN m_sortOf m_sizeOf m_numbers m_holdsWhat m_holdsWhich m_holdsMany m_bodies m_ran m_actKind m_actN m_actA m_isParted []) s.heap.size r) (List.toArray [Value.ref e0]) s 0 0 A)
  show W p l e (headSpec wsX6_dryOnes (rmX6_dryOnes)).room s m (List.toArray [Value.ref e0]) below meth c s.heap [] 0 0 (MQ below (QI D C (oMM C e0 e1 e2 e3 e4 e5 e6 e7 e8 e9 e10 e11 e12 e13 e14 e15 m_s m_held m_aside m_before m_isHeld m_tape m_taped m_token m_from m_to m_value m_isWrong m_due m_firsts m_rows m_rowN m_sortOf m_sizeOf m_numbers m_holdsWhat m_holdsWhich m_holdsMany m_bodies m_ran m_actKind m_actN m_actA m_isParted []) (oMM C e0 e1 e2 e3 e4 e5 e6 e7 e8 e9 e10 e11 e12 e13 e14 e15 m_s m_held m_aside m_before m_isHeld m_tape m_taped m_token m_from m_to m_value m_isWrong m_due m_firsts m_rows m_rowN m_sortOf m_sizeOf m_numbers m_holdsWhat m_holdsWhich m_holdsMany m_bodies m_ran m_actKind m_actN m_actA m_isParted []) s.heap.size r) (List.toArray [Value.ref e0]) s 0 0 A) _
  rw [← hQ]
  unfold f_X6_dryOnes at hf
  have main : ∀ (H : Heap) (locs : List Loc), va_P D vwCl (oMM C e0 e1 e2 e3 e4 e5 e6 e7 e8 e9 e10 e11 e12 e13 e14 e15 m_s m_held m_aside m_before m_isHeld m_tape m_taped m_token m_from m_to m_value m_isWrong m_due m_firsts m_rows m_rowN m_sortOf m_sizeOf m_numbers m_holdsWhat m_holdsWhich m_holdsMany m_bodies m_ran m_actKind m_actN m_actA m_isParted []) H → va_D A (oMM C e0 e1 e2 e3 e4 e5 e6 e7 e8 e9 e10 e11 e12 e13 e14 e15 m_s m_held m_aside m_before m_isHeld m_tape m_taped m_token m_from m_to m_value m_isWrong m_due m_firsts m_rows m_rowN m_sortOf m_sizeOf m_numbers m_holdsWhat m_holdsWhich m_holdsMany m_bodies m_ran m_actKind m_actN m_actA m_isParted []) → va_S A s.heap H locs → W p l e (headSpec wsX6_dryOnes (rmX6_dryOnes)).room s m (List.toArray [Value.ref e0]) below meth c H locs 0 0 Q (F0 m 0 ls []) := by
    intro H locs hP hD hS
    refine lv_iconst (v := 0) hx hb dX6_dryOnes_0 rfl ?_
    refine lv_istore_n (lv' := [(1, .int 0), (0, .ref e0)]) hx hb dX6_dryOnes_1 rfl hl (by decide) rfl (fun ls hl => ?_)
    refine lv_iconst (v := 0) hx hb dX6_dryOnes_2 rfl ?_
    refine lv_istore_n (lv' := [(2, .int 0), (1, .int 0), (0, .ref e0)]) hx hb dX6_dryOnes_3 rfl hl (by decide) rfl (fun ls hl => ?_)
    have hL4 : ∀ (n : Nat) (i1 : Int32) (i2 : Int32) (H : Heap) (locs : List Loc) (ls : Array Slot), va_P D vwCl (oMM C e0 e1 e2 e3 e4 e5 e6 e7 e8 e9 e10 e11 e12 e13 e14 e15 m_s m_held m_aside m_before m_isHeld m_tape m_taped m_token m_from m_to m_value m_isWrong m_due m_firsts m_rows m_rowN m_sortOf m_sizeOf m_numbers m_holdsWhat m_holdsWhich m_holdsMany m_bodies m_ran m_actKind m_actN m_actA m_isParted []) H → va_D A (oMM C e0 e1 e2 e3 e4 e5 e6 e7 e8 e9 e10 e11 e12 e13 e14 e15 m_s m_held m_aside m_before m_isHeld m_tape m_taped m_token m_from m_to m_value m_isWrong m_due m_firsts m_rows m_rowN m_sortOf m_sizeOf m_numbers m_holdsWhat m_holdsWhich m_holdsMany m_bodies m_ran m_actKind m_actN m_actA m_isParted []) → va_S A s.heap H locs → lv_has ls 3 [(2, .int i1), (1, .int i2), (0, .ref e0)] → f_X6_dryOnes_L4 m_s n i1 i2 = some r → W p l e (headSpec wsX6_dryOnes (rmX6_dryOnes)).room s m (List.toArray [Value.ref e0]) below meth c H locs 0 0 Q (F0 m 4 ls []) := by
      intro n
      induction n with
      | zero =>
        intro i1 i2 H locs ls hP hD hS hl hf
        exact absurd hf (fun h => by cases h)
      | succ n ih =>
        intro i1 i2 H locs ls hP hD hS hl hf
        rw [f_X6_dryOnes_L4] at hf
        refine lv_iload_n hx hb dX6_dryOnes_4 rfl (lv_at hl 0 rfl) ?_
        refine lv_aload_n hx hb dX6_dryOnes_5 rfl (lv_at hl 2 rfl) ?_
        refine va_get (D := D) (ci := 6) (v := .ref e1) (C := RX6) (T := TX6) (N := 28) hx hb hts hi_RX6 hown hK hP 0 rfl rfl 0 (by decide) (hts (.fieldLink RX6 7 "TravelMarksModel" "s" "[I") (List.mem_of_getElem? (i := 1) rfl)) (fun _ h9 => h9) rfl dX6_dryOnes_6 ?_
        refine lv_iconst (v := 0) hx hb dX6_dryOnes_9 rfl ?_
        refine va_iald hx hb hK hP 1 0 rfl rfl (i := 0) (vin (by decide)) dX6_dryOnes_10 ?_
        refine lv_ren (show (m_s 0) = m_s (Int32.toNatClampNeg 0) from rfl) ?_
        refine lv_icmp_ge (tgt := 39) hx hb dX6_dryOnes_11 (by decide) (fun c3 => ?_) (fun c3 => ?_)
        · replace hf := if_te c3 hf
          refine lv_iload_n hx hb dX6_dryOnes_39 rfl (lv_at hl 1 rfl) ?_
          cases hf
          exact kri hQ hAe hx hb hr hlocks hP hD hK hS dX6_dryOnes_40
        · replace hf := if_fe c3 hf
          refine lv_iload_n hx hb dX6_dryOnes_14 rfl (lv_at hl 1 rfl) ?_
          refine lv_aload_n hx hb dX6_dryOnes_15 rfl (lv_at hl 2 rfl) ?_
          refine lv_iload_n hx hb dX6_dryOnes_16 rfl (lv_at hl 0 rfl) ?_
          refine lv_iconst (v := 1) hx hb dX6_dryOnes_17 rfl ?_
          obtain ⟨r4, h5, hf⟩ := ob1_e hf
          refine kmi (w1 := (oMM C e0 e1 e2 e3 e4 e5 e6 e7 e8 e9 e10 e11 e12 e13 e14 e15 m_s m_held m_aside m_before m_isHeld m_tape m_taped m_token m_from m_to m_value m_isWrong m_due m_firsts m_rows m_rowN m_sortOf m_sizeOf m_numbers m_holdsWhat m_holdsWhich m_holdsMany m_bodies m_ran m_actKind m_actN m_actA m_isParted [])) (va_runV (As := [.int i1, .int 1]) (rest := [.int i2]) ⟨hx, hb, hml, hown, hts⟩ (c_X6_its l E D C e0 e1 e2 e3 e4 e5 e6 e7 e8 e9 e10 e11 e12 e13 e14 e15 H.size m_s m_held m_aside m_before m_isHeld m_tape m_taped m_token m_from m_to m_value m_isWrong m_due m_firsts m_rows m_rowN m_sortOf m_sizeOf m_numbers m_holdsWhat m_holdsWhich m_holdsMany m_bodies m_ran m_actKind m_actN m_actA m_isParted i1 1 r4 h5) (cwV 2 hts gX6_dryOnes_X6_its rfl rfl rfl hdX6_its ⟨Nat.le_of_ble_eq_true rfl, Nat.le_of_ble_eq_true rfl⟩) (kpreM hP hD hK hS hE hA 0 rfl rfl rfl) rfl rfl hl.1 rfl (lv_room (Nat.le_of_ble_eq_true rfl)) dX6_dryOnes_18 ⟨Nat.zero_le _, Nat.zero_le _⟩) hP hD hS hA rfl (fun H locs hP hD hS => ?_)
          obtain ⟨j7, hj7, hf⟩ := lj_e hf
          have Hj7 : ∀ (k6 : Int32) (H : Heap) (locs : List Loc) (ls : Array Slot), va_P D vwCl (oMM C e0 e1 e2 e3 e4 e5 e6 e7 e8 e9 e10 e11 e12 e13 e14 e15 m_s m_held m_aside m_before m_isHeld m_tape m_taped m_token m_from m_to m_value m_isWrong m_due m_firsts m_rows m_rowN m_sortOf m_sizeOf m_numbers m_holdsWhat m_holdsWhich m_holdsMany m_bodies m_ran m_actKind m_actN m_actA m_isParted []) H → va_D A (oMM C e0 e1 e2 e3 e4 e5 e6 e7 e8 e9 e10 e11 e12 e13 e14 e15 m_s m_held m_aside m_before m_isHeld m_tape m_taped m_token m_from m_to m_value m_isWrong m_due m_firsts m_rows m_rowN m_sortOf m_sizeOf m_numbers m_holdsWhat m_holdsWhich m_holdsMany m_bodies m_ran m_actKind m_actN m_actA m_isParted []) → va_S A s.heap H locs → lv_has ls 3 [(2, .int i1), (0, .ref e0)] → j7 k6 = some r → W p l e (headSpec wsX6_dryOnes (rmX6_dryOnes)).room s m (List.toArray [Value.ref e0]) below meth c H locs 0 0 Q (F0 m 31 ls [.int k6, .int i2]) := by
            intro k6 H locs ls hP hD hS hl hf
            rw [hj7] at hf
            refine lv_ior hx hb dX6_dryOnes_31 ?_
            obtain ⟨t8, et8, hf⟩ := lj_e hf
            refine lv_ren et8 ?_
            refine lv_istore_n (lv' := [(1, .int t8), (2, .int i1), (0, .ref e0)]) hx hb dX6_dryOnes_32 rfl hl (by decide) rfl (fun ls hl => ?_)
            obtain ⟨t9, et9, hf⟩ := lj_e hf
            refine lv_iinc (v := t9) (lv' := [(2, .int t9), (1, .int t8), (0, .ref e0)]) hx hb dX6_dryOnes_33 hl (k := 1) rfl (by rw [et9]; rfl) (by decide) rfl (fun ls hl => ?_)
            refine lv_goto (tgt := 4) hx hb dX6_dryOnes_36 (by decide) ?_
            exact ih t9 t8 H locs ls hP hD hS (lv_sub hl [0, 1, 2] rfl) hf
          refine lv_if_ne (tgt := 30) hx hb dX6_dryOnes_21 (by decide) (fun c10 => ?_) (fun c10 => ?_)
          · replace hf := if_fe c10 hf
            refine lv_iconst (v := 0) hx hb dX6_dryOnes_30 rfl ?_
            exact Hj7 0 H locs ls hP hD hS (lv_sub hl [0, 2] rfl) hf
          · replace hf := if_te c10 hf
            refine lv_iconst (v := 1) hx hb dX6_dryOnes_24 rfl ?_
            refine lv_iload_n hx hb dX6_dryOnes_25 rfl (lv_at hl 0 rfl) ?_
            refine lv_ishl hx hb dX6_dryOnes_26 ?_
            refine lv_goto (tgt := 31) hx hb dX6_dryOnes_27 (by decide) ?_
            exact Hj7 (1 <<< (i1 &&& 31)) H locs ls hP hD hS (lv_sub hl [0, 2] rfl) hf
    exact hL4 N 0 0 H locs ls hP hD hS (lv_sub hl [0, 1, 2] rfl) hf
  exact main _ _ hP hD hS

def rmX6_mostOnOne : Room := { frames := 2, cells := 0, slots := 0, locals := 45 }
theorem hdX6_mostOnOne : yX6_mostOnOne.cls = RX6 ∧ yX6_mostOnOne.cls ≠ "java/lang/invoke/MethodHandle" ∧ yX6_mostOnOne.cls ≠ "java/lang/invoke/VarHandle" ∧ (parseMethodDescriptor yX6_mostOnOne.desc).map (fun d => d.parameters.length) = some 0 := by decide +kernel
set_option maxHeartbeats 40000000 in
set_option maxRecDepth 100000 in
theorem c_X6_mostOnOne (l : Launch) (E : Nat → Nat) (D : va_G) (C : Nat → ClassId) (e0 e1 e2 e3 e4 e5 e6 e7 e8 e9 e10 e11 e12 e13 e14 e15 : Nat) (sz : Nat) (N : Nat) (m_s : Nat → Int32) (m_held : Nat → Int32) (m_aside : Nat → Int32) (m_before : Nat → Int32) (m_isHeld : Int32) (m_tape : Nat → Int32) (m_taped : Int32) (m_token : Int32) (m_from : Int32) (m_to : Int32) (m_value : Int32) (m_isWrong : Int32) (m_due : Nat → Int32) (m_firsts : Nat → Int32) (m_rows : Nat → Int32) (m_rowN : Int32) (m_sortOf : Nat → Int32) (m_sizeOf : Nat → Int32) (m_numbers : Nat → Int32) (m_holdsWhat : Nat → Int32) (m_holdsWhich : Nat → Int32) (m_holdsMany : Nat → Int32) (m_bodies : Nat → Int32) (m_ran : Int32) (m_actKind : Int32) (m_actN : Int32) (m_actA : Int32) (m_isParted : Int32)  (r : Int32) (hf : f_X6_mostOnOne N m_s = some r) : Met l yX6_mostOnOne wsX6_mostOnOne rmX6_mostOnOne (PC E D C [.ref e0] (oMM C e0 e1 e2 e3 e4 e5 e6 e7 e8 e9 e10 e11 e12 e13 e14 e15 m_s m_held m_aside m_before m_isHeld m_tape m_taped m_token m_from m_to m_value m_isWrong m_due m_firsts m_rows m_rowN m_sortOf m_sizeOf m_numbers m_holdsWhat m_holdsWhich m_holdsMany m_bodies m_ran m_actKind m_actN m_actA m_isParted []) sz) (QI D C (oMM C e0 e1 e2 e3 e4 e5 e6 e7 e8 e9 e10 e11 e12 e13 e14 e15 m_s m_held m_aside m_before m_isHeld m_tape m_taped m_token m_from m_to m_value m_isWrong m_due m_firsts m_rows m_rowN m_sortOf m_sizeOf m_numbers m_holdsWhat m_holdsWhich m_holdsMany m_bodies m_ran m_actKind m_actN m_actA m_isParted []) (oMM C e0 e1 e2 e3 e4 e5 e6 e7 e8 e9 e10 e11 e12 e13 e14 e15 m_s m_held m_aside m_before m_isHeld m_tape m_taped m_token m_from m_to m_value m_isWrong m_due m_firsts m_rows m_rowN m_sortOf m_sizeOf m_numbers m_holdsWhat m_holdsWhich m_holdsMany m_bodies m_ran m_actKind m_actN m_actA m_isParted []) sz r) 0 0 (va_A (oMM C e0 e1 e2 e3 e4 e5 e6 e7 e8 e9 e10 e11 e12 e13 e14 e15 m_s m_held m_aside m_before m_isHeld m_tape m_taped m_token m_from m_to m_value m_isWrong m_due m_firsts m_rows m_rowN m_sortOf m_sizeOf m_numbers m_holdsWhat m_holdsWhich m_holdsMany m_bodies m_ran m_actKind m_actN m_actA m_isParted []) sz) := by
  refine Met.ofW (cc := cX6_mostOnOne) (maxL := 3) (ret := (some .int)) (by decide) rfl ?_
  intro p e s m args below meth c s₁ B hml hv
  obtain ⟨rfl, hsz, hP, hK, hD0, hE⟩ := hv
  have hx := B.exec
  have hb := B.bytes
  have hr := B.returns
  have hts := atoms_spec (ws := wsX6_mostOnOne) B.pre
  have hown : s.vm.findClass RX6 = some m.cls := findClass_of_methodNamed B.named
  have hlocks := B.notSynchronized
  subst hsz
  have hD := hD0.self (sz := s.heap.size)
  obtain ⟨A, hAe⟩ := nm_ex (va_A (oMM C e0 e1 e2 e3 e4 e5 e6 e7 e8 e9 e10 e11 e12 e13 e14 e15 m_s m_held m_aside m_before m_isHeld m_tape m_taped m_token m_from m_to m_value m_isWrong m_due m_firsts m_rows m_rowN m_sortOf m_sizeOf m_numbers m_holdsWhat m_holdsWhich m_holdsMany m_bodies m_ran m_actKind m_actN m_actA m_isParted []) s.heap.size)
  rw [← hAe] at hD hE ⊢
  have hA : ∀ q : Nat, s.heap.size ≤ q → A q := fun q h => by rw [hAe]; exact Or.inr h
  have hS : va_S A s.heap s.heap [] := va_S.rf
  have hl := lv_entry ([.ref e0]) (n := 3) (Nat.le_of_ble_eq_true rfl)
  rw [lg_entry_eq]
  generalize (lg_sl ([.ref e0]) ++ List.replicate (3 - (lg_sl ([.ref e0])).length) Slot.unset).toArray = ls at hl ⊢
  have hl : lv_has ls 3 [(0, .ref e0)] := hl
  obtain ⟨Q, hQ⟩ := nm_ex (MQ below (QI D C (oMM C e0 e1 e2 e3 e4 e5 e6 e7 e8 e9 e10 e11 e12 e13 e14 e15 m_s m_held m_aside m_before m_isHeld m_tape m_taped m_token m_from m_to m_value m_isWrong m_due m_firsts m_rows m_rowN m_sortOf m_sizeOf m_numbers m_holdsWhat m_holdsWhich m_holdsMany m_bodies m_ran m_actKind m_actN m_actA m_isParted []) (oMM C e0 e1 e2 e3 e4 e5 e6 e7 e8 e9 e10 e11 e12 e13 e14 e15 m_s m_held m_aside m_before m_isHeld m_tape m_taped m_token m_from m_to m_value m_isWrong m_due m_firsts m_rows m_rowN m_sortOf m_sizeOf m_numbers m_holdsWhat m_holdsWhich m_holdsMany m_bodies m_ran m_actKind m_actN m_actA m_isParted []) s.heap.size r) (List.toArray [Value.ref e0]) s 0 0 A)
  show W p l e (headSpec wsX6_mostOnOne (rmX6_mostOnOne)).room s m (List.toArray [Value.ref e0]) below meth c s.heap [] 0 0 (MQ below (QI D C (oMM C e0 e1 e2 e3 e4 e5 e6 e7 e8 e9 e10 e11 e12 e13 e14 e15 m_s m_held m_aside m_before m_isHeld m_tape m_taped m_token m_from m_to m_value m_isWrong m_due m_firsts m_rows m_rowN m_sortOf m_sizeOf m_numbers m_holdsWhat m_holdsWhich m_holdsMany m_bodies m_ran m_actKind m_actN m_actA m_isParted []) (oMM C e0 e1 e2 e3 e4 e5 e6 e7 e8 e9 e10 e11 e12 e13 e14 e15 m_s m_held m_aside m_before m_isHeld m_tape m_taped m_token m_from m_to m_value m_isWrong m_due m_firsts m_rows m_rowN m_sortOf m_sizeOf m_numbers m_holdsWhat m_holdsWhich m_holdsMany m_bodies m_ran m_actKind m_actN m_actA m_isParted []) s.heap.size r) (List.toArray [Value.ref e0]) s 0 0 A) _
  rw [← hQ]
  unfold f_X6_mostOnOne at hf
  have main : ∀ (H : Heap) (locs : List Loc), va_P D vwCl (oMM C e0 e1 e2 e3 e4 e5 e6 e7 e8 e9 e10 e11 e12 e13 e14 e15 m_s m_held m_aside m_before m_isHeld m_tape m_taped m_token m_from m_to m_value m_isWrong m_due m_firsts m_rows m_rowN m_sortOf m_sizeOf m_numbers m_holdsWhat m_holdsWhich m_holdsMany m_bodies m_ran m_actKind m_actN m_actA m_isParted []) H → va_D A (oMM C e0 e1 e2 e3 e4 e5 e6 e7 e8 e9 e10 e11 e12 e13 e14 e15 m_s m_held m_aside m_before m_isHeld m_tape m_taped m_token m_from m_to m_value m_isWrong m_due m_firsts m_rows m_rowN m_sortOf m_sizeOf m_numbers m_holdsWhat m_holdsWhich m_holdsMany m_bodies m_ran m_actKind m_actN m_actA m_isParted []) → va_S A s.heap H locs → W p l e (headSpec wsX6_mostOnOne (rmX6_mostOnOne)).room s m (List.toArray [Value.ref e0]) below meth c H locs 0 0 Q (F0 m 0 ls []) := by
    intro H locs hP hD hS
    refine lv_iconst (v := 0) hx hb dX6_mostOnOne_0 rfl ?_
    refine lv_istore_n (lv' := [(1, .int 0), (0, .ref e0)]) hx hb dX6_mostOnOne_1 rfl hl (by decide) rfl (fun ls hl => ?_)
    refine lv_iconst (v := 0) hx hb dX6_mostOnOne_2 rfl ?_
    refine lv_istore_n (lv' := [(2, .int 0), (1, .int 0), (0, .ref e0)]) hx hb dX6_mostOnOne_3 rfl hl (by decide) rfl (fun ls hl => ?_)
    have hL4 : ∀ (n : Nat) (i1 : Int32) (i2 : Int32) (H : Heap) (locs : List Loc) (ls : Array Slot), va_P D vwCl (oMM C e0 e1 e2 e3 e4 e5 e6 e7 e8 e9 e10 e11 e12 e13 e14 e15 m_s m_held m_aside m_before m_isHeld m_tape m_taped m_token m_from m_to m_value m_isWrong m_due m_firsts m_rows m_rowN m_sortOf m_sizeOf m_numbers m_holdsWhat m_holdsWhich m_holdsMany m_bodies m_ran m_actKind m_actN m_actA m_isParted []) H → va_D A (oMM C e0 e1 e2 e3 e4 e5 e6 e7 e8 e9 e10 e11 e12 e13 e14 e15 m_s m_held m_aside m_before m_isHeld m_tape m_taped m_token m_from m_to m_value m_isWrong m_due m_firsts m_rows m_rowN m_sortOf m_sizeOf m_numbers m_holdsWhat m_holdsWhich m_holdsMany m_bodies m_ran m_actKind m_actN m_actA m_isParted []) → va_S A s.heap H locs → lv_has ls 3 [(2, .int i1), (1, .int i2), (0, .ref e0)] → f_X6_mostOnOne_L4 N m_s n i1 i2 = some r → W p l e (headSpec wsX6_mostOnOne (rmX6_mostOnOne)).room s m (List.toArray [Value.ref e0]) below meth c H locs 0 0 Q (F0 m 4 ls []) := by
      intro n
      induction n with
      | zero =>
        intro i1 i2 H locs ls hP hD hS hl hf
        exact absurd hf (fun h => by cases h)
      | succ n ih =>
        intro i1 i2 H locs ls hP hD hS hl hf
        rw [f_X6_mostOnOne_L4] at hf
        refine lv_iload_n hx hb dX6_mostOnOne_4 rfl (lv_at hl 0 rfl) ?_
        refine lv_bipush (v := 8) hx hb dX6_mostOnOne_5 rfl ?_
        refine lv_icmp_ge (tgt := 29) hx hb dX6_mostOnOne_7 (by decide) (fun c3 => ?_) (fun c3 => ?_)
        · replace hf := if_te c3 hf
          refine lv_iload_n hx hb dX6_mostOnOne_29 rfl (lv_at hl 1 rfl) ?_
          cases hf
          exact kri hQ hAe hx hb hr hlocks hP hD hK hS dX6_mostOnOne_30
        · replace hf := if_fe c3 hf
          refine lv_iload_n hx hb dX6_mostOnOne_10 rfl (lv_at hl 1 rfl) ?_
          refine lv_aload_n hx hb dX6_mostOnOne_11 rfl (lv_at hl 2 rfl) ?_
          refine lv_iload_n hx hb dX6_mostOnOne_12 rfl (lv_at hl 0 rfl) ?_
          obtain ⟨r4, h5, hf⟩ := ob1_e hf
          refine kmi (w1 := (oMM C e0 e1 e2 e3 e4 e5 e6 e7 e8 e9 e10 e11 e12 e13 e14 e15 m_s m_held m_aside m_before m_isHeld m_tape m_taped m_token m_from m_to m_value m_isWrong m_due m_firsts m_rows m_rowN m_sortOf m_sizeOf m_numbers m_holdsWhat m_holdsWhich m_holdsMany m_bodies m_ran m_actKind m_actN m_actA m_isParted [])) (va_runV (As := [.int i1]) (rest := [.int i2]) ⟨hx, hb, hml, hown, hts⟩ (c_X6_marksOn l E D C e0 e1 e2 e3 e4 e5 e6 e7 e8 e9 e10 e11 e12 e13 e14 e15 H.size N m_s m_held m_aside m_before m_isHeld m_tape m_taped m_token m_from m_to m_value m_isWrong m_due m_firsts m_rows m_rowN m_sortOf m_sizeOf m_numbers m_holdsWhat m_holdsWhich m_holdsMany m_bodies m_ran m_actKind m_actN m_actA m_isParted i1 r4 h5) (cwV 1 hts gX6_mostOnOne_X6_marksOn rfl rfl rfl hdX6_marksOn ⟨Nat.le_of_ble_eq_true rfl, Nat.le_of_ble_eq_true rfl⟩) (kpreM hP hD hK hS hE hA 0 rfl rfl rfl) rfl rfl hl.1 rfl (lv_room (Nat.le_of_ble_eq_true rfl)) dX6_mostOnOne_13 ⟨Nat.zero_le _, Nat.zero_le _⟩) hP hD hS hA rfl (fun H locs hP hD hS => ?_)
          obtain ⟨r6, h7, hf⟩ := ob1_e hf
          refine kci (Wx := (oMM C e0 e1 e2 e3 e4 e5 e6 e7 e8 e9 e10 e11 e12 e13 e14 e15 m_s m_held m_aside m_before m_isHeld m_tape m_taped m_token m_from m_to m_value m_isWrong m_due m_firsts m_rows m_rowN m_sortOf m_sizeOf m_numbers m_holdsWhat m_holdsWhich m_holdsMany m_bodies m_ran m_actKind m_actN m_actA m_isParted [])) (va_runS (As := [.int r4]) (rest := [.int i2]) ⟨hx, hb, hml, hown, hts⟩ (c_X6_size l E D C H.size N r4 r6 h7) (va_cwS 1 hts gX6_mostOnOne_X6_size rfl rfl rfl hdX6_size ⟨Nat.le_of_ble_eq_true rfl, Nat.le_of_ble_eq_true rfl⟩) (kpre hP hD hK hS hE hA [] rfl rfl) rfl rfl hl.1 rfl (lv_room (Nat.le_of_ble_eq_true rfl)) dX6_mostOnOne_16 ⟨Nat.zero_le _, Nat.zero_le _⟩) hP hD hS hA [] rfl rfl rfl (fun H locs hP hD hS => ?_)
          refine kci (Wx := (oMM C e0 e1 e2 e3 e4 e5 e6 e7 e8 e9 e10 e11 e12 e13 e14 e15 m_s m_held m_aside m_before m_isHeld m_tape m_taped m_token m_from m_to m_value m_isWrong m_due m_firsts m_rows m_rowN m_sortOf m_sizeOf m_numbers m_holdsWhat m_holdsWhich m_holdsMany m_bodies m_ran m_actKind m_actN m_actA m_isParted [])) (va_runS (As := [.int i2, .int r6]) (rest := []) ⟨hx, hb, hml, hown, hts⟩ (c_X6_greatest l E D C H.size i2 r6 _ rfl) (va_cwS 2 hts gX6_mostOnOne_X6_greatest rfl rfl rfl hdX6_greatest ⟨Nat.le_of_ble_eq_true rfl, Nat.le_of_ble_eq_true rfl⟩) (kpre hP hD hK hS hE hA [] rfl rfl) rfl rfl hl.1 rfl (lv_room (Nat.le_of_ble_eq_true rfl)) dX6_mostOnOne_19 ⟨Nat.zero_le _, Nat.zero_le _⟩) hP hD hS hA [] rfl rfl rfl (fun H locs hP hD hS => ?_)
          obtain ⟨t8, et8, hf⟩ := lj_e hf
          refine lv_ren et8 ?_
          refine lv_istore_n (lv' := [(1, .int t8), (2, .int i1), (0, .ref e0)]) hx hb dX6_mostOnOne_22 rfl hl (by decide) rfl (fun ls hl => ?_)
          obtain ⟨t9, et9, hf⟩ := lj_e hf
          refine lv_iinc (v := t9) (lv' := [(2, .int t9), (1, .int t8), (0, .ref e0)]) hx hb dX6_mostOnOne_23 hl (k := 1) rfl (by rw [et9]; rfl) (by decide) rfl (fun ls hl => ?_)
          refine lv_goto (tgt := 4) hx hb dX6_mostOnOne_26 (by decide) ?_
          exact ih t9 t8 H locs ls hP hD hS (lv_sub hl [0, 1, 2] rfl) hf
    exact hL4 N 0 0 H locs ls hP hD hS (lv_sub hl [0, 1, 2] rfl) hf
  exact main _ _ hP hD hS

def rmX6_state : Room := { frames := 3, cells := 0, slots := 0, locals := 67 }
theorem hdX6_state : yX6_state.cls = RX6 ∧ yX6_state.cls ≠ "java/lang/invoke/MethodHandle" ∧ yX6_state.cls ≠ "java/lang/invoke/VarHandle" ∧ (parseMethodDescriptor yX6_state.desc).map (fun d => d.parameters.length) = some 1 := by decide +kernel
set_option maxHeartbeats 40000000 in
set_option maxRecDepth 100000 in
theorem c_X6_state (l : Launch) (E : Nat → Nat) (D : va_G) (C : Nat → ClassId) (e0 e1 e2 e3 e4 e5 e6 e7 e8 e9 e10 e11 e12 e13 e14 e15 : Nat) (sz : Nat) (N : Nat) (m_s : Nat → Int32) (m_held : Nat → Int32) (m_aside : Nat → Int32) (m_before : Nat → Int32) (m_isHeld : Int32) (m_tape : Nat → Int32) (m_taped : Int32) (m_token : Int32) (m_from : Int32) (m_to : Int32) (m_value : Int32) (m_isWrong : Int32) (m_due : Nat → Int32) (m_firsts : Nat → Int32) (m_rows : Nat → Int32) (m_rowN : Int32) (m_sortOf : Nat → Int32) (m_sizeOf : Nat → Int32) (m_numbers : Nat → Int32) (m_holdsWhat : Nat → Int32) (m_holdsWhich : Nat → Int32) (m_holdsMany : Nat → Int32) (m_bodies : Nat → Int32) (m_ran : Int32) (m_actKind : Int32) (m_actN : Int32) (m_actA : Int32) (m_isParted : Int32) (x0 : Int32) (r : Int32) (hf : f_X6_state N m_s x0 = some r) : Met l yX6_state wsX6_state rmX6_state (PC E D C [.ref e0, .int x0] (oMM C e0 e1 e2 e3 e4 e5 e6 e7 e8 e9 e10 e11 e12 e13 e14 e15 m_s m_held m_aside m_before m_isHeld m_tape m_taped m_token m_from m_to m_value m_isWrong m_due m_firsts m_rows m_rowN m_sortOf m_sizeOf m_numbers m_holdsWhat m_holdsWhich m_holdsMany m_bodies m_ran m_actKind m_actN m_actA m_isParted []) sz) (QI D C (oMM C e0 e1 e2 e3 e4 e5 e6 e7 e8 e9 e10 e11 e12 e13 e14 e15 m_s m_held m_aside m_before m_isHeld m_tape m_taped m_token m_from m_to m_value m_isWrong m_due m_firsts m_rows m_rowN m_sortOf m_sizeOf m_numbers m_holdsWhat m_holdsWhich m_holdsMany m_bodies m_ran m_actKind m_actN m_actA m_isParted []) (oMM C e0 e1 e2 e3 e4 e5 e6 e7 e8 e9 e10 e11 e12 e13 e14 e15 m_s m_held m_aside m_before m_isHeld m_tape m_taped m_token m_from m_to m_value m_isWrong m_due m_firsts m_rows m_rowN m_sortOf m_sizeOf m_numbers m_holdsWhat m_holdsWhich m_holdsMany m_bodies m_ran m_actKind m_actN m_actA m_isParted []) sz r) 0 0 (va_A (oMM C e0 e1 e2 e3 e4 e5 e6 e7 e8 e9 e10 e11 e12 e13 e14 e15 m_s m_held m_aside m_before m_isHeld m_tape m_taped m_token m_from m_to m_value m_isWrong m_due m_firsts m_rows m_rowN m_sortOf m_sizeOf m_numbers m_holdsWhat m_holdsWhich m_holdsMany m_bodies m_ran m_actKind m_actN m_actA m_isParted []) sz) := by
  refine Met.ofW (cc := cX6_state) (maxL := 2) (ret := (some .int)) (by decide) rfl ?_
  intro p e s m args below meth c s₁ B hml hv
  obtain ⟨rfl, hsz, hP, hK, hD0, hE⟩ := hv
  have hx := B.exec
  have hb := B.bytes
  have hr := B.returns
  have hts := atoms_spec (ws := wsX6_state) B.pre
  have hown : s.vm.findClass RX6 = some m.cls := findClass_of_methodNamed B.named
  have hlocks := B.notSynchronized
  subst hsz
  have hi_RX6 : ∀ w ∈ wsX60, w ∈ wsX6_state := fun _ h => List.mem_cons_of_mem _ (List.mem_append_right _ h)
  have hD := hD0.self (sz := s.heap.size)
  obtain ⟨A, hAe⟩ := nm_ex (va_A (oMM C e0 e1 e2 e3 e4 e5 e6 e7 e8 e9 e10 e11 e12 e13 e14 e15 m_s m_held m_aside m_before m_isHeld m_tape m_taped m_token m_from m_to m_value m_isWrong m_due m_firsts m_rows m_rowN m_sortOf m_sizeOf m_numbers m_holdsWhat m_holdsWhich m_holdsMany m_bodies m_ran m_actKind m_actN m_actA m_isParted []) s.heap.size)
  rw [← hAe] at hD hE ⊢
  have hA : ∀ q : Nat, s.heap.size ≤ q → A q := fun q h => by rw [hAe]; exact Or.inr h
  have hS : va_S A s.heap s.heap [] := va_S.rf
  have hl := lv_entry ([.ref e0, .int x0]) (n := 2) (Nat.le_of_ble_eq_true rfl)
  rw [lg_entry_eq]
  generalize (lg_sl ([.ref e0, .int x0]) ++ List.replicate (2 - (lg_sl ([.ref e0, .int x0])).length) Slot.unset).toArray = ls at hl ⊢
  have hl : lv_has ls 2 [(0, .ref e0), (1, .int x0)] := hl
  obtain ⟨Q, hQ⟩ := nm_ex (MQ below (QI D C (oMM C e0 e1 e2 e3 e4 e5 e6 e7 e8 e9 e10 e11 e12 e13 e14 e15 m_s m_held m_aside m_before m_isHeld m_tape m_taped m_token m_from m_to m_value m_isWrong m_due m_firsts m_rows m_rowN m_sortOf m_sizeOf m_numbers m_holdsWhat m_holdsWhich m_holdsMany m_bodies m_ran m_actKind m_actN m_actA m_isParted []) (oMM C e0 e1 e2 e3 e4 e5 e6 e7 e8 e9 e10 e11 e12 e13 e14 e15 m_s m_held m_aside m_before m_isHeld m_tape m_taped m_token m_from m_to m_value m_isWrong m_due m_firsts m_rows m_rowN m_sortOf m_sizeOf m_numbers m_holdsWhat m_holdsWhich m_holdsMany m_bodies m_ran m_actKind m_actN m_actA m_isParted []) s.heap.size r) (List.toArray [Value.ref e0, Value.int x0]) s 0 0 A)
  show W p l e (headSpec wsX6_state (rmX6_state)).room s m (List.toArray [Value.ref e0, Value.int x0]) below meth c s.heap [] 0 0 (MQ below (QI D C (oMM C e0 e1 e2 e3 e4 e5 e6 e7 e8 e9 e10 e11 e12 e13 e14 e15 m_s m_held m_aside m_before m_isHeld m_tape m_taped m_token m_from m_to m_value m_isWrong m_due m_firsts m_rows m_rowN m_sortOf m_sizeOf m_numbers m_holdsWhat m_holdsWhich m_holdsMany m_bodies m_ran m_actKind m_actN m_actA m_isParted []) (oMM C e0 e1 e2 e3 e4 e5 e6 e7 e8 e9 e10 e11 e12 e13 e14 e15 m_s m_held m_aside m_before m_isHeld m_tape m_taped m_token m_from m_to m_value m_isWrong m_due m_firsts m_rows m_rowN m_sortOf m_sizeOf m_numbers m_holdsWhat m_holdsWhich m_holdsMany m_bodies m_ran m_actKind m_actN m_actA m_isParted []) s.heap.size r) (List.toArray [Value.ref e0, Value.int x0]) s 0 0 A) _
  rw [← hQ]
  unfold f_X6_state at hf
  have main : ∀ (H : Heap) (locs : List Loc), va_P D vwCl (oMM C e0 e1 e2 e3 e4 e5 e6 e7 e8 e9 e10 e11 e12 e13 e14 e15 m_s m_held m_aside m_before m_isHeld m_tape m_taped m_token m_from m_to m_value m_isWrong m_due m_firsts m_rows m_rowN m_sortOf m_sizeOf m_numbers m_holdsWhat m_holdsWhich m_holdsMany m_bodies m_ran m_actKind m_actN m_actA m_isParted []) H → va_D A (oMM C e0 e1 e2 e3 e4 e5 e6 e7 e8 e9 e10 e11 e12 e13 e14 e15 m_s m_held m_aside m_before m_isHeld m_tape m_taped m_token m_from m_to m_value m_isWrong m_due m_firsts m_rows m_rowN m_sortOf m_sizeOf m_numbers m_holdsWhat m_holdsWhich m_holdsMany m_bodies m_ran m_actKind m_actN m_actA m_isParted []) → va_S A s.heap H locs → W p l e (headSpec wsX6_state (rmX6_state)).room s m (List.toArray [Value.ref e0, Value.int x0]) below meth c H locs 0 0 Q (F0 m 0 ls []) := by
    intro H locs hP hD hS
    refine lv_iload_n hx hb dX6_state_0 rfl (lv_at hl 1 rfl) ?_
    by_cases c1 : x0 = 0
    · replace hf := if_te c1 hf
      refine lv_tableIn (x := x0) (tgt := 40) (off := 39) hx hb dX6_state_1 (by rw [c1]; decide) (by rw [c1]; decide) (by rw [c1]; try rfl) (by decide) ?_
      refine lv_aload_n hx hb dX6_state_40 rfl (lv_at hl 0 rfl) ?_
      refine va_get (D := D) (ci := 6) (v := .ref e1) (C := RX6) (T := TX6) (N := 28) hx hb hts hi_RX6 hown hK hP 0 rfl rfl 0 (by decide) (hts (.fieldLink RX6 7 "TravelMarksModel" "s" "[I") (List.mem_of_getElem? (i := 1) rfl)) (fun _ h9 => h9) rfl dX6_state_41 ?_
      refine lv_iconst (v := 1) hx hb dX6_state_44 rfl ?_
      refine va_iald hx hb hK hP 1 0 rfl rfl (i := 1) (vin (by decide)) dX6_state_45 ?_
      refine lv_ren (show (m_s 1) = m_s (Int32.toNatClampNeg 1) from rfl) ?_
      obtain ⟨t2, et2, hf⟩ := lj_e hf
      refine lv_ren et2 ?_
      cases hf
      exact kri hQ hAe hx hb hr hlocks hP hD hK hS dX6_state_46
    replace hf := if_fe c1 hf
    by_cases c3 : x0 = 1
    · replace hf := if_te c3 hf
      refine lv_tableIn (x := x0) (tgt := 47) (off := 46) hx hb dX6_state_1 (by rw [c3]; decide) (by rw [c3]; decide) (by rw [c3]; try rfl) (by decide) ?_
      refine lv_aload_n hx hb dX6_state_47 rfl (lv_at hl 0 rfl) ?_
      obtain ⟨r4, h5, hf⟩ := ob1_e hf
      refine kmi (w1 := (oMM C e0 e1 e2 e3 e4 e5 e6 e7 e8 e9 e10 e11 e12 e13 e14 e15 m_s m_held m_aside m_before m_isHeld m_tape m_taped m_token m_from m_to m_value m_isWrong m_due m_firsts m_rows m_rowN m_sortOf m_sizeOf m_numbers m_holdsWhat m_holdsWhich m_holdsMany m_bodies m_ran m_actKind m_actN m_actA m_isParted [])) (va_runV (As := []) (rest := []) ⟨hx, hb, hml, hown, hts⟩ (c_X6_inkOfAll l E D C e0 e1 e2 e3 e4 e5 e6 e7 e8 e9 e10 e11 e12 e13 e14 e15 H.size N m_s m_held m_aside m_before m_isHeld m_tape m_taped m_token m_from m_to m_value m_isWrong m_due m_firsts m_rows m_rowN m_sortOf m_sizeOf m_numbers m_holdsWhat m_holdsWhich m_holdsMany m_bodies m_ran m_actKind m_actN m_actA m_isParted r4 h5) (cwV 0 hts gX6_state_X6_inkOfAll rfl rfl rfl hdX6_inkOfAll ⟨Nat.le_of_ble_eq_true rfl, Nat.le_of_ble_eq_true rfl⟩) (kpreM hP hD hK hS hE hA 0 rfl rfl rfl) rfl rfl hl.1 rfl (lv_room (Nat.le_of_ble_eq_true rfl)) dX6_state_48 ⟨Nat.zero_le _, Nat.zero_le _⟩) hP hD hS hA rfl (fun H locs hP hD hS => ?_)
      cases hf
      exact kri hQ hAe hx hb hr hlocks hP hD hK hS dX6_state_51
    replace hf := if_fe c3 hf
    by_cases c6 : x0 = 2
    · replace hf := if_te c6 hf
      refine lv_tableIn (x := x0) (tgt := 52) (off := 51) hx hb dX6_state_1 (by rw [c6]; decide) (by rw [c6]; decide) (by rw [c6]; try rfl) (by decide) ?_
      refine lv_aload_n hx hb dX6_state_52 rfl (lv_at hl 0 rfl) ?_
      obtain ⟨r7, h8, hf⟩ := ob1_e hf
      refine kmi (w1 := (oMM C e0 e1 e2 e3 e4 e5 e6 e7 e8 e9 e10 e11 e12 e13 e14 e15 m_s m_held m_aside m_before m_isHeld m_tape m_taped m_token m_from m_to m_value m_isWrong m_due m_firsts m_rows m_rowN m_sortOf m_sizeOf m_numbers m_holdsWhat m_holdsWhich m_holdsMany m_bodies m_ran m_actKind m_actN m_actA m_isParted [])) (va_runV (As := []) (rest := []) ⟨hx, hb, hml, hown, hts⟩ (c_X6_marked l E D C e0 e1 e2 e3 e4 e5 e6 e7 e8 e9 e10 e11 e12 e13 e14 e15 H.size N m_s m_held m_aside m_before m_isHeld m_tape m_taped m_token m_from m_to m_value m_isWrong m_due m_firsts m_rows m_rowN m_sortOf m_sizeOf m_numbers m_holdsWhat m_holdsWhich m_holdsMany m_bodies m_ran m_actKind m_actN m_actA m_isParted r7 h8) (cwV 0 hts gX6_state_X6_marked rfl rfl rfl hdX6_marked ⟨Nat.le_of_ble_eq_true rfl, Nat.le_of_ble_eq_true rfl⟩) (kpreM hP hD hK hS hE hA 0 rfl rfl rfl) rfl rfl hl.1 rfl (lv_room (Nat.le_of_ble_eq_true rfl)) dX6_state_53 ⟨Nat.zero_le _, Nat.zero_le _⟩) hP hD hS hA rfl (fun H locs hP hD hS => ?_)
      cases hf
      exact kri hQ hAe hx hb hr hlocks hP hD hK hS dX6_state_56
    replace hf := if_fe c6 hf
    by_cases c9 : x0 = 3
    · replace hf := if_te c9 hf
      refine lv_tableIn (x := x0) (tgt := 57) (off := 56) hx hb dX6_state_1 (by rw [c9]; decide) (by rw [c9]; decide) (by rw [c9]; try rfl) (by decide) ?_
      refine lv_aload_n hx hb dX6_state_57 rfl (lv_at hl 0 rfl) ?_
      obtain ⟨r10, h11, hf⟩ := ob1_e hf
      refine kmi (w1 := (oMM C e0 e1 e2 e3 e4 e5 e6 e7 e8 e9 e10 e11 e12 e13 e14 e15 m_s m_held m_aside m_before m_isHeld m_tape m_taped m_token m_from m_to m_value m_isWrong m_due m_firsts m_rows m_rowN m_sortOf m_sizeOf m_numbers m_holdsWhat m_holdsWhich m_holdsMany m_bodies m_ran m_actKind m_actN m_actA m_isParted [])) (va_runV (As := []) (rest := []) ⟨hx, hb, hml, hown, hts⟩ (c_X6_circles l E D C e0 e1 e2 e3 e4 e5 e6 e7 e8 e9 e10 e11 e12 e13 e14 e15 H.size N m_s m_held m_aside m_before m_isHeld m_tape m_taped m_token m_from m_to m_value m_isWrong m_due m_firsts m_rows m_rowN m_sortOf m_sizeOf m_numbers m_holdsWhat m_holdsWhich m_holdsMany m_bodies m_ran m_actKind m_actN m_actA m_isParted r10 h11) (cwV 0 hts gX6_state_X6_circles rfl rfl rfl hdX6_circles ⟨Nat.le_of_ble_eq_true rfl, Nat.le_of_ble_eq_true rfl⟩) (kpreM hP hD hK hS hE hA 0 rfl rfl rfl) rfl rfl hl.1 rfl (lv_room (Nat.le_of_ble_eq_true rfl)) dX6_state_58 ⟨Nat.zero_le _, Nat.zero_le _⟩) hP hD hS hA rfl (fun H locs hP hD hS => ?_)
      cases hf
      exact kri hQ hAe hx hb hr hlocks hP hD hK hS dX6_state_61
    replace hf := if_fe c9 hf
    by_cases c12 : x0 = 4
    · replace hf := if_te c12 hf
      refine lv_tableIn (x := x0) (tgt := 62) (off := 61) hx hb dX6_state_1 (by rw [c12]; decide) (by rw [c12]; decide) (by rw [c12]; try rfl) (by decide) ?_
      refine lv_aload_n hx hb dX6_state_62 rfl (lv_at hl 0 rfl) ?_
      obtain ⟨r13, h14, hf⟩ := ob1_e hf
      refine kmi (w1 := (oMM C e0 e1 e2 e3 e4 e5 e6 e7 e8 e9 e10 e11 e12 e13 e14 e15 m_s m_held m_aside m_before m_isHeld m_tape m_taped m_token m_from m_to m_value m_isWrong m_due m_firsts m_rows m_rowN m_sortOf m_sizeOf m_numbers m_holdsWhat m_holdsWhich m_holdsMany m_bodies m_ran m_actKind m_actN m_actA m_isParted [])) (va_runV (As := []) (rest := []) ⟨hx, hb, hml, hown, hts⟩ (c_X6_dryOnes l E D C e0 e1 e2 e3 e4 e5 e6 e7 e8 e9 e10 e11 e12 e13 e14 e15 H.size N m_s m_held m_aside m_before m_isHeld m_tape m_taped m_token m_from m_to m_value m_isWrong m_due m_firsts m_rows m_rowN m_sortOf m_sizeOf m_numbers m_holdsWhat m_holdsWhich m_holdsMany m_bodies m_ran m_actKind m_actN m_actA m_isParted r13 h14) (cwV 0 hts gX6_state_X6_dryOnes rfl rfl rfl hdX6_dryOnes ⟨Nat.le_of_ble_eq_true rfl, Nat.le_of_ble_eq_true rfl⟩) (kpreM hP hD hK hS hE hA 0 rfl rfl rfl) rfl rfl hl.1 rfl (lv_room (Nat.le_of_ble_eq_true rfl)) dX6_state_63 ⟨Nat.zero_le _, Nat.zero_le _⟩) hP hD hS hA rfl (fun H locs hP hD hS => ?_)
      cases hf
      exact kri hQ hAe hx hb hr hlocks hP hD hK hS dX6_state_66
    replace hf := if_fe c12 hf
    by_cases c15 : x0 = 5
    · replace hf := if_te c15 hf
      refine lv_tableIn (x := x0) (tgt := 67) (off := 66) hx hb dX6_state_1 (by rw [c15]; decide) (by rw [c15]; decide) (by rw [c15]; try rfl) (by decide) ?_
      refine lv_aload_n hx hb dX6_state_67 rfl (lv_at hl 0 rfl) ?_
      obtain ⟨r16, h17, hf⟩ := ob1_e hf
      refine kmi (w1 := (oMM C e0 e1 e2 e3 e4 e5 e6 e7 e8 e9 e10 e11 e12 e13 e14 e15 m_s m_held m_aside m_before m_isHeld m_tape m_taped m_token m_from m_to m_value m_isWrong m_due m_firsts m_rows m_rowN m_sortOf m_sizeOf m_numbers m_holdsWhat m_holdsWhich m_holdsMany m_bodies m_ran m_actKind m_actN m_actA m_isParted [])) (va_runV (As := []) (rest := []) ⟨hx, hb, hml, hown, hts⟩ (c_X6_mostOnOne l E D C e0 e1 e2 e3 e4 e5 e6 e7 e8 e9 e10 e11 e12 e13 e14 e15 H.size N m_s m_held m_aside m_before m_isHeld m_tape m_taped m_token m_from m_to m_value m_isWrong m_due m_firsts m_rows m_rowN m_sortOf m_sizeOf m_numbers m_holdsWhat m_holdsWhich m_holdsMany m_bodies m_ran m_actKind m_actN m_actA m_isParted r16 h17) (cwV 0 hts gX6_state_X6_mostOnOne rfl rfl rfl hdX6_mostOnOne ⟨Nat.le_of_ble_eq_true rfl, Nat.le_of_ble_eq_true rfl⟩) (kpreM hP hD hK hS hE hA 0 rfl rfl rfl) rfl rfl hl.1 rfl (lv_room (Nat.le_of_ble_eq_true rfl)) dX6_state_68 ⟨Nat.zero_le _, Nat.zero_le _⟩) hP hD hS hA rfl (fun H locs hP hD hS => ?_)
      cases hf
      exact kri hQ hAe hx hb hr hlocks hP hD hK hS dX6_state_71
    replace hf := if_fe c15 hf
    refine lv_tableOut (x := x0) (tgt := 72) hx hb dX6_state_1 (swo_0_5 c1 c3 c6 c9 c12 c15) (by decide) ?_
    refine lv_iconst (v := (-1)) hx hb dX6_state_72 rfl ?_
    cases hf
    exact kri hQ hAe hx hb hr hlocks hP hD hK hS dX6_state_73
  exact main _ _ hP hD hS

def rmX6_where : Room := { frames := 7, cells := 0, slots := 0, locals := 165 }
theorem hdX6_where : yX6_where.cls = RX6 ∧ yX6_where.cls ≠ "java/lang/invoke/MethodHandle" ∧ yX6_where.cls ≠ "java/lang/invoke/VarHandle" ∧ (parseMethodDescriptor yX6_where.desc).map (fun d => d.parameters.length) = some 2 := by decide +kernel
set_option maxHeartbeats 40000000 in
set_option maxRecDepth 100000 in
theorem c_X6_where (l : Launch) (E : Nat → Nat) (D : va_G) (C : Nat → ClassId) (e0 e1 e2 e3 e4 e5 e6 e7 e8 e9 e10 e11 e12 e13 e14 e15 : Nat) (sz : Nat) (N : Nat) (m_s : Nat → Int32) (m_held : Nat → Int32) (m_aside : Nat → Int32) (m_before : Nat → Int32) (m_isHeld : Int32) (m_tape : Nat → Int32) (m_taped : Int32) (m_token : Int32) (m_from : Int32) (m_to : Int32) (m_value : Int32) (m_isWrong : Int32) (m_due : Nat → Int32) (m_firsts : Nat → Int32) (m_rows : Nat → Int32) (m_rowN : Int32) (m_sortOf : Nat → Int32) (m_sizeOf : Nat → Int32) (m_numbers : Nat → Int32) (m_holdsWhat : Nat → Int32) (m_holdsWhich : Nat → Int32) (m_holdsMany : Nat → Int32) (m_bodies : Nat → Int32) (m_ran : Int32) (m_actKind : Int32) (m_actN : Int32) (m_actA : Int32) (m_isParted : Int32) (x0 : Int32) (x1 : Int32) (r : Int32) (m_s' : Nat → Int32) (m_aside' : Nat → Int32) (hf : f_X6_where N m_s m_aside x0 x1 = some (r, m_s', m_aside')) : Met l yX6_where wsX6_where rmX6_where (PC E D C [.ref e0, .int x0, .int x1] (oMM C e0 e1 e2 e3 e4 e5 e6 e7 e8 e9 e10 e11 e12 e13 e14 e15 m_s m_held m_aside m_before m_isHeld m_tape m_taped m_token m_from m_to m_value m_isWrong m_due m_firsts m_rows m_rowN m_sortOf m_sizeOf m_numbers m_holdsWhat m_holdsWhich m_holdsMany m_bodies m_ran m_actKind m_actN m_actA m_isParted []) sz) (QI D C (oMM C e0 e1 e2 e3 e4 e5 e6 e7 e8 e9 e10 e11 e12 e13 e14 e15 m_s m_held m_aside m_before m_isHeld m_tape m_taped m_token m_from m_to m_value m_isWrong m_due m_firsts m_rows m_rowN m_sortOf m_sizeOf m_numbers m_holdsWhat m_holdsWhich m_holdsMany m_bodies m_ran m_actKind m_actN m_actA m_isParted []) (oMM C e0 e1 e2 e3 e4 e5 e6 e7 e8 e9 e10 e11 e12 e13 e14 e15 (m_s') m_held (m_aside') m_before m_isHeld m_tape m_taped m_token m_from m_to m_value m_isWrong m_due m_firsts m_rows m_rowN m_sortOf m_sizeOf m_numbers m_holdsWhat m_holdsWhich m_holdsMany m_bodies m_ran m_actKind m_actN m_actA m_isParted []) sz r) 0 0 (va_A (oMM C e0 e1 e2 e3 e4 e5 e6 e7 e8 e9 e10 e11 e12 e13 e14 e15 m_s m_held m_aside m_before m_isHeld m_tape m_taped m_token m_from m_to m_value m_isWrong m_due m_firsts m_rows m_rowN m_sortOf m_sizeOf m_numbers m_holdsWhat m_holdsWhich m_holdsMany m_bodies m_ran m_actKind m_actN m_actA m_isParted []) sz) := by
  refine Met.ofW (cc := cX6_where) (maxL := 4) (ret := (some .int)) (by decide) rfl ?_
  intro p e s m args below meth c s₁ B hml hv
  obtain ⟨rfl, hsz, hP, hK, hD0, hE⟩ := hv
  have hx := B.exec
  have hb := B.bytes
  have hr := B.returns
  have hts := atoms_spec (ws := wsX6_where) B.pre
  have hown : s.vm.findClass RX6 = some m.cls := findClass_of_methodNamed B.named
  have hlocks := B.notSynchronized
  subst hsz
  have hi_RX6 : ∀ w ∈ wsX60, w ∈ wsX6_where := fun _ h => List.mem_cons_of_mem _ (List.mem_append_right _ h)
  have hD := hD0.self (sz := s.heap.size)
  obtain ⟨A, hAe⟩ := nm_ex (va_A (oMM C e0 e1 e2 e3 e4 e5 e6 e7 e8 e9 e10 e11 e12 e13 e14 e15 m_s m_held m_aside m_before m_isHeld m_tape m_taped m_token m_from m_to m_value m_isWrong m_due m_firsts m_rows m_rowN m_sortOf m_sizeOf m_numbers m_holdsWhat m_holdsWhich m_holdsMany m_bodies m_ran m_actKind m_actN m_actA m_isParted []) s.heap.size)
  rw [← hAe] at hD hE ⊢
  have hA : ∀ q : Nat, s.heap.size ≤ q → A q := fun q h => by rw [hAe]; exact Or.inr h
  have hS : va_S A s.heap s.heap [] := va_S.rf
  have hl := lv_entry ([.ref e0, .int x0, .int x1]) (n := 4) (Nat.le_of_ble_eq_true rfl)
  rw [lg_entry_eq]
  generalize (lg_sl ([.ref e0, .int x0, .int x1]) ++ List.replicate (4 - (lg_sl ([.ref e0, .int x0, .int x1])).length) Slot.unset).toArray = ls at hl ⊢
  have hl : lv_has ls 4 [(0, .ref e0), (1, .int x0), (2, .int x1)] := hl
  obtain ⟨Q, hQ⟩ := nm_ex (MQ below (QI D C (oMM C e0 e1 e2 e3 e4 e5 e6 e7 e8 e9 e10 e11 e12 e13 e14 e15 m_s m_held m_aside m_before m_isHeld m_tape m_taped m_token m_from m_to m_value m_isWrong m_due m_firsts m_rows m_rowN m_sortOf m_sizeOf m_numbers m_holdsWhat m_holdsWhich m_holdsMany m_bodies m_ran m_actKind m_actN m_actA m_isParted []) (oMM C e0 e1 e2 e3 e4 e5 e6 e7 e8 e9 e10 e11 e12 e13 e14 e15 (m_s') m_held (m_aside') m_before m_isHeld m_tape m_taped m_token m_from m_to m_value m_isWrong m_due m_firsts m_rows m_rowN m_sortOf m_sizeOf m_numbers m_holdsWhat m_holdsWhich m_holdsMany m_bodies m_ran m_actKind m_actN m_actA m_isParted []) s.heap.size r) (List.toArray [Value.ref e0, Value.int x0, Value.int x1]) s 0 0 A)
  show W p l e (headSpec wsX6_where (rmX6_where)).room s m (List.toArray [Value.ref e0, Value.int x0, Value.int x1]) below meth c s.heap [] 0 0 (MQ below (QI D C (oMM C e0 e1 e2 e3 e4 e5 e6 e7 e8 e9 e10 e11 e12 e13 e14 e15 m_s m_held m_aside m_before m_isHeld m_tape m_taped m_token m_from m_to m_value m_isWrong m_due m_firsts m_rows m_rowN m_sortOf m_sizeOf m_numbers m_holdsWhat m_holdsWhich m_holdsMany m_bodies m_ran m_actKind m_actN m_actA m_isParted []) (oMM C e0 e1 e2 e3 e4 e5 e6 e7 e8 e9 e10 e11 e12 e13 e14 e15 (m_s') m_held (m_aside') m_before m_isHeld m_tape m_taped m_token m_from m_to m_value m_isWrong m_due m_firsts m_rows m_rowN m_sortOf m_sizeOf m_numbers m_holdsWhat m_holdsWhich m_holdsMany m_bodies m_ran m_actKind m_actN m_actA m_isParted []) s.heap.size r) (List.toArray [Value.ref e0, Value.int x0, Value.int x1]) s 0 0 A) _
  rw [← hQ]
  unfold f_X6_where at hf
  have main : ∀ (H : Heap) (locs : List Loc), va_P D vwCl (oMM C e0 e1 e2 e3 e4 e5 e6 e7 e8 e9 e10 e11 e12 e13 e14 e15 m_s m_held m_aside m_before m_isHeld m_tape m_taped m_token m_from m_to m_value m_isWrong m_due m_firsts m_rows m_rowN m_sortOf m_sizeOf m_numbers m_holdsWhat m_holdsWhich m_holdsMany m_bodies m_ran m_actKind m_actN m_actA m_isParted []) H → va_D A (oMM C e0 e1 e2 e3 e4 e5 e6 e7 e8 e9 e10 e11 e12 e13 e14 e15 m_s m_held m_aside m_before m_isHeld m_tape m_taped m_token m_from m_to m_value m_isWrong m_due m_firsts m_rows m_rowN m_sortOf m_sizeOf m_numbers m_holdsWhat m_holdsWhich m_holdsMany m_bodies m_ran m_actKind m_actN m_actA m_isParted []) → va_S A s.heap H locs → W p l e (headSpec wsX6_where (rmX6_where)).room s m (List.toArray [Value.ref e0, Value.int x0, Value.int x1]) below meth c H locs 0 0 Q (F0 m 0 ls []) := by
    intro H locs hP hD hS
    refine lv_aload_n hx hb dX6_where_0 rfl (lv_at hl 0 rfl) ?_
    refine lv_iload_n hx hb dX6_where_1 rfl (lv_at hl 1 rfl) ?_
    refine kmz (w1 := (oMM C e0 e1 e2 e3 e4 e5 e6 e7 e8 e9 e10 e11 e12 e13 e14 e15 m_s m_held m_aside m_before m_isHeld m_tape m_taped m_token m_from m_to m_value m_isWrong m_due m_firsts m_rows m_rowN m_sortOf m_sizeOf m_numbers m_holdsWhat m_holdsWhich m_holdsMany m_bodies m_ran m_actKind m_actN m_actA m_isParted [])) (va_runV (As := [.int x0]) (rest := []) ⟨hx, hb, hml, hown, hts⟩ (c_X6_isOne l E D C e0 e1 e2 e3 e4 e5 e6 e7 e8 e9 e10 e11 e12 e13 e14 e15 H.size m_s m_held m_aside m_before m_isHeld m_tape m_taped m_token m_from m_to m_value m_isWrong m_due m_firsts m_rows m_rowN m_sortOf m_sizeOf m_numbers m_holdsWhat m_holdsWhich m_holdsMany m_bodies m_ran m_actKind m_actN m_actA m_isParted x0 _ rfl) (cwV 1 hts gX6_where_X6_isOne rfl rfl rfl hdX6_isOne ⟨Nat.le_of_ble_eq_true rfl, Nat.le_of_ble_eq_true rfl⟩) (kpreM hP hD hK hS hE hA 0 rfl rfl rfl) rfl rfl hl.1 rfl (lv_room (Nat.le_of_ble_eq_true rfl)) dX6_where_2 ⟨Nat.zero_le _, Nat.zero_le _⟩) hP hD hS hA rfl (fun H locs hz1 hP hD hS => ?_)
    refine lv_if_eq (tgt := 20) hx hb dX6_where_5 (by decide) (fun c2 => ?_) (fun c2 => ?_)
    · replace hf := if_te c2 hf
      refine lv_iconst (v := (-1)) hx hb dX6_where_20 rfl ?_
      cases hf
      exact kri hQ hAe hx hb hr hlocks hP hD hK hS dX6_where_21
    · replace hf := if_fe c2 hf
      refine lv_iload_n hx hb dX6_where_8 rfl (lv_at hl 2 rfl) ?_
      refine lv_i2l hx hb dX6_where_9 rfl ?_
      refine lv_lconst (v := 0) hx hb dX6_where_10 rfl ?_
      refine lv_ldc2 (v := 60) hx hb hown (hts (.constantLong RX6 213 (60)) (List.mem_of_getElem? (i := 1) rfl)) dX6_where_11 ?_
      refine kcz (Wx := (oMM C e0 e1 e2 e3 e4 e5 e6 e7 e8 e9 e10 e11 e12 e13 e14 e15 m_s m_held m_aside m_before m_isHeld m_tape m_taped m_token m_from m_to m_value m_isWrong m_due m_firsts m_rows m_rowN m_sortOf m_sizeOf m_numbers m_holdsWhat m_holdsWhich m_holdsMany m_bodies m_ran m_actKind m_actN m_actA m_isParted [])) (va_runS (As := [.long (Int32.toInt64 x1), .long 0, .long 60]) (rest := []) ⟨hx, hb, hml, hown, hts⟩ (c_X6_isIn l E D C H.size (Int32.toInt64 x1) 0 60 _ rfl) (va_cwS 3 hts gX6_where_X6_isIn rfl rfl rfl hdX6_isIn ⟨Nat.le_of_ble_eq_true rfl, Nat.le_of_ble_eq_true rfl⟩) (kpre hP hD hK hS hE hA [] rfl rfl) rfl rfl hl.1 rfl (lv_room (Nat.le_of_ble_eq_true rfl)) dX6_where_14 ⟨Nat.zero_le _, Nat.zero_le _⟩) hP hD hS hA [] rfl rfl rfl (fun H locs hz3 hP hD hS => ?_)
      refine lv_if_ne (tgt := 22) hx hb dX6_where_17 (by decide) (fun c4 => ?_) (fun c4 => ?_)
      · replace hf := if_fe c4 hf
        refine lv_aload_n hx hb dX6_where_22 rfl (lv_at hl 0 rfl) ?_
        refine va_get (D := D) (ci := 6) (v := .ref e1) (C := RX6) (T := TX6) (N := 28) hx hb hts hi_RX6 hown hK hP 0 rfl rfl 0 (by decide) (hts (.fieldLink RX6 7 "TravelMarksModel" "s" "[I") (List.mem_of_getElem? (i := 2) rfl)) (fun _ h9 => h9) rfl dX6_where_23 ?_
        refine lv_aload_n hx hb dX6_where_26 rfl (lv_at hl 0 rfl) ?_
        refine va_get (D := D) (ci := 6) (v := .ref e3) (C := RX6) (T := TX6) (N := 28) hx hb hts hi_RX6 hown hK hP 0 rfl rfl 2 (by decide) (hts (.fieldLink RX6 16 "TravelMarksModel" "aside" "[I") (List.mem_of_getElem? (i := 3) rfl)) (fun _ h9 => h9) rfl dX6_where_27 ?_
        obtain ⟨v5, h6, hf⟩ := ob1_e hf
        refine kcv (Wx := (oMM C e0 e1 e2 e3 e4 e5 e6 e7 e8 e9 e10 e11 e12 e13 e14 e15 m_s m_held v5 m_before m_isHeld m_tape m_taped m_token m_from m_to m_value m_isWrong m_due m_firsts m_rows m_rowN m_sortOf m_sizeOf m_numbers m_holdsWhat m_holdsWhich m_holdsMany m_bodies m_ran m_actKind m_actN m_actA m_isParted [])) (va_runS (As := [.ref e1, .ref e3]) (rest := []) ⟨hx, hb, hml, hown, hts⟩ (c_X6_copyRow l E D C e1 e3 H.size N m_s m_aside v5 h6) (va_cwS 2 hts gX6_where_X6_copyRow rfl rfl rfl hdX6_copyRow ⟨Nat.le_of_ble_eq_true rfl, Nat.le_of_ble_eq_true rfl⟩) (kpre hP hD hK hS hE hA [1, 3] rfl rfl) rfl rfl hl.1 rfl (lv_room (Nat.le_of_ble_eq_true rfl)) dX6_where_30 ⟨Nat.zero_le _, Nat.zero_le _⟩) hP hD hS hA [1, 3] rfl rfl rfl (fun H locs hP hD hS => ?_)
        refine lv_aload_n hx hb dX6_where_33 rfl (lv_at hl 0 rfl) ?_
        refine lv_iload_n hx hb dX6_where_34 rfl (lv_at hl 2 rfl) ?_
        obtain ⟨v7, h8, hf⟩ := ob1_e hf
        refine kmv (w1 := (oMM C e0 e1 e2 e3 e4 e5 e6 e7 e8 e9 e10 e11 e12 e13 e14 e15 v7 m_held v5 m_before m_isHeld m_tape m_taped m_token m_from m_to m_value m_isWrong m_due m_firsts m_rows m_rowN m_sortOf m_sizeOf m_numbers m_holdsWhat m_holdsWhich m_holdsMany m_bodies m_ran m_actKind m_actN m_actA m_isParted [])) (va_runV (As := [.int x1]) (rest := []) ⟨hx, hb, hml, hown, hts⟩ (c_X6_goes l E D C e0 e1 e2 e3 e4 e5 e6 e7 e8 e9 e10 e11 e12 e13 e14 e15 H.size N m_s m_held v5 m_before m_isHeld m_tape m_taped m_token m_from m_to m_value m_isWrong m_due m_firsts m_rows m_rowN m_sortOf m_sizeOf m_numbers m_holdsWhat m_holdsWhich m_holdsMany m_bodies m_ran m_actKind m_actN m_actA m_isParted x1 v7 h8) (cwV 1 hts gX6_where_X6_goes rfl rfl rfl hdX6_goes ⟨Nat.le_of_ble_eq_true rfl, Nat.le_of_ble_eq_true rfl⟩) (kpreM hP hD hK hS hE hA 0 rfl rfl rfl) rfl rfl hl.1 rfl (lv_room (Nat.le_of_ble_eq_true rfl)) dX6_where_35 ⟨Nat.zero_le _, Nat.zero_le _⟩) hP hD hS hA rfl (fun H locs hP hD hS => ?_)
        refine lv_aload_n hx hb dX6_where_38 rfl (lv_at hl 0 rfl) ?_
        refine lv_iload_n hx hb dX6_where_39 rfl (lv_at hl 1 rfl) ?_
        refine lv_iconst (v := 2) hx hb dX6_where_40 rfl ?_
        obtain ⟨r9, h10, hf⟩ := ob1_e hf
        refine kmi (w1 := (oMM C e0 e1 e2 e3 e4 e5 e6 e7 e8 e9 e10 e11 e12 e13 e14 e15 v7 m_held v5 m_before m_isHeld m_tape m_taped m_token m_from m_to m_value m_isWrong m_due m_firsts m_rows m_rowN m_sortOf m_sizeOf m_numbers m_holdsWhat m_holdsWhich m_holdsMany m_bodies m_ran m_actKind m_actN m_actA m_isParted [])) (va_runV (As := [.int x0, .int 2]) (rest := []) ⟨hx, hb, hml, hown, hts⟩ (c_X6_its l E D C e0 e1 e2 e3 e4 e5 e6 e7 e8 e9 e10 e11 e12 e13 e14 e15 H.size v7 m_held v5 m_before m_isHeld m_tape m_taped m_token m_from m_to m_value m_isWrong m_due m_firsts m_rows m_rowN m_sortOf m_sizeOf m_numbers m_holdsWhat m_holdsWhich m_holdsMany m_bodies m_ran m_actKind m_actN m_actA m_isParted x0 2 r9 h10) (cwV 2 hts gX6_where_X6_its rfl rfl rfl hdX6_its ⟨Nat.le_of_ble_eq_true rfl, Nat.le_of_ble_eq_true rfl⟩) (kpreM hP hD hK hS hE hA 0 rfl rfl rfl) rfl rfl hl.1 rfl (lv_room (Nat.le_of_ble_eq_true rfl)) dX6_where_41 ⟨Nat.zero_le _, Nat.zero_le _⟩) hP hD hS hA rfl (fun H locs hP hD hS => ?_)
        refine lv_istore_n (lv' := [(3, .int r9), (0, .ref e0), (1, .int x0), (2, .int x1)]) hx hb dX6_where_44 rfl hl (by decide) rfl (fun ls hl => ?_)
        refine lv_aload_n hx hb dX6_where_45 rfl (lv_at hl 1 rfl) ?_
        refine va_get (D := D) (ci := 6) (v := .ref e3) (C := RX6) (T := TX6) (N := 28) hx hb hts hi_RX6 hown hK hP 0 rfl rfl 2 (by decide) (hts (.fieldLink RX6 16 "TravelMarksModel" "aside" "[I") (List.mem_of_getElem? (i := 3) rfl)) (fun _ h9 => h9) rfl dX6_where_46 ?_
        refine lv_aload_n hx hb dX6_where_49 rfl (lv_at hl 1 rfl) ?_
        refine va_get (D := D) (ci := 6) (v := .ref e1) (C := RX6) (T := TX6) (N := 28) hx hb hts hi_RX6 hown hK hP 0 rfl rfl 0 (by decide) (hts (.fieldLink RX6 7 "TravelMarksModel" "s" "[I") (List.mem_of_getElem? (i := 2) rfl)) (fun _ h9 => h9) rfl dX6_where_50 ?_
        obtain ⟨v11, h12, hf⟩ := ob1_e hf
        refine kcv (Wx := (oMM C e0 e1 e2 e3 e4 e5 e6 e7 e8 e9 e10 e11 e12 e13 e14 e15 v11 m_held v5 m_before m_isHeld m_tape m_taped m_token m_from m_to m_value m_isWrong m_due m_firsts m_rows m_rowN m_sortOf m_sizeOf m_numbers m_holdsWhat m_holdsWhich m_holdsMany m_bodies m_ran m_actKind m_actN m_actA m_isParted [])) (va_runS (As := [.ref e3, .ref e1]) (rest := []) ⟨hx, hb, hml, hown, hts⟩ (c_X6_copyRow l E D C e3 e1 H.size N v5 v7 v11 h12) (va_cwS 2 hts gX6_where_X6_copyRow rfl rfl rfl hdX6_copyRow ⟨Nat.le_of_ble_eq_true rfl, Nat.le_of_ble_eq_true rfl⟩) (kpre hP hD hK hS hE hA [3, 1] rfl rfl) rfl rfl hl.1 rfl (lv_room (Nat.le_of_ble_eq_true rfl)) dX6_where_53 ⟨Nat.zero_le _, Nat.zero_le _⟩) hP hD hS hA [3, 1] rfl rfl rfl (fun H locs hP hD hS => ?_)
        refine lv_iload_n hx hb dX6_where_56 rfl (lv_at hl 0 rfl) ?_
        cases hf
        exact kri hQ hAe hx hb hr hlocks hP hD hK hS dX6_where_57
      · replace hf := if_te c4 hf
        refine lv_iconst (v := (-1)) hx hb dX6_where_20 rfl ?_
        cases hf
        exact kri hQ hAe hx hb hr hlocks hP hD hK hS dX6_where_21
  exact main _ _ hP hD hS

