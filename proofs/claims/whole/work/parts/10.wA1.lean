def rmX1_join : Room := { frames := 0, cells := 0, slots := 0, locals := 0 }
theorem hdX1_join : yX1_join.cls = RX1 ∧ yX1_join.cls ≠ "java/lang/invoke/MethodHandle" ∧ yX1_join.cls ≠ "java/lang/invoke/VarHandle" ∧ (parseMethodDescriptor yX1_join.desc).map (fun d => d.parameters.length) = some 3 := by decide +kernel
set_option maxHeartbeats 40000000 in
set_option maxRecDepth 100000 in
theorem c_X1_join (l : Launch) (E : Nat → Nat) (D : va_G) (C : Nat → ClassId) (a0 a1 a2 a3 a4 a5 a6 : Nat) (sz : Nat) (v : PV) (x0 : Int32) (x1 : Int32) (x2 : Int32) (v' : PV) (hf : f_X1_join v x0 x1 x2 = some v') : Met l yX1_join wsX1_join rmX1_join (PC E D C [.ref a0, .int x0, .int x1, .int x2] (oPort C a0 a1 a2 a3 a4 a5 a6 v []) sz) (QV D C (oPort C a0 a1 a2 a3 a4 a5 a6 v []) (oPort C a0 a1 a2 a3 a4 a5 a6 (v') []) sz) 0 0 (va_A (oPort C a0 a1 a2 a3 a4 a5 a6 v []) sz) := by
  refine Met.ofW (cc := cX1_join) (maxL := 4) (ret := none) (by decide) rfl ?_
  intro p e s m args below meth c s₁ B hml hv
  obtain ⟨rfl, hsz, hP, hK, hD0, hE⟩ := hv
  have hx := B.exec
  have hb := B.bytes
  have hr := B.returns
  have hts := atoms_spec (ws := wsX1_join) B.pre
  have hown : s.vm.findClass RX1 = some m.cls := findClass_of_methodNamed B.named
  have hlocks := B.notSynchronized
  subst hsz
  have hi_RX1 : ∀ w ∈ wsX10, w ∈ wsX1_join := fun _ h => List.mem_cons_of_mem _ (List.mem_append_right _ h)
  have hD := hD0.self (sz := s.heap.size)
  obtain ⟨A, hAe⟩ := nm_ex (va_A (oPort C a0 a1 a2 a3 a4 a5 a6 v []) s.heap.size)
  rw [← hAe] at hD hE ⊢
  have hA : ∀ q : Nat, s.heap.size ≤ q → A q := fun q h => by rw [hAe]; exact Or.inr h
  have hS : va_S A s.heap s.heap [] := va_S.rf
  have hl := lv_entry ([.ref a0, .int x0, .int x1, .int x2]) (n := 4) (Nat.le_of_ble_eq_true rfl)
  rw [lg_entry_eq]
  generalize (lg_sl ([.ref a0, .int x0, .int x1, .int x2]) ++ List.replicate (4 - (lg_sl ([.ref a0, .int x0, .int x1, .int x2])).length) Slot.unset).toArray = ls at hl ⊢
  have hl : lv_has ls 4 [(0, .ref a0), (1, .int x0), (2, .int x1), (3, .int x2)] := hl
  obtain ⟨Q, hQ⟩ := nm_ex (MQ below (QV D C (oPort C a0 a1 a2 a3 a4 a5 a6 v []) (oPort C a0 a1 a2 a3 a4 a5 a6 (v') []) s.heap.size) (List.toArray [Value.ref a0, Value.int x0, Value.int x1, Value.int x2]) s 0 0 A)
  show W p l e (headSpec wsX1_join (rmX1_join)).room s m (List.toArray [Value.ref a0, Value.int x0, Value.int x1, Value.int x2]) below meth c s.heap [] 0 0 (MQ below (QV D C (oPort C a0 a1 a2 a3 a4 a5 a6 v []) (oPort C a0 a1 a2 a3 a4 a5 a6 (v') []) s.heap.size) (List.toArray [Value.ref a0, Value.int x0, Value.int x1, Value.int x2]) s 0 0 A) _
  rw [← hQ]
  unfold f_X1_join at hf
  have main : ∀ (H : Heap) (locs : List Loc), va_P D vwCl (oPort C a0 a1 a2 a3 a4 a5 a6 v []) H → va_D A (oPort C a0 a1 a2 a3 a4 a5 a6 v []) → va_S A s.heap H locs → W p l e (headSpec wsX1_join (rmX1_join)).room s m (List.toArray [Value.ref a0, Value.int x0, Value.int x1, Value.int x2]) below meth c H locs 0 0 Q (F0 m 0 ls []) := by
    intro H locs hP hD hS
    refine lv_aload_n hx hb dX1_join_0 rfl (lv_at hl 0 rfl) ?_
    refine va_get (D := D) (ci := 1) (v := .ref a5) (C := RX1) (T := TX1) (N := 10) hx hb hts hi_RX1 hown hK hP 0 rfl rfl 4 (by decide) (hts (.fieldLink RX1 24 "TravelMarks$Port" "first" "[I") (List.mem_of_getElem? (i := 1) rfl)) (fun _ h9 => h9) rfl dX1_join_1 ?_
    refine lv_iload_n hx hb dX1_join_4 rfl (lv_at hl 1 rfl) ?_
    refine lv_iload_n hx hb dX1_join_5 rfl (lv_at hl 2 rfl) ?_
    obtain ⟨hi1, hf⟩ := ckA_e hf
    refine va_iast hx hb hK hP hD hS 5 0 rfl rfl hi1 dX1_join_6 (fun H locs hP hD hS => ?_)
    obtain ⟨v2, ev2, hf⟩ := lj_e hf
    have hP : va_P D vwCl (oPort C a0 a1 a2 a3 a4 a5 a6 v2 []) H := by rw [ev2]; exact hP
    have hD : va_D A (oPort C a0 a1 a2 a3 a4 a5 a6 v2 []) := by rw [ev2]; exact hD
    refine lv_aload_n hx hb dX1_join_7 rfl (lv_at hl 0 rfl) ?_
    refine va_get (D := D) (ci := 1) (v := .ref a6) (C := RX1) (T := TX1) (N := 10) hx hb hts hi_RX1 hown hK hP 0 rfl rfl 5 (by decide) (hts (.fieldLink RX1 27 "TravelMarks$Port" "second" "[I") (List.mem_of_getElem? (i := 2) rfl)) (fun _ h9 => h9) rfl dX1_join_8 ?_
    refine lv_iload_n hx hb dX1_join_11 rfl (lv_at hl 1 rfl) ?_
    refine lv_iload_n hx hb dX1_join_12 rfl (lv_at hl 3 rfl) ?_
    obtain ⟨hi3, hf⟩ := ckA_e hf
    refine va_iast hx hb hK hP hD hS 6 0 rfl rfl hi3 dX1_join_13 (fun H locs hP hD hS => ?_)
    obtain ⟨v4, ev4, hf⟩ := lj_e hf
    have hP : va_P D vwCl (oPort C a0 a1 a2 a3 a4 a5 a6 v4 []) H := by rw [ev4]; exact hP
    have hD : va_D A (oPort C a0 a1 a2 a3 a4 a5 a6 v4 []) := by rw [ev4]; exact hD
    cases hf
    exact krv hQ hAe hx hb hr hlocks hP hD hK hS dX1_join_14
  exact main _ _ hP hD hS

def rmX1_clear : Room := { frames := 1, cells := 0, slots := 0, locals := 60 }
theorem hdX1_clear : yX1_clear.cls = RX1 ∧ yX1_clear.cls ≠ "java/lang/invoke/MethodHandle" ∧ yX1_clear.cls ≠ "java/lang/invoke/VarHandle" ∧ (parseMethodDescriptor yX1_clear.desc).map (fun d => d.parameters.length) = some 0 := by decide +kernel
set_option maxHeartbeats 40000000 in
set_option maxRecDepth 100000 in
theorem c_X1_clear (l : Launch) (E : Nat → Nat) (D : va_G) (C : Nat → ClassId) (a0 a1 a2 a3 a4 a5 a6 : Nat) (sz : Nat) (N : Nat) (v : PV)  (v' : PV) (hf : f_X1_clear N v = some v') : Met l yX1_clear wsX1_clear rmX1_clear (PC E D C [.ref a0] (oPort C a0 a1 a2 a3 a4 a5 a6 v []) sz) (QV D C (oPort C a0 a1 a2 a3 a4 a5 a6 v []) (oPort C a0 a1 a2 a3 a4 a5 a6 (v') []) sz) 0 0 (va_A (oPort C a0 a1 a2 a3 a4 a5 a6 v []) sz) := by
  refine Met.ofW (cc := cX1_clear) (maxL := 2) (ret := none) (by decide) rfl ?_
  intro p e s m args below meth c s₁ B hml hv
  obtain ⟨rfl, hsz, hP, hK, hD0, hE⟩ := hv
  have hx := B.exec
  have hb := B.bytes
  have hr := B.returns
  have hts := atoms_spec (ws := wsX1_clear) B.pre
  have hown : s.vm.findClass RX1 = some m.cls := findClass_of_methodNamed B.named
  have hlocks := B.notSynchronized
  subst hsz
  have hi_RX1 : ∀ w ∈ wsX10, w ∈ wsX1_clear := fun _ h => List.mem_cons_of_mem _ (List.mem_append_right _ h)
  have hD := hD0.self (sz := s.heap.size)
  obtain ⟨A, hAe⟩ := nm_ex (va_A (oPort C a0 a1 a2 a3 a4 a5 a6 v []) s.heap.size)
  rw [← hAe] at hD hE ⊢
  have hA : ∀ q : Nat, s.heap.size ≤ q → A q := fun q h => by rw [hAe]; exact Or.inr h
  have hS : va_S A s.heap s.heap [] := va_S.rf
  have hl := lv_entry ([.ref a0]) (n := 2) (Nat.le_of_ble_eq_true rfl)
  rw [lg_entry_eq]
  generalize (lg_sl ([.ref a0]) ++ List.replicate (2 - (lg_sl ([.ref a0])).length) Slot.unset).toArray = ls at hl ⊢
  have hl : lv_has ls 2 [(0, .ref a0)] := hl
  obtain ⟨Q, hQ⟩ := nm_ex (MQ below (QV D C (oPort C a0 a1 a2 a3 a4 a5 a6 v []) (oPort C a0 a1 a2 a3 a4 a5 a6 (v') []) s.heap.size) (List.toArray [Value.ref a0]) s 0 0 A)
  show W p l e (headSpec wsX1_clear (rmX1_clear)).room s m (List.toArray [Value.ref a0]) below meth c s.heap [] 0 0 (MQ below (QV D C (oPort C a0 a1 a2 a3 a4 a5 a6 v []) (oPort C a0 a1 a2 a3 a4 a5 a6 (v') []) s.heap.size) (List.toArray [Value.ref a0]) s 0 0 A) _
  rw [← hQ]
  unfold f_X1_clear at hf
  have main : ∀ (H : Heap) (locs : List Loc), va_P D vwCl (oPort C a0 a1 a2 a3 a4 a5 a6 v []) H → va_D A (oPort C a0 a1 a2 a3 a4 a5 a6 v []) → va_S A s.heap H locs → W p l e (headSpec wsX1_clear (rmX1_clear)).room s m (List.toArray [Value.ref a0]) below meth c H locs 0 0 Q (F0 m 0 ls []) := by
    intro H locs hP hD hS
    refine va_getsN hx hb (tZ2 hE) hS hown ((hE.1.1 _ (List.mem_of_getElem? (i := 2) rfl)).use rfl) (fun _ h9 => h9) dX1_clear_0 ?_
    refine lv_iconst (v := 0) hx hb dX1_clear_3 rfl ?_
    refine lv_aload_n hx hb dX1_clear_4 rfl (lv_at hl 0 rfl) ?_
    refine va_get (D := D) (ci := 1) (v := .ref a1) (C := RX1) (T := TX1) (N := 10) hx hb hts hi_RX1 hown hK hP 0 rfl rfl 0 (by decide) (hts (.fieldLink RX1 9 "TravelMarks$Port" "laws" "[I") (List.mem_of_getElem? (i := 1) rfl)) (fun _ h9 => h9) rfl dX1_clear_5 ?_
    refine lv_iconst (v := 0) hx hb dX1_clear_8 rfl ?_
    refine lv_iconst (v := 4) hx hb dX1_clear_9 rfl ?_
    refine my_copyt hx hb (by rw [hml]; exact hl.1.symm) hown (hts (.methodLink RX1 40 arraycopyName) (List.mem_of_getElem? (i := 2) rfl)) (hts (.native arraycopyName) (List.mem_of_getElem? (i := 3) rfl)) (hts (.static arraycopyName) (List.mem_of_getElem? (i := 4) rfl)) (hts (.initialized "java/lang/System") (List.mem_of_getElem? (i := 5) rfl)) hK hP hD hS (tT2 hE) 1 0 rfl rfl (by decide) (by decide) (by decide) (by decide) (by decide) (Nat.le_of_ble_eq_true rfl) (Nat.le_of_ble_eq_true rfl) dX1_clear_10 (fun H locs hP hD hS => ?_)
    obtain ⟨v1, ev1, hf⟩ := lj_e hf
    have hP : va_P D vwCl (oPort C a0 a1 a2 a3 a4 a5 a6 v1 []) H := by rw [ev1]; exact hP
    have hD : va_D A (oPort C a0 a1 a2 a3 a4 a5 a6 v1 []) := by rw [ev1]; exact hD
    refine lv_iconst (v := 0) hx hb dX1_clear_13 rfl ?_
    refine lv_istore_n (lv' := [(1, .int 0), (0, .ref a0)]) hx hb dX1_clear_14 rfl hl (by decide) rfl (fun ls hl => ?_)
    obtain ⟨j3, hj3, hf⟩ := lj_e hf
    have Hj3 : ∀ (v2 : PV) (H : Heap) (locs : List Loc) (ls : Array Slot), va_P D vwCl (oPort C a0 a1 a2 a3 a4 a5 a6 v2 []) H → va_D A (oPort C a0 a1 a2 a3 a4 a5 a6 v2 []) → va_S A s.heap H locs → lv_has ls 2 [(0, .ref a0)] → j3 v2 = some v' → W p l e (headSpec wsX1_clear (rmX1_clear)).room s m (List.toArray [Value.ref a0]) below meth c H locs 0 0 Q (F0 m 34 ls []) := by
      intro v2 H locs ls hP hD hS hl hf
      rw [hj3] at hf
      refine lv_aload_n hx hb dX1_clear_34 rfl (lv_at hl 0 rfl) ?_
      refine lv_iconst (v := 0) hx hb dX1_clear_35 rfl ?_
      refine va_put (D := D) (ci := 1) (v := .int 0) (ty := .int) (C := RX1) (T := TX1) (N := 10) hx hb hts hi_RX1 tyX1 tyX1_ok nmX1 hown hK hP hD hS 0 rfl rfl 6 (by decide) (hts (.fieldLink RX1 50 "TravelMarks$Port" "count" "I") (List.mem_of_getElem? (i := 6) rfl)) (fun _ h9 => h9) rfl (tyX1_ok 6 (by decide)) rfl rfl (Nat.le_of_ble_eq_true rfl) dX1_clear_36 (fun H locs hP hD hS => ?_)
      obtain ⟨v4, ev4, hf⟩ := lj_e hf
      have hP : va_P D vwCl (oPort C a0 a1 a2 a3 a4 a5 a6 v4 []) H := by rw [ev4]; exact hP
      have hD : va_D A (oPort C a0 a1 a2 a3 a4 a5 a6 v4 []) := by rw [ev4]; exact hD
      refine lv_aload_n hx hb dX1_clear_39 rfl (lv_at hl 0 rfl) ?_
      refine lv_iconst (v := 0) hx hb dX1_clear_40 rfl ?_
      refine va_put (D := D) (ci := 1) (v := .int 0) (ty := .int) (C := RX1) (T := TX1) (N := 10) hx hb hts hi_RX1 tyX1 tyX1_ok nmX1 hown hK hP hD hS 0 rfl rfl 7 (by decide) (hts (.fieldLink RX1 53 "TravelMarks$Port" "hour" "I") (List.mem_of_getElem? (i := 7) rfl)) (fun _ h9 => h9) rfl (tyX1_ok 7 (by decide)) rfl rfl (Nat.le_of_ble_eq_true rfl) dX1_clear_41 (fun H locs hP hD hS => ?_)
      obtain ⟨v5, ev5, hf⟩ := lj_e hf
      have hP : va_P D vwCl (oPort C a0 a1 a2 a3 a4 a5 a6 v5 []) H := by rw [ev5]; exact hP
      have hD : va_D A (oPort C a0 a1 a2 a3 a4 a5 a6 v5 []) := by rw [ev5]; exact hD
      cases hf
      exact krv hQ hAe hx hb hr hlocks hP hD hK hS dX1_clear_44
    have hL15 : ∀ (n : Nat) (i6 : Int32) (v7 : PV) (H : Heap) (locs : List Loc) (ls : Array Slot), va_P D vwCl (oPort C a0 a1 a2 a3 a4 a5 a6 v7 []) H → va_D A (oPort C a0 a1 a2 a3 a4 a5 a6 v7 []) → va_S A s.heap H locs → lv_has ls 2 [(1, .int i6), (0, .ref a0)] → f_X1_clear_L15 j3 n i6 v7 = some v' → W p l e (headSpec wsX1_clear (rmX1_clear)).room s m (List.toArray [Value.ref a0]) below meth c H locs 0 0 Q (F0 m 15 ls []) := by
      intro n
      induction n with
      | zero =>
        intro i6 v7 H locs ls hP hD hS hl hf
        exact absurd hf (fun h => by cases h)
      | succ n ih =>
        intro i6 v7 H locs ls hP hD hS hl hf
        rw [f_X1_clear_L15] at hf
        refine lv_iload_n hx hb dX1_clear_15 rfl (lv_at hl 0 rfl) ?_
        refine lv_bipush (v := 6) hx hb dX1_clear_16 rfl ?_
        refine lv_icmp_ge (tgt := 34) hx hb dX1_clear_18 (by decide) (fun c8 => ?_) (fun c8 => ?_)
        · replace hf := if_te c8 hf
          exact Hj3 v7 H locs ls hP hD hS (lv_sub hl [1] rfl) hf
        · replace hf := if_fe c8 hf
          refine lv_aload_n hx hb dX1_clear_21 rfl (lv_at hl 1 rfl) ?_
          refine lv_iload_n hx hb dX1_clear_22 rfl (lv_at hl 0 rfl) ?_
          refine lv_iconst (v := (-1)) hx hb dX1_clear_23 rfl ?_
          refine lv_iconst (v := (-1)) hx hb dX1_clear_24 rfl ?_
          obtain ⟨v9, h10, hf⟩ := ob1_e hf
          refine kcv (Wx := (oPort C a0 a1 a2 a3 a4 a5 a6 v9 [])) (va_runV (As := [.int i6, .int (-1), .int (-1)]) (rest := []) ⟨hx, hb, hml, hown, hts⟩ (c_X1_join l E D C a0 a1 a2 a3 a4 a5 a6 H.size v7 i6 (-1) (-1) v9 h10) (cwV 3 hts gX1_clear_X1_join rfl rfl rfl hdX1_join ⟨Nat.le_of_ble_eq_true rfl, Nat.le_of_ble_eq_true rfl⟩) (kpreV hP hD hK hS hE hA [0, 1, 2, 3, 4, 5, 6] rfl rfl 0 rfl rfl rfl) rfl rfl hl.1 rfl (lv_room (Nat.le_of_ble_eq_true rfl)) dX1_clear_25 ⟨Nat.zero_le _, Nat.zero_le _⟩) hP hD hS hA [0, 1, 2, 3, 4, 5, 6] rfl rfl rfl (fun H locs hP hD hS => ?_)
          obtain ⟨t11, et11, hf⟩ := lj_e hf
          refine lv_iinc (v := t11) (lv' := [(1, .int t11), (0, .ref a0)]) hx hb dX1_clear_28 hl (k := 0) rfl (by rw [et11]; rfl) (by decide) rfl (fun ls hl => ?_)
          refine lv_goto (tgt := 15) hx hb dX1_clear_31 (by decide) ?_
          exact ih t11 v9 H locs ls hP hD hS (lv_sub hl [0, 1] rfl) hf
    exact hL15 N 0 v1 H locs ls hP hD hS (lv_sub hl [0, 1] rfl) hf
  exact main _ _ hP hD hS

def rmX5_within : Room := { frames := 0, cells := 0, slots := 0, locals := 0 }
theorem hdX5_within : yX5_within.cls ≠ "java/lang/invoke/MethodHandle" ∧ yX5_within.cls ≠ "java/lang/invoke/VarHandle" ∧ (parseMethodDescriptor yX5_within.desc).map (fun d => d.parameters.length) = some 3 := by decide +kernel
set_option maxHeartbeats 40000000 in
set_option maxRecDepth 100000 in
theorem c_X5_within (l : Launch) (E : Nat → Nat) (D : va_G) (C : Nat → ClassId) (sz : Nat)  (x0 : Int32) (x1 : Int32) (x2 : Int32) (r : Int32) (hf : f_X5_within x0 x1 x2 = r) : Met l yX5_within wsX5_within rmX5_within (PC E D C [.int x0, .int x1, .int x2] [] sz) (QZ D C [] [] sz r) 0 0 (va_A [] sz) := by
  refine Met.ofW (cc := cX5_within) (maxL := 3) (ret := (some .boolean)) (by decide) rfl ?_
  intro p e s m args below meth c s₁ B hml hv
  obtain ⟨rfl, hsz, hP, hK, hD0, hE⟩ := hv
  have hx := B.exec
  have hb := B.bytes
  have hr := B.returns
  have hts := atoms_spec (ws := wsX5_within) B.pre
  have hown : s.vm.findClass RX5 = some m.cls := findClass_of_methodNamed B.named
  have hlocks := B.notSynchronized
  subst hsz
  have hD := hD0.self (sz := s.heap.size)
  obtain ⟨A, hAe⟩ := nm_ex (va_A [] s.heap.size)
  rw [← hAe] at hD hE ⊢
  have hA : ∀ q : Nat, s.heap.size ≤ q → A q := fun q h => by rw [hAe]; exact Or.inr h
  have hS : va_S A s.heap s.heap [] := va_S.rf
  have hl := lv_entry ([.int x0, .int x1, .int x2]) (n := 3) (Nat.le_of_ble_eq_true rfl)
  rw [lg_entry_eq]
  generalize (lg_sl ([.int x0, .int x1, .int x2]) ++ List.replicate (3 - (lg_sl ([.int x0, .int x1, .int x2])).length) Slot.unset).toArray = ls at hl ⊢
  have hl : lv_has ls 3 [(0, .int x0), (1, .int x1), (2, .int x2)] := hl
  obtain ⟨Q, hQ⟩ := nm_ex (MQ below (QZ D C [] [] s.heap.size r) (List.toArray [Value.int x0, Value.int x1, Value.int x2]) s 0 0 A)
  show W p l e (headSpec wsX5_within (rmX5_within)).room s m (List.toArray [Value.int x0, Value.int x1, Value.int x2]) below meth c s.heap [] 0 0 (MQ below (QZ D C [] [] s.heap.size r) (List.toArray [Value.int x0, Value.int x1, Value.int x2]) s 0 0 A) _
  rw [← hQ]
  unfold f_X5_within at hf
  have main : ∀ (H : Heap) (locs : List Loc), va_P D vwCl [] H → va_D A [] → va_S A s.heap H locs → W p l e (headSpec wsX5_within (rmX5_within)).room s m (List.toArray [Value.int x0, Value.int x1, Value.int x2]) below meth c H locs 0 0 Q (F0 m 0 ls []) := by
    intro H locs hP hD hS
    refine lv_iload_n hx hb dX5_within_0 rfl (lv_at hl 0 rfl) ?_
    refine lv_iload_n hx hb dX5_within_1 rfl (lv_at hl 1 rfl) ?_
    refine lv_icmp_lt (tgt := 14) hx hb dX5_within_2 (by decide) (fun c1 => ?_) (fun c1 => ?_)
    · replace hf := if_te c1 hf
      refine lv_iconst (v := 0) hx hb dX5_within_14 rfl ?_
      cases hf
      exact krz hQ hAe hx hb hr hlocks zb_0 hP hD hK hS dX5_within_15
    · replace hf := if_fe c1 hf
      refine lv_iload_n hx hb dX5_within_5 rfl (lv_at hl 0 rfl) ?_
      refine lv_iload_n hx hb dX5_within_6 rfl (lv_at hl 2 rfl) ?_
      refine lv_icmp_gt (tgt := 14) hx hb dX5_within_7 (by decide) (fun c2 => ?_) (fun c2 => ?_)
      · replace hf := if_te c2 hf
        refine lv_iconst (v := 0) hx hb dX5_within_14 rfl ?_
        cases hf
        exact krz hQ hAe hx hb hr hlocks zb_0 hP hD hK hS dX5_within_15
      · replace hf := if_fe c2 hf
        refine lv_iconst (v := 1) hx hb dX5_within_10 rfl ?_
        refine lv_goto (tgt := 15) hx hb dX5_within_11 (by decide) ?_
        cases hf
        exact krz hQ hAe hx hb hr hlocks zb_1 hP hD hK hS dX5_within_15
  exact main _ _ hP hD hS

def rmX4_take : Room := { frames := 0, cells := 0, slots := 0, locals := 0 }
theorem hdX4_take : yX4_take.cls = RX4 ∧ yX4_take.cls ≠ "java/lang/invoke/MethodHandle" ∧ yX4_take.cls ≠ "java/lang/invoke/VarHandle" ∧ (parseMethodDescriptor yX4_take.desc).map (fun d => d.parameters.length) = some 2 := by decide +kernel
set_option maxHeartbeats 40000000 in
set_option maxRecDepth 100000 in
theorem c_X4_take (l : Launch) (E : Nat → Nat) (D : va_G) (C : Nat → ClassId) (a0 a1 : Nat) (sz : Nat) (N : Nat) (v : TV) (x0 : Int64) (x1 : Int32) (r : Int32) (v' : TV) (hf : f_X4_take N v x0 x1 = some (r, v')) : Met l yX4_take wsX4_take rmX4_take (PC E D C [.ref a0, .long x0, .int x1] (oTape C a0 a1 v []) sz) (QI D C (oTape C a0 a1 v []) (oTape C a0 a1 (v') []) sz r) 0 0 (va_A (oTape C a0 a1 v []) sz) := by
  refine Met.ofW (cc := cX4_take) (maxL := 5) (ret := (some .int)) (by decide) rfl ?_
  intro p e s m args below meth c s₁ B hml hv
  obtain ⟨rfl, hsz, hP, hK, hD0, hE⟩ := hv
  have hx := B.exec
  have hb := B.bytes
  have hr := B.returns
  have hts := atoms_spec (ws := wsX4_take) B.pre
  have hown : s.vm.findClass RX4 = some m.cls := findClass_of_methodNamed B.named
  have hlocks := B.notSynchronized
  subst hsz
  have hi_RX4 : ∀ w ∈ wsX40, w ∈ wsX4_take := fun _ h => List.mem_cons_of_mem _ (List.mem_append_right _ h)
  have hD := hD0.self (sz := s.heap.size)
  obtain ⟨A, hAe⟩ := nm_ex (va_A (oTape C a0 a1 v []) s.heap.size)
  rw [← hAe] at hD hE ⊢
  have hA : ∀ q : Nat, s.heap.size ≤ q → A q := fun q h => by rw [hAe]; exact Or.inr h
  have hS : va_S A s.heap s.heap [] := va_S.rf
  have hl := lv_entry ([.ref a0, .long x0, .int x1]) (n := 5) (Nat.le_of_ble_eq_true rfl)
  rw [lg_entry_eq]
  generalize (lg_sl ([.ref a0, .long x0, .int x1]) ++ List.replicate (5 - (lg_sl ([.ref a0, .long x0, .int x1])).length) Slot.unset).toArray = ls at hl ⊢
  have hl : lv_has ls 5 [(0, .ref a0), (1, .long x0), (3, .int x1)] := hl
  obtain ⟨Q, hQ⟩ := nm_ex (MQ below (QI D C (oTape C a0 a1 v []) (oTape C a0 a1 (v') []) s.heap.size r) (List.toArray [Value.ref a0, Value.long x0, Value.int x1]) s 0 0 A)
  show W p l e (headSpec wsX4_take (rmX4_take)).room s m (List.toArray [Value.ref a0, Value.long x0, Value.int x1]) below meth c s.heap [] 0 0 (MQ below (QI D C (oTape C a0 a1 v []) (oTape C a0 a1 (v') []) s.heap.size r) (List.toArray [Value.ref a0, Value.long x0, Value.int x1]) s 0 0 A) _
  rw [← hQ]
  unfold f_X4_take at hf
  have main : ∀ (H : Heap) (locs : List Loc), va_P D vwCl (oTape C a0 a1 v []) H → va_D A (oTape C a0 a1 v []) → va_S A s.heap H locs → W p l e (headSpec wsX4_take (rmX4_take)).room s m (List.toArray [Value.ref a0, Value.long x0, Value.int x1]) below meth c H locs 0 0 Q (F0 m 0 ls []) := by
    intro H locs hP hD hS
    refine lv_aload_n hx hb dX4_take_0 rfl (lv_at hl 0 rfl) ?_
    refine va_get (D := D) (ci := 4) (v := .int (tpLength v)) (C := RX4) (T := TX4) (N := 6) hx hb hts hi_RX4 hown hK hP 0 rfl rfl 1 (by decide) (hts (.fieldLink RX4 15 "TravelMarks$Tape" "length" "I") (List.mem_of_getElem? (i := 1) rfl)) (fun _ h9 => h9) rfl dX4_take_1 ?_
    refine lv_iload_n hx hb dX4_take_4 rfl (lv_at hl 2 rfl) ?_
    refine lv_iadd hx hb dX4_take_5 ?_
    refine lv_sipush (v := 200) hx hb dX4_take_6 rfl ?_
    refine lv_icmp_le (tgt := 15) hx hb dX4_take_9 (by decide) (fun c1 => ?_) (fun c1 => ?_)
    · replace hf := if_te c1 hf
      refine lv_iconst (v := 0) hx hb dX4_take_15 rfl ?_
      refine lv_istore (lv' := [(4, .int 0), (0, .ref a0), (1, .long x0), (3, .int x1)]) hx hb dX4_take_16 hl (by decide) rfl (fun ls hl => ?_)
      obtain ⟨j3, hj3, hf⟩ := lj_e hf
      have Hj3 : ∀ (v2 : TV) (H : Heap) (locs : List Loc) (ls : Array Slot), va_P D vwCl (oTape C a0 a1 v2 []) H → va_D A (oTape C a0 a1 v2 []) → va_S A s.heap H locs → lv_has ls 5 [(0, .ref a0), (3, .int x1)] → j3 v2 = some (r, v') → W p l e (headSpec wsX4_take (rmX4_take)).room s m (List.toArray [Value.ref a0, Value.long x0, Value.int x1]) below meth c H locs 0 0 Q (F0 m 51 ls []) := by
        intro v2 H locs ls hP hD hS hl hf
        rw [hj3] at hf
        refine lv_aload_n hx hb dX4_take_51 rfl (lv_at hl 0 rfl) ?_
        refine lv_dup hx hb dX4_take_52 rfl ?_
        refine va_get (D := D) (ci := 4) (v := .int (tpLength v2)) (C := RX4) (T := TX4) (N := 6) hx hb hts hi_RX4 hown hK hP 0 rfl rfl 1 (by decide) (hts (.fieldLink RX4 15 "TravelMarks$Tape" "length" "I") (List.mem_of_getElem? (i := 1) rfl)) (fun _ h9 => h9) rfl dX4_take_53 ?_
        refine lv_iload_n hx hb dX4_take_56 rfl (lv_at hl 1 rfl) ?_
        refine lv_iadd hx hb dX4_take_57 ?_
        obtain ⟨t4, et4, hf⟩ := lj_e hf
        refine lv_ren et4 ?_
        refine va_put (D := D) (ci := 4) (v := .int t4) (ty := .int) (C := RX4) (T := TX4) (N := 6) hx hb hts hi_RX4 tyX4 tyX4_ok nmX4 hown hK hP hD hS 0 rfl rfl 1 (by decide) (hts (.fieldLink RX4 15 "TravelMarks$Tape" "length" "I") (List.mem_of_getElem? (i := 1) rfl)) (fun _ h9 => h9) rfl (tyX4_ok 1 (by decide)) rfl rfl (Nat.le_of_ble_eq_true rfl) dX4_take_58 (fun H locs hP hD hS => ?_)
        obtain ⟨v5, ev5, hf⟩ := lj_e hf
        have hP : va_P D vwCl (oTape C a0 a1 v5 []) H := by rw [ev5]; exact hP
        have hD : va_D A (oTape C a0 a1 v5 []) := by rw [ev5]; exact hD
        refine lv_aload_n hx hb dX4_take_61 rfl (lv_at hl 0 rfl) ?_
        refine va_get (D := D) (ci := 4) (v := .int (tpLength v5)) (C := RX4) (T := TX4) (N := 6) hx hb hts hi_RX4 hown hK hP 0 rfl rfl 1 (by decide) (hts (.fieldLink RX4 15 "TravelMarks$Tape" "length" "I") (List.mem_of_getElem? (i := 1) rfl)) (fun _ h9 => h9) rfl dX4_take_62 ?_
        obtain ⟨t6, et6, hf⟩ := lj_e hf
        refine lv_ren et6 ?_
        cases hf
        exact kri hQ hAe hx hb hr hlocks hP hD hK hS dX4_take_65
      have hL18 : ∀ (n : Nat) (i7 : Int32) (v8 : TV) (H : Heap) (locs : List Loc) (ls : Array Slot), va_P D vwCl (oTape C a0 a1 v8 []) H → va_D A (oTape C a0 a1 v8 []) → va_S A s.heap H locs → lv_has ls 5 [(4, .int i7), (0, .ref a0), (1, .long x0), (3, .int x1)] → f_X4_take_L18 x0 x1 j3 n i7 v8 = some (r, v') → W p l e (headSpec wsX4_take (rmX4_take)).room s m (List.toArray [Value.ref a0, Value.long x0, Value.int x1]) below meth c H locs 0 0 Q (F0 m 18 ls []) := by
        intro n
        induction n with
        | zero =>
          intro i7 v8 H locs ls hP hD hS hl hf
          exact absurd hf (fun h => by cases h)
        | succ n ih =>
          intro i7 v8 H locs ls hP hD hS hl hf
          rw [f_X4_take_L18] at hf
          refine lv_iload hx hb dX4_take_18 (lv_at hl 0 rfl) ?_
          refine lv_iload_n hx hb dX4_take_20 rfl (lv_at hl 3 rfl) ?_
          refine lv_icmp_ge (tgt := 51) hx hb dX4_take_21 (by decide) (fun c9 => ?_) (fun c9 => ?_)
          · replace hf := if_te c9 hf
            exact Hj3 v8 H locs ls hP hD hS (lv_sub hl [1, 3] rfl) hf
          · replace hf := if_fe c9 hf
            refine lv_aload_n hx hb dX4_take_24 rfl (lv_at hl 1 rfl) ?_
            refine va_get (D := D) (ci := 4) (v := .ref a1) (C := RX4) (T := TX4) (N := 6) hx hb hts hi_RX4 hown hK hP 0 rfl rfl 0 (by decide) (hts (.fieldLink RX4 11 "TravelMarks$Tape" "bytes" "[B") (List.mem_of_getElem? (i := 2) rfl)) (fun _ h9 => h9) rfl dX4_take_25 ?_
            refine lv_aload_n hx hb dX4_take_28 rfl (lv_at hl 1 rfl) ?_
            refine va_get (D := D) (ci := 4) (v := .int (tpLength v8)) (C := RX4) (T := TX4) (N := 6) hx hb hts hi_RX4 hown hK hP 0 rfl rfl 1 (by decide) (hts (.fieldLink RX4 15 "TravelMarks$Tape" "length" "I") (List.mem_of_getElem? (i := 1) rfl)) (fun _ h9 => h9) rfl dX4_take_29 ?_
            refine lv_iload hx hb dX4_take_32 (lv_at hl 0 rfl) ?_
            refine lv_iadd hx hb dX4_take_34 ?_
            refine lv_lload_n hx hb dX4_take_35 rfl (lv_at hl 2 rfl) ?_
            refine lv_bipush (v := 8) hx hb dX4_take_36 rfl ?_
            refine lv_iload hx hb dX4_take_38 (lv_at hl 0 rfl) ?_
            refine lv_imul hx hb dX4_take_40 ?_
            refine lv_lushr hx hb dX4_take_41 rfl ?_
            refine lv_l2i hx hb dX4_take_42 rfl ?_
            refine lv_i2b hx hb dX4_take_43 rfl ?_
            obtain ⟨t10, et10, hf⟩ := lj_e hf
            refine lv_ren et10 ?_
            obtain ⟨hi11, hf⟩ := ckA_e hf
            refine va_bast hx hb hK hP hD hS 1 1 rfl rfl hi11 dX4_take_44 (fun H locs hP hD hS => ?_)
            obtain ⟨v12, ev12, hf⟩ := lj_e hf
            have hP : va_P D vwCl (oTape C a0 a1 v12 []) H := by rw [ev12]; exact hP
            have hD : va_D A (oTape C a0 a1 v12 []) := by rw [ev12]; exact hD
            obtain ⟨t13, et13, hf⟩ := lj_e hf
            refine lv_iinc (v := t13) (lv' := [(4, .int t13), (0, .ref a0), (1, .long x0), (3, .int x1)]) hx hb dX4_take_45 hl (k := 0) rfl (by rw [et13]; rfl) (by decide) rfl (fun ls hl => ?_)
            refine lv_goto (tgt := 18) hx hb dX4_take_48 (by decide) ?_
            exact ih t13 v12 H locs ls hP hD hS (lv_sub hl [0, 1, 2, 3] rfl) hf
      exact hL18 N 0 v H locs ls hP hD hS (lv_sub hl [0, 1, 2, 3] rfl) hf
    · replace hf := if_fe c1 hf
      refine lv_bipush (v := (-2)) hx hb dX4_take_12 rfl ?_
      cases hf
      exact kri hQ hAe hx hb hr hlocks hP hD hK hS dX4_take_14
  exact main _ _ hP hD hS

def rmX4_isLetter : Room := { frames := 0, cells := 0, slots := 0, locals := 0 }
theorem hdX4_isLetter : yX4_isLetter.cls ≠ "java/lang/invoke/MethodHandle" ∧ yX4_isLetter.cls ≠ "java/lang/invoke/VarHandle" ∧ (parseMethodDescriptor yX4_isLetter.desc).map (fun d => d.parameters.length) = some 1 := by decide +kernel
set_option maxHeartbeats 40000000 in
set_option maxRecDepth 100000 in
theorem c_X4_isLetter (l : Launch) (E : Nat → Nat) (D : va_G) (C : Nat → ClassId) (sz : Nat)  (x0 : Int32) (r : Int32) (hf : f_X4_isLetter x0 = r) : Met l yX4_isLetter wsX4_isLetter rmX4_isLetter (PC E D C [.int x0] [] sz) (QZ D C [] [] sz r) 0 0 (va_A [] sz) := by
  refine Met.ofW (cc := cX4_isLetter) (maxL := 1) (ret := (some .boolean)) (by decide) rfl ?_
  intro p e s m args below meth c s₁ B hml hv
  obtain ⟨rfl, hsz, hP, hK, hD0, hE⟩ := hv
  have hx := B.exec
  have hb := B.bytes
  have hr := B.returns
  have hts := atoms_spec (ws := wsX4_isLetter) B.pre
  have hown : s.vm.findClass RX4 = some m.cls := findClass_of_methodNamed B.named
  have hlocks := B.notSynchronized
  subst hsz
  have hD := hD0.self (sz := s.heap.size)
  obtain ⟨A, hAe⟩ := nm_ex (va_A [] s.heap.size)
  rw [← hAe] at hD hE ⊢
  have hA : ∀ q : Nat, s.heap.size ≤ q → A q := fun q h => by rw [hAe]; exact Or.inr h
  have hS : va_S A s.heap s.heap [] := va_S.rf
  have hl := lv_entry ([.int x0]) (n := 1) (Nat.le_of_ble_eq_true rfl)
  rw [lg_entry_eq]
  generalize (lg_sl ([.int x0]) ++ List.replicate (1 - (lg_sl ([.int x0])).length) Slot.unset).toArray = ls at hl ⊢
  have hl : lv_has ls 1 [(0, .int x0)] := hl
  obtain ⟨Q, hQ⟩ := nm_ex (MQ below (QZ D C [] [] s.heap.size r) (List.toArray [Value.int x0]) s 0 0 A)
  show W p l e (headSpec wsX4_isLetter (rmX4_isLetter)).room s m (List.toArray [Value.int x0]) below meth c s.heap [] 0 0 (MQ below (QZ D C [] [] s.heap.size r) (List.toArray [Value.int x0]) s 0 0 A) _
  rw [← hQ]
  unfold f_X4_isLetter at hf
  have main : ∀ (H : Heap) (locs : List Loc), va_P D vwCl [] H → va_D A [] → va_S A s.heap H locs → W p l e (headSpec wsX4_isLetter (rmX4_isLetter)).room s m (List.toArray [Value.int x0]) below meth c H locs 0 0 Q (F0 m 0 ls []) := by
    intro H locs hP hD hS
    refine lv_iload_n hx hb dX4_isLetter_0 rfl (lv_at hl 0 rfl) ?_
    refine lv_bipush (v := 97) hx hb dX4_isLetter_1 rfl ?_
    refine lv_icmp_lt (tgt := 16) hx hb dX4_isLetter_3 (by decide) (fun c1 => ?_) (fun c1 => ?_)
    · replace hf := if_te c1 hf
      refine lv_iconst (v := 0) hx hb dX4_isLetter_16 rfl ?_
      cases hf
      exact krz hQ hAe hx hb hr hlocks zb_0 hP hD hK hS dX4_isLetter_17
    · replace hf := if_fe c1 hf
      refine lv_iload_n hx hb dX4_isLetter_6 rfl (lv_at hl 0 rfl) ?_
      refine lv_bipush (v := 122) hx hb dX4_isLetter_7 rfl ?_
      refine lv_icmp_gt (tgt := 16) hx hb dX4_isLetter_9 (by decide) (fun c2 => ?_) (fun c2 => ?_)
      · replace hf := if_te c2 hf
        refine lv_iconst (v := 0) hx hb dX4_isLetter_16 rfl ?_
        cases hf
        exact krz hQ hAe hx hb hr hlocks zb_0 hP hD hK hS dX4_isLetter_17
      · replace hf := if_fe c2 hf
        refine lv_iconst (v := 1) hx hb dX4_isLetter_12 rfl ?_
        refine lv_goto (tgt := 17) hx hb dX4_isLetter_13 (by decide) ?_
        cases hf
        exact krz hQ hAe hx hb hr hlocks zb_1 hP hD hK hS dX4_isLetter_17
  exact main _ _ hP hD hS

def rmX4_isDigit : Room := { frames := 0, cells := 0, slots := 0, locals := 0 }
theorem hdX4_isDigit : yX4_isDigit.cls ≠ "java/lang/invoke/MethodHandle" ∧ yX4_isDigit.cls ≠ "java/lang/invoke/VarHandle" ∧ (parseMethodDescriptor yX4_isDigit.desc).map (fun d => d.parameters.length) = some 1 := by decide +kernel
set_option maxHeartbeats 40000000 in
set_option maxRecDepth 100000 in
theorem c_X4_isDigit (l : Launch) (E : Nat → Nat) (D : va_G) (C : Nat → ClassId) (sz : Nat)  (x0 : Int32) (r : Int32) (hf : f_X4_isDigit x0 = r) : Met l yX4_isDigit wsX4_isDigit rmX4_isDigit (PC E D C [.int x0] [] sz) (QZ D C [] [] sz r) 0 0 (va_A [] sz) := by
  refine Met.ofW (cc := cX4_isDigit) (maxL := 1) (ret := (some .boolean)) (by decide) rfl ?_
  intro p e s m args below meth c s₁ B hml hv
  obtain ⟨rfl, hsz, hP, hK, hD0, hE⟩ := hv
  have hx := B.exec
  have hb := B.bytes
  have hr := B.returns
  have hts := atoms_spec (ws := wsX4_isDigit) B.pre
  have hown : s.vm.findClass RX4 = some m.cls := findClass_of_methodNamed B.named
  have hlocks := B.notSynchronized
  subst hsz
  have hD := hD0.self (sz := s.heap.size)
  obtain ⟨A, hAe⟩ := nm_ex (va_A [] s.heap.size)
  rw [← hAe] at hD hE ⊢
  have hA : ∀ q : Nat, s.heap.size ≤ q → A q := fun q h => by rw [hAe]; exact Or.inr h
  have hS : va_S A s.heap s.heap [] := va_S.rf
  have hl := lv_entry ([.int x0]) (n := 1) (Nat.le_of_ble_eq_true rfl)
  rw [lg_entry_eq]
  generalize (lg_sl ([.int x0]) ++ List.replicate (1 - (lg_sl ([.int x0])).length) Slot.unset).toArray = ls at hl ⊢
  have hl : lv_has ls 1 [(0, .int x0)] := hl
  obtain ⟨Q, hQ⟩ := nm_ex (MQ below (QZ D C [] [] s.heap.size r) (List.toArray [Value.int x0]) s 0 0 A)
  show W p l e (headSpec wsX4_isDigit (rmX4_isDigit)).room s m (List.toArray [Value.int x0]) below meth c s.heap [] 0 0 (MQ below (QZ D C [] [] s.heap.size r) (List.toArray [Value.int x0]) s 0 0 A) _
  rw [← hQ]
  unfold f_X4_isDigit at hf
  have main : ∀ (H : Heap) (locs : List Loc), va_P D vwCl [] H → va_D A [] → va_S A s.heap H locs → W p l e (headSpec wsX4_isDigit (rmX4_isDigit)).room s m (List.toArray [Value.int x0]) below meth c H locs 0 0 Q (F0 m 0 ls []) := by
    intro H locs hP hD hS
    refine lv_iload_n hx hb dX4_isDigit_0 rfl (lv_at hl 0 rfl) ?_
    refine lv_bipush (v := 48) hx hb dX4_isDigit_1 rfl ?_
    refine lv_icmp_lt (tgt := 16) hx hb dX4_isDigit_3 (by decide) (fun c1 => ?_) (fun c1 => ?_)
    · replace hf := if_te c1 hf
      refine lv_iconst (v := 0) hx hb dX4_isDigit_16 rfl ?_
      cases hf
      exact krz hQ hAe hx hb hr hlocks zb_0 hP hD hK hS dX4_isDigit_17
    · replace hf := if_fe c1 hf
      refine lv_iload_n hx hb dX4_isDigit_6 rfl (lv_at hl 0 rfl) ?_
      refine lv_bipush (v := 57) hx hb dX4_isDigit_7 rfl ?_
      refine lv_icmp_gt (tgt := 16) hx hb dX4_isDigit_9 (by decide) (fun c2 => ?_) (fun c2 => ?_)
      · replace hf := if_te c2 hf
        refine lv_iconst (v := 0) hx hb dX4_isDigit_16 rfl ?_
        cases hf
        exact krz hQ hAe hx hb hr hlocks zb_0 hP hD hK hS dX4_isDigit_17
      · replace hf := if_fe c2 hf
        refine lv_iconst (v := 1) hx hb dX4_isDigit_12 rfl ?_
        refine lv_goto (tgt := 17) hx hb dX4_isDigit_13 (by decide) ?_
        cases hf
        exact krz hQ hAe hx hb hr hlocks zb_1 hP hD hK hS dX4_isDigit_17
  exact main _ _ hP hD hS

def rmX4_numberTold : Room := { frames := 0, cells := 0, slots := 0, locals := 0 }
theorem hdX4_numberTold : yX4_numberTold.cls = RX4 ∧ yX4_numberTold.cls ≠ "java/lang/invoke/MethodHandle" ∧ yX4_numberTold.cls ≠ "java/lang/invoke/VarHandle" ∧ (parseMethodDescriptor yX4_numberTold.desc).map (fun d => d.parameters.length) = some 0 := by decide +kernel
set_option maxHeartbeats 40000000 in
set_option maxRecDepth 100000 in
theorem c_X4_numberTold (l : Launch) (E : Nat → Nat) (D : va_G) (C : Nat → ClassId) (a0 a1 : Nat) (sz : Nat) (N : Nat) (v : TV)  (r : Int32) (hf : f_X4_numberTold N v = some r) : Met l yX4_numberTold wsX4_numberTold rmX4_numberTold (PC E D C [.ref a0] (oTape C a0 a1 v []) sz) (QI D C (oTape C a0 a1 v []) (oTape C a0 a1 v []) sz r) 0 0 (va_A (oTape C a0 a1 v []) sz) := by
  refine Met.ofW (cc := cX4_numberTold) (maxL := 3) (ret := (some .int)) (by decide) rfl ?_
  intro p e s m args below meth c s₁ B hml hv
  obtain ⟨rfl, hsz, hP, hK, hD0, hE⟩ := hv
  have hx := B.exec
  have hb := B.bytes
  have hr := B.returns
  have hts := atoms_spec (ws := wsX4_numberTold) B.pre
  have hown : s.vm.findClass RX4 = some m.cls := findClass_of_methodNamed B.named
  have hlocks := B.notSynchronized
  subst hsz
  have hi_RX4 : ∀ w ∈ wsX40, w ∈ wsX4_numberTold := fun _ h => List.mem_cons_of_mem _ (List.mem_append_right _ h)
  have hD := hD0.self (sz := s.heap.size)
  obtain ⟨A, hAe⟩ := nm_ex (va_A (oTape C a0 a1 v []) s.heap.size)
  rw [← hAe] at hD hE ⊢
  have hA : ∀ q : Nat, s.heap.size ≤ q → A q := fun q h => by rw [hAe]; exact Or.inr h
  have hS : va_S A s.heap s.heap [] := va_S.rf
  have hl := lv_entry ([.ref a0]) (n := 3) (Nat.le_of_ble_eq_true rfl)
  rw [lg_entry_eq]
  generalize (lg_sl ([.ref a0]) ++ List.replicate (3 - (lg_sl ([.ref a0])).length) Slot.unset).toArray = ls at hl ⊢
  have hl : lv_has ls 3 [(0, .ref a0)] := hl
  obtain ⟨Q, hQ⟩ := nm_ex (MQ below (QI D C (oTape C a0 a1 v []) (oTape C a0 a1 v []) s.heap.size r) (List.toArray [Value.ref a0]) s 0 0 A)
  show W p l e (headSpec wsX4_numberTold (rmX4_numberTold)).room s m (List.toArray [Value.ref a0]) below meth c s.heap [] 0 0 (MQ below (QI D C (oTape C a0 a1 v []) (oTape C a0 a1 v []) s.heap.size r) (List.toArray [Value.ref a0]) s 0 0 A) _
  rw [← hQ]
  unfold f_X4_numberTold at hf
  have main : ∀ (H : Heap) (locs : List Loc), va_P D vwCl (oTape C a0 a1 v []) H → va_D A (oTape C a0 a1 v []) → va_S A s.heap H locs → W p l e (headSpec wsX4_numberTold (rmX4_numberTold)).room s m (List.toArray [Value.ref a0]) below meth c H locs 0 0 Q (F0 m 0 ls []) := by
    intro H locs hP hD hS
    refine lv_aload_n hx hb dX4_numberTold_0 rfl (lv_at hl 0 rfl) ?_
    refine va_get (D := D) (ci := 4) (v := .int (tpEnd v)) (C := RX4) (T := TX4) (N := 6) hx hb hts hi_RX4 hown hK hP 0 rfl rfl 4 (by decide) (hts (.fieldLink RX4 19 "TravelMarks$Tape" "end" "I") (List.mem_of_getElem? (i := 1) rfl)) (fun _ h9 => h9) rfl dX4_numberTold_1 ?_
    refine lv_aload_n hx hb dX4_numberTold_4 rfl (lv_at hl 0 rfl) ?_
    refine va_get (D := D) (ci := 4) (v := .int (tpStart v)) (C := RX4) (T := TX4) (N := 6) hx hb hts hi_RX4 hown hK hP 0 rfl rfl 3 (by decide) (hts (.fieldLink RX4 32 "TravelMarks$Tape" "start" "I") (List.mem_of_getElem? (i := 2) rfl)) (fun _ h9 => h9) rfl dX4_numberTold_5 ?_
    refine lv_isub hx hb dX4_numberTold_8 ?_
    refine lv_iconst (v := 3) hx hb dX4_numberTold_9 rfl ?_
    refine lv_icmp_le (tgt := 15) hx hb dX4_numberTold_10 (by decide) (fun c1 => ?_) (fun c1 => ?_)
    · replace hf := if_te c1 hf
      refine lv_iconst (v := 0) hx hb dX4_numberTold_15 rfl ?_
      refine lv_istore_n (lv' := [(1, .int 0), (0, .ref a0)]) hx hb dX4_numberTold_16 rfl hl (by decide) rfl (fun ls hl => ?_)
      refine lv_aload_n hx hb dX4_numberTold_17 rfl (lv_at hl 1 rfl) ?_
      refine va_get (D := D) (ci := 4) (v := .int (tpStart v)) (C := RX4) (T := TX4) (N := 6) hx hb hts hi_RX4 hown hK hP 0 rfl rfl 3 (by decide) (hts (.fieldLink RX4 32 "TravelMarks$Tape" "start" "I") (List.mem_of_getElem? (i := 2) rfl)) (fun _ h9 => h9) rfl dX4_numberTold_18 ?_
      obtain ⟨t2, et2, hf⟩ := lj_e hf
      refine lv_ren et2 ?_
      refine lv_istore_n (lv' := [(2, .int t2), (1, .int 0), (0, .ref a0)]) hx hb dX4_numberTold_21 rfl hl (by decide) rfl (fun ls hl => ?_)
      have hL22 : ∀ (n : Nat) (i3 : Int32) (i4 : Int32) (H : Heap) (locs : List Loc) (ls : Array Slot), va_P D vwCl (oTape C a0 a1 v []) H → va_D A (oTape C a0 a1 v []) → va_S A s.heap H locs → lv_has ls 3 [(2, .int i3), (1, .int i4), (0, .ref a0)] → f_X4_numberTold_L22 v n i3 i4 = some r → W p l e (headSpec wsX4_numberTold (rmX4_numberTold)).room s m (List.toArray [Value.ref a0]) below meth c H locs 0 0 Q (F0 m 22 ls []) := by
        intro n
        induction n with
        | zero =>
          intro i3 i4 H locs ls hP hD hS hl hf
          exact absurd hf (fun h => by cases h)
        | succ n ih =>
          intro i3 i4 H locs ls hP hD hS hl hf
          rw [f_X4_numberTold_L22] at hf
          refine lv_iload_n hx hb dX4_numberTold_22 rfl (lv_at hl 0 rfl) ?_
          refine lv_aload_n hx hb dX4_numberTold_23 rfl (lv_at hl 2 rfl) ?_
          refine va_get (D := D) (ci := 4) (v := .int (tpEnd v)) (C := RX4) (T := TX4) (N := 6) hx hb hts hi_RX4 hown hK hP 0 rfl rfl 4 (by decide) (hts (.fieldLink RX4 19 "TravelMarks$Tape" "end" "I") (List.mem_of_getElem? (i := 1) rfl)) (fun _ h9 => h9) rfl dX4_numberTold_24 ?_
          refine lv_icmp_ge (tgt := 51) hx hb dX4_numberTold_27 (by decide) (fun c5 => ?_) (fun c5 => ?_)
          · replace hf := if_te c5 hf
            refine lv_iload_n hx hb dX4_numberTold_51 rfl (lv_at hl 1 rfl) ?_
            cases hf
            exact kri hQ hAe hx hb hr hlocks hP hD hK hS dX4_numberTold_52
          · replace hf := if_fe c5 hf
            refine lv_iload_n hx hb dX4_numberTold_30 rfl (lv_at hl 1 rfl) ?_
            refine lv_bipush (v := 10) hx hb dX4_numberTold_31 rfl ?_
            refine lv_imul hx hb dX4_numberTold_33 ?_
            refine lv_aload_n hx hb dX4_numberTold_34 rfl (lv_at hl 2 rfl) ?_
            refine va_get (D := D) (ci := 4) (v := .ref a1) (C := RX4) (T := TX4) (N := 6) hx hb hts hi_RX4 hown hK hP 0 rfl rfl 0 (by decide) (hts (.fieldLink RX4 11 "TravelMarks$Tape" "bytes" "[B") (List.mem_of_getElem? (i := 3) rfl)) (fun _ h9 => h9) rfl dX4_numberTold_35 ?_
            refine lv_iload_n hx hb dX4_numberTold_38 rfl (lv_at hl 0 rfl) ?_
            obtain ⟨y7, ey7, hi6, hf⟩ := rdA_x hf
            refine va_bald hx hb hK hP 1 1 rfl rfl hi6 dX4_numberTold_39 ?_
            refine lv_ren ey7 ?_
            refine lv_iadd hx hb dX4_numberTold_40 ?_
            refine lv_bipush (v := 48) hx hb dX4_numberTold_41 rfl ?_
            refine lv_isub hx hb dX4_numberTold_43 ?_
            obtain ⟨t8, et8, hf⟩ := lj_e hf
            refine lv_ren et8 ?_
            refine lv_istore_n (lv' := [(1, .int t8), (2, .int i3), (0, .ref a0)]) hx hb dX4_numberTold_44 rfl hl (by decide) rfl (fun ls hl => ?_)
            obtain ⟨t9, et9, hf⟩ := lj_e hf
            refine lv_iinc (v := t9) (lv' := [(2, .int t9), (1, .int t8), (0, .ref a0)]) hx hb dX4_numberTold_45 hl (k := 1) rfl (by rw [et9]; rfl) (by decide) rfl (fun ls hl => ?_)
            refine lv_goto (tgt := 22) hx hb dX4_numberTold_48 (by decide) ?_
            exact ih t9 t8 H locs ls hP hD hS (lv_sub hl [0, 1, 2] rfl) hf
      exact hL22 N t2 0 H locs ls hP hD hS (lv_sub hl [0, 1, 2] rfl) hf
    · replace hf := if_fe c1 hf
      refine lv_iconst (v := (-1)) hx hb dX4_numberTold_13 rfl ?_
      cases hf
      exact kri hQ hAe hx hb hr hlocks hP hD hK hS dX4_numberTold_14
  exact main _ _ hP hD hS

def rmX4_next : Room := { frames := 1, cells := 0, slots := 0, locals := 22 }
theorem hdX4_next : yX4_next.cls = RX4 ∧ yX4_next.cls ≠ "java/lang/invoke/MethodHandle" ∧ yX4_next.cls ≠ "java/lang/invoke/VarHandle" ∧ (parseMethodDescriptor yX4_next.desc).map (fun d => d.parameters.length) = some 0 := by decide +kernel
set_option maxHeartbeats 40000000 in
set_option maxRecDepth 100000 in
theorem c_X4_next (l : Launch) (E : Nat → Nat) (D : va_G) (C : Nat → ClassId) (a0 a1 : Nat) (sz : Nat) (N : Nat) (v : TV)  (v' : TV) (hf : f_X4_next N v = some v') : Met l yX4_next wsX4_next rmX4_next (PC E D C [.ref a0] (oTape C a0 a1 v []) sz) (QV D C (oTape C a0 a1 v []) (oTape C a0 a1 (v') []) sz) 0 0 (va_A (oTape C a0 a1 v []) sz) := by
  refine Met.ofW (cc := cX4_next) (maxL := 1) (ret := none) (by decide) rfl ?_
  intro p e s m args below meth c s₁ B hml hv
  obtain ⟨rfl, hsz, hP, hK, hD0, hE⟩ := hv
  have hx := B.exec
  have hb := B.bytes
  have hr := B.returns
  have hts := atoms_spec (ws := wsX4_next) B.pre
  have hown : s.vm.findClass RX4 = some m.cls := findClass_of_methodNamed B.named
  have hlocks := B.notSynchronized
  subst hsz
  have hi_RX4 : ∀ w ∈ wsX40, w ∈ wsX4_next := fun _ h => List.mem_cons_of_mem _ (List.mem_append_right _ h)
  have hD := hD0.self (sz := s.heap.size)
  obtain ⟨A, hAe⟩ := nm_ex (va_A (oTape C a0 a1 v []) s.heap.size)
  rw [← hAe] at hD hE ⊢
  have hA : ∀ q : Nat, s.heap.size ≤ q → A q := fun q h => by rw [hAe]; exact Or.inr h
  have hS : va_S A s.heap s.heap [] := va_S.rf
  have hl := lv_entry ([.ref a0]) (n := 1) (Nat.le_of_ble_eq_true rfl)
  rw [lg_entry_eq]
  generalize (lg_sl ([.ref a0]) ++ List.replicate (1 - (lg_sl ([.ref a0])).length) Slot.unset).toArray = ls at hl ⊢
  have hl : lv_has ls 1 [(0, .ref a0)] := hl
  obtain ⟨Q, hQ⟩ := nm_ex (MQ below (QV D C (oTape C a0 a1 v []) (oTape C a0 a1 (v') []) s.heap.size) (List.toArray [Value.ref a0]) s 0 0 A)
  show W p l e (headSpec wsX4_next (rmX4_next)).room s m (List.toArray [Value.ref a0]) below meth c s.heap [] 0 0 (MQ below (QV D C (oTape C a0 a1 v []) (oTape C a0 a1 (v') []) s.heap.size) (List.toArray [Value.ref a0]) s 0 0 A) _
  rw [← hQ]
  unfold f_X4_next at hf
  have main : ∀ (H : Heap) (locs : List Loc), va_P D vwCl (oTape C a0 a1 v []) H → va_D A (oTape C a0 a1 v []) → va_S A s.heap H locs → W p l e (headSpec wsX4_next (rmX4_next)).room s m (List.toArray [Value.ref a0]) below meth c H locs 0 0 Q (F0 m 0 ls []) := by
    intro H locs hP hD hS
    refine lv_aload_n hx hb dX4_next_0 rfl (lv_at hl 0 rfl) ?_
    refine lv_aload_n hx hb dX4_next_1 rfl (lv_at hl 0 rfl) ?_
    refine va_get (D := D) (ci := 4) (v := .int (tpEnd v)) (C := RX4) (T := TX4) (N := 6) hx hb hts hi_RX4 hown hK hP 0 rfl rfl 4 (by decide) (hts (.fieldLink RX4 19 "TravelMarks$Tape" "end" "I") (List.mem_of_getElem? (i := 1) rfl)) (fun _ h9 => h9) rfl dX4_next_2 ?_
    obtain ⟨t1, et1, hf⟩ := lj_e hf
    refine lv_ren et1 ?_
    refine va_put (D := D) (ci := 4) (v := .int t1) (ty := .int) (C := RX4) (T := TX4) (N := 6) hx hb hts hi_RX4 tyX4 tyX4_ok nmX4 hown hK hP hD hS 0 rfl rfl 3 (by decide) (hts (.fieldLink RX4 32 "TravelMarks$Tape" "start" "I") (List.mem_of_getElem? (i := 2) rfl)) (fun _ h9 => h9) rfl (tyX4_ok 3 (by decide)) rfl rfl (Nat.le_of_ble_eq_true rfl) dX4_next_5 (fun H locs hP hD hS => ?_)
    obtain ⟨v2, ev2, hf⟩ := lj_e hf
    have hP : va_P D vwCl (oTape C a0 a1 v2 []) H := by rw [ev2]; exact hP
    have hD : va_D A (oTape C a0 a1 v2 []) := by rw [ev2]; exact hD
    obtain ⟨j4, hj4, hf⟩ := lj_e hf
    have Hj4 : ∀ (v3 : TV) (H : Heap) (locs : List Loc) (ls : Array Slot), va_P D vwCl (oTape C a0 a1 v3 []) H → va_D A (oTape C a0 a1 v3 []) → va_S A s.heap H locs → lv_has ls 1 [(0, .ref a0)] → j4 v3 = some v' → W p l e (headSpec wsX4_next (rmX4_next)).room s m (List.toArray [Value.ref a0]) below meth c H locs 0 0 Q (F0 m 46 ls []) := by
      intro v3 H locs ls hP hD hS hl hf
      rw [hj4] at hf
      refine lv_aload_n hx hb dX4_next_46 rfl (lv_at hl 0 rfl) ?_
      refine lv_aload_n hx hb dX4_next_47 rfl (lv_at hl 0 rfl) ?_
      refine va_get (D := D) (ci := 4) (v := .int (tpStart v3)) (C := RX4) (T := TX4) (N := 6) hx hb hts hi_RX4 hown hK hP 0 rfl rfl 3 (by decide) (hts (.fieldLink RX4 32 "TravelMarks$Tape" "start" "I") (List.mem_of_getElem? (i := 2) rfl)) (fun _ h9 => h9) rfl dX4_next_48 ?_
      obtain ⟨t5, et5, hf⟩ := lj_e hf
      refine lv_ren et5 ?_
      refine va_put (D := D) (ci := 4) (v := .int t5) (ty := .int) (C := RX4) (T := TX4) (N := 6) hx hb hts hi_RX4 tyX4 tyX4_ok nmX4 hown hK hP hD hS 0 rfl rfl 4 (by decide) (hts (.fieldLink RX4 19 "TravelMarks$Tape" "end" "I") (List.mem_of_getElem? (i := 1) rfl)) (fun _ h9 => h9) rfl (tyX4_ok 4 (by decide)) rfl rfl (Nat.le_of_ble_eq_true rfl) dX4_next_51 (fun H locs hP hD hS => ?_)
      obtain ⟨v6, ev6, hf⟩ := lj_e hf
      have hP : va_P D vwCl (oTape C a0 a1 v6 []) H := by rw [ev6]; exact hP
      have hD : va_D A (oTape C a0 a1 v6 []) := by rw [ev6]; exact hD
      refine lv_aload_n hx hb dX4_next_54 rfl (lv_at hl 0 rfl) ?_
      refine va_get (D := D) (ci := 4) (v := .int (tpStart v6)) (C := RX4) (T := TX4) (N := 6) hx hb hts hi_RX4 hown hK hP 0 rfl rfl 3 (by decide) (hts (.fieldLink RX4 32 "TravelMarks$Tape" "start" "I") (List.mem_of_getElem? (i := 2) rfl)) (fun _ h9 => h9) rfl dX4_next_55 ?_
      refine lv_aload_n hx hb dX4_next_58 rfl (lv_at hl 0 rfl) ?_
      refine va_get (D := D) (ci := 4) (v := .int (tpLength v6)) (C := RX4) (T := TX4) (N := 6) hx hb hts hi_RX4 hown hK hP 0 rfl rfl 1 (by decide) (hts (.fieldLink RX4 15 "TravelMarks$Tape" "length" "I") (List.mem_of_getElem? (i := 3) rfl)) (fun _ h9 => h9) rfl dX4_next_59 ?_
      refine lv_icmp_lt (tgt := 73) hx hb dX4_next_62 (by decide) (fun c7 => ?_) (fun c7 => ?_)
      · replace hf := if_te c7 hf
        refine lv_aload_n hx hb dX4_next_73 rfl (lv_at hl 0 rfl) ?_
        refine va_get (D := D) (ci := 4) (v := .ref a1) (C := RX4) (T := TX4) (N := 6) hx hb hts hi_RX4 hown hK hP 0 rfl rfl 0 (by decide) (hts (.fieldLink RX4 11 "TravelMarks$Tape" "bytes" "[B") (List.mem_of_getElem? (i := 4) rfl)) (fun _ h9 => h9) rfl dX4_next_74 ?_
        refine lv_aload_n hx hb dX4_next_77 rfl (lv_at hl 0 rfl) ?_
        refine va_get (D := D) (ci := 4) (v := .int (tpStart v6)) (C := RX4) (T := TX4) (N := 6) hx hb hts hi_RX4 hown hK hP 0 rfl rfl 3 (by decide) (hts (.fieldLink RX4 32 "TravelMarks$Tape" "start" "I") (List.mem_of_getElem? (i := 2) rfl)) (fun _ h9 => h9) rfl dX4_next_78 ?_
        obtain ⟨y9, ey9, hi8, hf⟩ := rdA_x hf
        refine va_bald hx hb hK hP 1 1 rfl rfl hi8 dX4_next_81 ?_
        refine lv_ren ey9 ?_
        refine kcz (Wx := (oTape C a0 a1 v6 [])) (va_runS (As := [.int y9]) (rest := []) ⟨hx, hb, hml, hown, hts⟩ (c_X4_isLetter l E D C H.size y9 _ rfl) (va_cwS 1 hts gX4_next_X4_isLetter rfl rfl rfl hdX4_isLetter ⟨Nat.le_of_ble_eq_true rfl, Nat.le_of_ble_eq_true rfl⟩) (kpre hP hD hK hS hE hA [] rfl rfl) rfl rfl hl.1 rfl (lv_room (Nat.le_of_ble_eq_true rfl)) dX4_next_82 ⟨Nat.zero_le _, Nat.zero_le _⟩) hP hD hS hA [] rfl rfl rfl (fun H locs hz10 hP hD hS => ?_)
        refine lv_if_eq (tgt := 132) hx hb dX4_next_85 (by decide) (fun c11 => ?_) (fun c11 => ?_)
        · replace hf := if_te c11 hf
          refine lv_aload_n hx hb dX4_next_132 rfl (lv_at hl 0 rfl) ?_
          refine va_get (D := D) (ci := 4) (v := .ref a1) (C := RX4) (T := TX4) (N := 6) hx hb hts hi_RX4 hown hK hP 0 rfl rfl 0 (by decide) (hts (.fieldLink RX4 11 "TravelMarks$Tape" "bytes" "[B") (List.mem_of_getElem? (i := 4) rfl)) (fun _ h9 => h9) rfl dX4_next_133 ?_
          refine lv_aload_n hx hb dX4_next_136 rfl (lv_at hl 0 rfl) ?_
          refine va_get (D := D) (ci := 4) (v := .int (tpStart v6)) (C := RX4) (T := TX4) (N := 6) hx hb hts hi_RX4 hown hK hP 0 rfl rfl 3 (by decide) (hts (.fieldLink RX4 32 "TravelMarks$Tape" "start" "I") (List.mem_of_getElem? (i := 2) rfl)) (fun _ h9 => h9) rfl dX4_next_137 ?_
          obtain ⟨y13, ey13, hi12, hf⟩ := rdA_x hf
          refine va_bald hx hb hK hP 1 1 rfl rfl hi12 dX4_next_140 ?_
          refine lv_ren ey13 ?_
          refine kcz (Wx := (oTape C a0 a1 v6 [])) (va_runS (As := [.int y13]) (rest := []) ⟨hx, hb, hml, hown, hts⟩ (c_X4_isDigit l E D C H.size y13 _ rfl) (va_cwS 1 hts gX4_next_X4_isDigit rfl rfl rfl hdX4_isDigit ⟨Nat.le_of_ble_eq_true rfl, Nat.le_of_ble_eq_true rfl⟩) (kpre hP hD hK hS hE hA [] rfl rfl) rfl rfl hl.1 rfl (lv_room (Nat.le_of_ble_eq_true rfl)) dX4_next_141 ⟨Nat.zero_le _, Nat.zero_le _⟩) hP hD hS hA [] rfl rfl rfl (fun H locs hz14 hP hD hS => ?_)
          refine lv_if_eq (tgt := 202) hx hb dX4_next_144 (by decide) (fun c15 => ?_) (fun c15 => ?_)
          · replace hf := if_te c15 hf
            refine lv_aload_n hx hb dX4_next_202 rfl (lv_at hl 0 rfl) ?_
            refine lv_iconst (v := 3) hx hb dX4_next_203 rfl ?_
            refine va_put (D := D) (ci := 4) (v := .int 3) (ty := .int) (C := RX4) (T := TX4) (N := 6) hx hb hts hi_RX4 tyX4 tyX4_ok nmX4 hown hK hP hD hS 0 rfl rfl 2 (by decide) (hts (.fieldLink RX4 25 "TravelMarks$Tape" "token" "I") (List.mem_of_getElem? (i := 5) rfl)) (fun _ h9 => h9) rfl (tyX4_ok 2 (by decide)) rfl rfl (Nat.le_of_ble_eq_true rfl) dX4_next_204 (fun H locs hP hD hS => ?_)
            obtain ⟨v16, ev16, hf⟩ := lj_e hf
            have hP : va_P D vwCl (oTape C a0 a1 v16 []) H := by rw [ev16]; exact hP
            have hD : va_D A (oTape C a0 a1 v16 []) := by rw [ev16]; exact hD
            refine lv_aload_n hx hb dX4_next_207 rfl (lv_at hl 0 rfl) ?_
            refine lv_dup hx hb dX4_next_208 rfl ?_
            refine va_get (D := D) (ci := 4) (v := .int (tpEnd v16)) (C := RX4) (T := TX4) (N := 6) hx hb hts hi_RX4 hown hK hP 0 rfl rfl 4 (by decide) (hts (.fieldLink RX4 19 "TravelMarks$Tape" "end" "I") (List.mem_of_getElem? (i := 1) rfl)) (fun _ h9 => h9) rfl dX4_next_209 ?_
            refine lv_iconst (v := 1) hx hb dX4_next_212 rfl ?_
            refine lv_iadd hx hb dX4_next_213 ?_
            obtain ⟨t17, et17, hf⟩ := lj_e hf
            refine lv_ren et17 ?_
            refine va_put (D := D) (ci := 4) (v := .int t17) (ty := .int) (C := RX4) (T := TX4) (N := 6) hx hb hts hi_RX4 tyX4 tyX4_ok nmX4 hown hK hP hD hS 0 rfl rfl 4 (by decide) (hts (.fieldLink RX4 19 "TravelMarks$Tape" "end" "I") (List.mem_of_getElem? (i := 1) rfl)) (fun _ h9 => h9) rfl (tyX4_ok 4 (by decide)) rfl rfl (Nat.le_of_ble_eq_true rfl) dX4_next_214 (fun H locs hP hD hS => ?_)
            obtain ⟨v18, ev18, hf⟩ := lj_e hf
            have hP : va_P D vwCl (oTape C a0 a1 v18 []) H := by rw [ev18]; exact hP
            have hD : va_D A (oTape C a0 a1 v18 []) := by rw [ev18]; exact hD
            cases hf
            exact krv hQ hAe hx hb hr hlocks hP hD hK hS dX4_next_217
          · replace hf := if_fe c15 hf
            refine lv_aload_n hx hb dX4_next_147 rfl (lv_at hl 0 rfl) ?_
            refine lv_iconst (v := 2) hx hb dX4_next_148 rfl ?_
            refine va_put (D := D) (ci := 4) (v := .int 2) (ty := .int) (C := RX4) (T := TX4) (N := 6) hx hb hts hi_RX4 tyX4 tyX4_ok nmX4 hown hK hP hD hS 0 rfl rfl 2 (by decide) (hts (.fieldLink RX4 25 "TravelMarks$Tape" "token" "I") (List.mem_of_getElem? (i := 5) rfl)) (fun _ h9 => h9) rfl (tyX4_ok 2 (by decide)) rfl rfl (Nat.le_of_ble_eq_true rfl) dX4_next_149 (fun H locs hP hD hS => ?_)
            obtain ⟨v19, ev19, hf⟩ := lj_e hf
            have hP : va_P D vwCl (oTape C a0 a1 v19 []) H := by rw [ev19]; exact hP
            have hD : va_D A (oTape C a0 a1 v19 []) := by rw [ev19]; exact hD
            obtain ⟨j21, hj21, hf⟩ := lj_e hf
            have Hj21 : ∀ (v20 : TV) (H : Heap) (locs : List Loc) (ls : Array Slot), va_P D vwCl (oTape C a0 a1 v20 []) H → va_D A (oTape C a0 a1 v20 []) → va_S A s.heap H locs → lv_has ls 1 [(0, .ref a0)] → j21 v20 = some v' → W p l e (headSpec wsX4_next (rmX4_next)).room s m (List.toArray [Value.ref a0]) below meth c H locs 0 0 Q (F0 m 191 ls []) := by
              intro v20 H locs ls hP hD hS hl hf
              rw [hj21] at hf
              refine lv_aload_n hx hb dX4_next_191 rfl (lv_at hl 0 rfl) ?_
              refine lv_aload_n hx hb dX4_next_192 rfl (lv_at hl 0 rfl) ?_
              obtain ⟨r22, h23, hf⟩ := ob1_e hf
              refine kci (Wx := (oTape C a0 a1 v20 [])) (va_runV (As := []) (rest := [.ref a0]) ⟨hx, hb, hml, hown, hts⟩ (c_X4_numberTold l E D C a0 a1 H.size N v20 r22 h23) (cwV 0 hts gX4_next_X4_numberTold rfl rfl rfl hdX4_numberTold ⟨Nat.le_of_ble_eq_true rfl, Nat.le_of_ble_eq_true rfl⟩) (kpreV hP hD hK hS hE hA [0, 1] rfl rfl 0 rfl rfl rfl) rfl rfl hl.1 rfl (lv_room (Nat.le_of_ble_eq_true rfl)) dX4_next_193 ⟨Nat.zero_le _, Nat.zero_le _⟩) hP hD hS hA [0, 1] rfl rfl rfl (fun H locs hP hD hS => ?_)
              refine va_put (D := D) (ci := 4) (v := .int r22) (ty := .int) (C := RX4) (T := TX4) (N := 6) hx hb hts hi_RX4 tyX4 tyX4_ok nmX4 hown hK hP hD hS 0 rfl rfl 5 (by decide) (hts (.fieldLink RX4 46 "TravelMarks$Tape" "value" "I") (List.mem_of_getElem? (i := 6) rfl)) (fun _ h9 => h9) rfl (tyX4_ok 5 (by decide)) rfl rfl (Nat.le_of_ble_eq_true rfl) dX4_next_196 (fun H locs hP hD hS => ?_)
              obtain ⟨v24, ev24, hf⟩ := lj_e hf
              have hP : va_P D vwCl (oTape C a0 a1 v24 []) H := by rw [ev24]; exact hP
              have hD : va_D A (oTape C a0 a1 v24 []) := by rw [ev24]; exact hD
              refine lv_goto (tgt := 217) hx hb dX4_next_199 (by decide) ?_
              cases hf
              exact krv hQ hAe hx hb hr hlocks hP hD hK hS dX4_next_217
            have hL152 : ∀ (n : Nat) (v25 : TV) (H : Heap) (locs : List Loc) (ls : Array Slot), va_P D vwCl (oTape C a0 a1 v25 []) H → va_D A (oTape C a0 a1 v25 []) → va_S A s.heap H locs → lv_has ls 1 [(0, .ref a0)] → f_X4_next_L152 j21 n v25 = some v' → W p l e (headSpec wsX4_next (rmX4_next)).room s m (List.toArray [Value.ref a0]) below meth c H locs 0 0 Q (F0 m 152 ls []) := by
              intro n
              induction n with
              | zero =>
                intro v25 H locs ls hP hD hS hl hf
                exact absurd hf (fun h => by cases h)
              | succ n ih =>
                intro v25 H locs ls hP hD hS hl hf
                rw [f_X4_next_L152] at hf
                refine lv_aload_n hx hb dX4_next_152 rfl (lv_at hl 0 rfl) ?_
                refine va_get (D := D) (ci := 4) (v := .int (tpEnd v25)) (C := RX4) (T := TX4) (N := 6) hx hb hts hi_RX4 hown hK hP 0 rfl rfl 4 (by decide) (hts (.fieldLink RX4 19 "TravelMarks$Tape" "end" "I") (List.mem_of_getElem? (i := 1) rfl)) (fun _ h9 => h9) rfl dX4_next_153 ?_
                refine lv_aload_n hx hb dX4_next_156 rfl (lv_at hl 0 rfl) ?_
                refine va_get (D := D) (ci := 4) (v := .int (tpLength v25)) (C := RX4) (T := TX4) (N := 6) hx hb hts hi_RX4 hown hK hP 0 rfl rfl 1 (by decide) (hts (.fieldLink RX4 15 "TravelMarks$Tape" "length" "I") (List.mem_of_getElem? (i := 3) rfl)) (fun _ h9 => h9) rfl dX4_next_157 ?_
                refine lv_icmp_ge (tgt := 191) hx hb dX4_next_160 (by decide) (fun c26 => ?_) (fun c26 => ?_)
                · replace hf := if_te c26 hf
                  exact Hj21 v25 H locs ls hP hD hS (lv_sub hl [0] rfl) hf
                · replace hf := if_fe c26 hf
                  refine lv_aload_n hx hb dX4_next_163 rfl (lv_at hl 0 rfl) ?_
                  refine va_get (D := D) (ci := 4) (v := .ref a1) (C := RX4) (T := TX4) (N := 6) hx hb hts hi_RX4 hown hK hP 0 rfl rfl 0 (by decide) (hts (.fieldLink RX4 11 "TravelMarks$Tape" "bytes" "[B") (List.mem_of_getElem? (i := 4) rfl)) (fun _ h9 => h9) rfl dX4_next_164 ?_
                  refine lv_aload_n hx hb dX4_next_167 rfl (lv_at hl 0 rfl) ?_
                  refine va_get (D := D) (ci := 4) (v := .int (tpEnd v25)) (C := RX4) (T := TX4) (N := 6) hx hb hts hi_RX4 hown hK hP 0 rfl rfl 4 (by decide) (hts (.fieldLink RX4 19 "TravelMarks$Tape" "end" "I") (List.mem_of_getElem? (i := 1) rfl)) (fun _ h9 => h9) rfl dX4_next_168 ?_
                  obtain ⟨y28, ey28, hi27, hf⟩ := rdA_x hf
                  refine va_bald hx hb hK hP 1 1 rfl rfl hi27 dX4_next_171 ?_
                  refine lv_ren ey28 ?_
                  refine kcz (Wx := (oTape C a0 a1 v25 [])) (va_runS (As := [.int y28]) (rest := []) ⟨hx, hb, hml, hown, hts⟩ (c_X4_isDigit l E D C H.size y28 _ rfl) (va_cwS 1 hts gX4_next_X4_isDigit rfl rfl rfl hdX4_isDigit ⟨Nat.le_of_ble_eq_true rfl, Nat.le_of_ble_eq_true rfl⟩) (kpre hP hD hK hS hE hA [] rfl rfl) rfl rfl hl.1 rfl (lv_room (Nat.le_of_ble_eq_true rfl)) dX4_next_172 ⟨Nat.zero_le _, Nat.zero_le _⟩) hP hD hS hA [] rfl rfl rfl (fun H locs hz29 hP hD hS => ?_)
                  refine lv_if_eq (tgt := 191) hx hb dX4_next_175 (by decide) (fun c30 => ?_) (fun c30 => ?_)
                  · replace hf := if_te c30 hf
                    exact Hj21 v25 H locs ls hP hD hS (lv_sub hl [0] rfl) hf
                  · replace hf := if_fe c30 hf
                    refine lv_aload_n hx hb dX4_next_178 rfl (lv_at hl 0 rfl) ?_
                    refine lv_dup hx hb dX4_next_179 rfl ?_
                    refine va_get (D := D) (ci := 4) (v := .int (tpEnd v25)) (C := RX4) (T := TX4) (N := 6) hx hb hts hi_RX4 hown hK hP 0 rfl rfl 4 (by decide) (hts (.fieldLink RX4 19 "TravelMarks$Tape" "end" "I") (List.mem_of_getElem? (i := 1) rfl)) (fun _ h9 => h9) rfl dX4_next_180 ?_
                    refine lv_iconst (v := 1) hx hb dX4_next_183 rfl ?_
                    refine lv_iadd hx hb dX4_next_184 ?_
                    obtain ⟨t31, et31, hf⟩ := lj_e hf
                    refine lv_ren et31 ?_
                    refine va_put (D := D) (ci := 4) (v := .int t31) (ty := .int) (C := RX4) (T := TX4) (N := 6) hx hb hts hi_RX4 tyX4 tyX4_ok nmX4 hown hK hP hD hS 0 rfl rfl 4 (by decide) (hts (.fieldLink RX4 19 "TravelMarks$Tape" "end" "I") (List.mem_of_getElem? (i := 1) rfl)) (fun _ h9 => h9) rfl (tyX4_ok 4 (by decide)) rfl rfl (Nat.le_of_ble_eq_true rfl) dX4_next_185 (fun H locs hP hD hS => ?_)
                    obtain ⟨v32, ev32, hf⟩ := lj_e hf
                    have hP : va_P D vwCl (oTape C a0 a1 v32 []) H := by rw [ev32]; exact hP
                    have hD : va_D A (oTape C a0 a1 v32 []) := by rw [ev32]; exact hD
                    refine lv_goto (tgt := 152) hx hb dX4_next_188 (by decide) ?_
                    exact ih v32 H locs ls hP hD hS (lv_sub hl [0] rfl) hf
            exact hL152 N v19 H locs ls hP hD hS (lv_sub hl [0] rfl) hf
        · replace hf := if_fe c11 hf
          refine lv_aload_n hx hb dX4_next_88 rfl (lv_at hl 0 rfl) ?_
          refine lv_iconst (v := 1) hx hb dX4_next_89 rfl ?_
          refine va_put (D := D) (ci := 4) (v := .int 1) (ty := .int) (C := RX4) (T := TX4) (N := 6) hx hb hts hi_RX4 tyX4 tyX4_ok nmX4 hown hK hP hD hS 0 rfl rfl 2 (by decide) (hts (.fieldLink RX4 25 "TravelMarks$Tape" "token" "I") (List.mem_of_getElem? (i := 5) rfl)) (fun _ h9 => h9) rfl (tyX4_ok 2 (by decide)) rfl rfl (Nat.le_of_ble_eq_true rfl) dX4_next_90 (fun H locs hP hD hS => ?_)
          obtain ⟨v33, ev33, hf⟩ := lj_e hf
          have hP : va_P D vwCl (oTape C a0 a1 v33 []) H := by rw [ev33]; exact hP
          have hD : va_D A (oTape C a0 a1 v33 []) := by rw [ev33]; exact hD
          have hL93 : ∀ (n : Nat) (v34 : TV) (H : Heap) (locs : List Loc) (ls : Array Slot), va_P D vwCl (oTape C a0 a1 v34 []) H → va_D A (oTape C a0 a1 v34 []) → va_S A s.heap H locs → lv_has ls 1 [(0, .ref a0)] → f_X4_next_L93 n v34 = some v' → W p l e (headSpec wsX4_next (rmX4_next)).room s m (List.toArray [Value.ref a0]) below meth c H locs 0 0 Q (F0 m 93 ls []) := by
            intro n
            induction n with
            | zero =>
              intro v34 H locs ls hP hD hS hl hf
              exact absurd hf (fun h => by cases h)
            | succ n ih =>
              intro v34 H locs ls hP hD hS hl hf
              rw [f_X4_next_L93] at hf
              refine lv_aload_n hx hb dX4_next_93 rfl (lv_at hl 0 rfl) ?_
              refine va_get (D := D) (ci := 4) (v := .int (tpEnd v34)) (C := RX4) (T := TX4) (N := 6) hx hb hts hi_RX4 hown hK hP 0 rfl rfl 4 (by decide) (hts (.fieldLink RX4 19 "TravelMarks$Tape" "end" "I") (List.mem_of_getElem? (i := 1) rfl)) (fun _ h9 => h9) rfl dX4_next_94 ?_
              refine lv_aload_n hx hb dX4_next_97 rfl (lv_at hl 0 rfl) ?_
              refine va_get (D := D) (ci := 4) (v := .int (tpLength v34)) (C := RX4) (T := TX4) (N := 6) hx hb hts hi_RX4 hown hK hP 0 rfl rfl 1 (by decide) (hts (.fieldLink RX4 15 "TravelMarks$Tape" "length" "I") (List.mem_of_getElem? (i := 3) rfl)) (fun _ h9 => h9) rfl dX4_next_98 ?_
              refine lv_icmp_ge (tgt := 217) hx hb dX4_next_101 (by decide) (fun c35 => ?_) (fun c35 => ?_)
              · replace hf := if_te c35 hf
                cases hf
                exact krv hQ hAe hx hb hr hlocks hP hD hK hS dX4_next_217
              · replace hf := if_fe c35 hf
                refine lv_aload_n hx hb dX4_next_104 rfl (lv_at hl 0 rfl) ?_
                refine va_get (D := D) (ci := 4) (v := .ref a1) (C := RX4) (T := TX4) (N := 6) hx hb hts hi_RX4 hown hK hP 0 rfl rfl 0 (by decide) (hts (.fieldLink RX4 11 "TravelMarks$Tape" "bytes" "[B") (List.mem_of_getElem? (i := 4) rfl)) (fun _ h9 => h9) rfl dX4_next_105 ?_
                refine lv_aload_n hx hb dX4_next_108 rfl (lv_at hl 0 rfl) ?_
                refine va_get (D := D) (ci := 4) (v := .int (tpEnd v34)) (C := RX4) (T := TX4) (N := 6) hx hb hts hi_RX4 hown hK hP 0 rfl rfl 4 (by decide) (hts (.fieldLink RX4 19 "TravelMarks$Tape" "end" "I") (List.mem_of_getElem? (i := 1) rfl)) (fun _ h9 => h9) rfl dX4_next_109 ?_
                obtain ⟨y37, ey37, hi36, hf⟩ := rdA_x hf
                refine va_bald hx hb hK hP 1 1 rfl rfl hi36 dX4_next_112 ?_
                refine lv_ren ey37 ?_
                refine kcz (Wx := (oTape C a0 a1 v34 [])) (va_runS (As := [.int y37]) (rest := []) ⟨hx, hb, hml, hown, hts⟩ (c_X4_isLetter l E D C H.size y37 _ rfl) (va_cwS 1 hts gX4_next_X4_isLetter rfl rfl rfl hdX4_isLetter ⟨Nat.le_of_ble_eq_true rfl, Nat.le_of_ble_eq_true rfl⟩) (kpre hP hD hK hS hE hA [] rfl rfl) rfl rfl hl.1 rfl (lv_room (Nat.le_of_ble_eq_true rfl)) dX4_next_113 ⟨Nat.zero_le _, Nat.zero_le _⟩) hP hD hS hA [] rfl rfl rfl (fun H locs hz38 hP hD hS => ?_)
                refine lv_if_eq (tgt := 217) hx hb dX4_next_116 (by decide) (fun c39 => ?_) (fun c39 => ?_)
                · replace hf := if_te c39 hf
                  cases hf
                  exact krv hQ hAe hx hb hr hlocks hP hD hK hS dX4_next_217
                · replace hf := if_fe c39 hf
                  refine lv_aload_n hx hb dX4_next_119 rfl (lv_at hl 0 rfl) ?_
                  refine lv_dup hx hb dX4_next_120 rfl ?_
                  refine va_get (D := D) (ci := 4) (v := .int (tpEnd v34)) (C := RX4) (T := TX4) (N := 6) hx hb hts hi_RX4 hown hK hP 0 rfl rfl 4 (by decide) (hts (.fieldLink RX4 19 "TravelMarks$Tape" "end" "I") (List.mem_of_getElem? (i := 1) rfl)) (fun _ h9 => h9) rfl dX4_next_121 ?_
                  refine lv_iconst (v := 1) hx hb dX4_next_124 rfl ?_
                  refine lv_iadd hx hb dX4_next_125 ?_
                  obtain ⟨t40, et40, hf⟩ := lj_e hf
                  refine lv_ren et40 ?_
                  refine va_put (D := D) (ci := 4) (v := .int t40) (ty := .int) (C := RX4) (T := TX4) (N := 6) hx hb hts hi_RX4 tyX4 tyX4_ok nmX4 hown hK hP hD hS 0 rfl rfl 4 (by decide) (hts (.fieldLink RX4 19 "TravelMarks$Tape" "end" "I") (List.mem_of_getElem? (i := 1) rfl)) (fun _ h9 => h9) rfl (tyX4_ok 4 (by decide)) rfl rfl (Nat.le_of_ble_eq_true rfl) dX4_next_126 (fun H locs hP hD hS => ?_)
                  obtain ⟨v41, ev41, hf⟩ := lj_e hf
                  have hP : va_P D vwCl (oTape C a0 a1 v41 []) H := by rw [ev41]; exact hP
                  have hD : va_D A (oTape C a0 a1 v41 []) := by rw [ev41]; exact hD
                  refine lv_goto (tgt := 93) hx hb dX4_next_129 (by decide) ?_
                  exact ih v41 H locs ls hP hD hS (lv_sub hl [0] rfl) hf
          exact hL93 N v33 H locs ls hP hD hS (lv_sub hl [0] rfl) hf
      · replace hf := if_fe c7 hf
        refine lv_aload_n hx hb dX4_next_65 rfl (lv_at hl 0 rfl) ?_
        refine lv_iconst (v := 0) hx hb dX4_next_66 rfl ?_
        refine va_put (D := D) (ci := 4) (v := .int 0) (ty := .int) (C := RX4) (T := TX4) (N := 6) hx hb hts hi_RX4 tyX4 tyX4_ok nmX4 hown hK hP hD hS 0 rfl rfl 2 (by decide) (hts (.fieldLink RX4 25 "TravelMarks$Tape" "token" "I") (List.mem_of_getElem? (i := 5) rfl)) (fun _ h9 => h9) rfl (tyX4_ok 2 (by decide)) rfl rfl (Nat.le_of_ble_eq_true rfl) dX4_next_67 (fun H locs hP hD hS => ?_)
        obtain ⟨v42, ev42, hf⟩ := lj_e hf
        have hP : va_P D vwCl (oTape C a0 a1 v42 []) H := by rw [ev42]; exact hP
        have hD : va_D A (oTape C a0 a1 v42 []) := by rw [ev42]; exact hD
        refine lv_goto (tgt := 217) hx hb dX4_next_70 (by decide) ?_
        cases hf
        exact krv hQ hAe hx hb hr hlocks hP hD hK hS dX4_next_217
    have hL8 : ∀ (n : Nat) (v43 : TV) (H : Heap) (locs : List Loc) (ls : Array Slot), va_P D vwCl (oTape C a0 a1 v43 []) H → va_D A (oTape C a0 a1 v43 []) → va_S A s.heap H locs → lv_has ls 1 [(0, .ref a0)] → f_X4_next_L8 j4 n v43 = some v' → W p l e (headSpec wsX4_next (rmX4_next)).room s m (List.toArray [Value.ref a0]) below meth c H locs 0 0 Q (F0 m 8 ls []) := by
      intro n
      induction n with
      | zero =>
        intro v43 H locs ls hP hD hS hl hf
        exact absurd hf (fun h => by cases h)
      | succ n ih =>
        intro v43 H locs ls hP hD hS hl hf
        rw [f_X4_next_L8] at hf
        refine lv_aload_n hx hb dX4_next_8 rfl (lv_at hl 0 rfl) ?_
        refine va_get (D := D) (ci := 4) (v := .int (tpStart v43)) (C := RX4) (T := TX4) (N := 6) hx hb hts hi_RX4 hown hK hP 0 rfl rfl 3 (by decide) (hts (.fieldLink RX4 32 "TravelMarks$Tape" "start" "I") (List.mem_of_getElem? (i := 2) rfl)) (fun _ h9 => h9) rfl dX4_next_9 ?_
        refine lv_aload_n hx hb dX4_next_12 rfl (lv_at hl 0 rfl) ?_
        refine va_get (D := D) (ci := 4) (v := .int (tpLength v43)) (C := RX4) (T := TX4) (N := 6) hx hb hts hi_RX4 hown hK hP 0 rfl rfl 1 (by decide) (hts (.fieldLink RX4 15 "TravelMarks$Tape" "length" "I") (List.mem_of_getElem? (i := 3) rfl)) (fun _ h9 => h9) rfl dX4_next_13 ?_
        refine lv_icmp_ge (tgt := 46) hx hb dX4_next_16 (by decide) (fun c44 => ?_) (fun c44 => ?_)
        · replace hf := if_te c44 hf
          exact Hj4 v43 H locs ls hP hD hS (lv_sub hl [0] rfl) hf
        · replace hf := if_fe c44 hf
          refine lv_aload_n hx hb dX4_next_19 rfl (lv_at hl 0 rfl) ?_
          refine va_get (D := D) (ci := 4) (v := .ref a1) (C := RX4) (T := TX4) (N := 6) hx hb hts hi_RX4 hown hK hP 0 rfl rfl 0 (by decide) (hts (.fieldLink RX4 11 "TravelMarks$Tape" "bytes" "[B") (List.mem_of_getElem? (i := 4) rfl)) (fun _ h9 => h9) rfl dX4_next_20 ?_
          refine lv_aload_n hx hb dX4_next_23 rfl (lv_at hl 0 rfl) ?_
          refine va_get (D := D) (ci := 4) (v := .int (tpStart v43)) (C := RX4) (T := TX4) (N := 6) hx hb hts hi_RX4 hown hK hP 0 rfl rfl 3 (by decide) (hts (.fieldLink RX4 32 "TravelMarks$Tape" "start" "I") (List.mem_of_getElem? (i := 2) rfl)) (fun _ h9 => h9) rfl dX4_next_24 ?_
          obtain ⟨y46, ey46, hi45, hf⟩ := rdA_x hf
          refine va_bald hx hb hK hP 1 1 rfl rfl hi45 dX4_next_27 ?_
          refine lv_ren ey46 ?_
          refine lv_bipush (v := 32) hx hb dX4_next_28 rfl ?_
          refine lv_icmp_ne (tgt := 46) hx hb dX4_next_30 (by decide) (fun c47 => ?_) (fun c47 => ?_)
          · replace hf := if_fe c47 hf
            exact Hj4 v43 H locs ls hP hD hS (lv_sub hl [0] rfl) hf
          · replace hf := if_te c47 hf
            refine lv_aload_n hx hb dX4_next_33 rfl (lv_at hl 0 rfl) ?_
            refine lv_dup hx hb dX4_next_34 rfl ?_
            refine va_get (D := D) (ci := 4) (v := .int (tpStart v43)) (C := RX4) (T := TX4) (N := 6) hx hb hts hi_RX4 hown hK hP 0 rfl rfl 3 (by decide) (hts (.fieldLink RX4 32 "TravelMarks$Tape" "start" "I") (List.mem_of_getElem? (i := 2) rfl)) (fun _ h9 => h9) rfl dX4_next_35 ?_
            refine lv_iconst (v := 1) hx hb dX4_next_38 rfl ?_
            refine lv_iadd hx hb dX4_next_39 ?_
            obtain ⟨t48, et48, hf⟩ := lj_e hf
            refine lv_ren et48 ?_
            refine va_put (D := D) (ci := 4) (v := .int t48) (ty := .int) (C := RX4) (T := TX4) (N := 6) hx hb hts hi_RX4 tyX4 tyX4_ok nmX4 hown hK hP hD hS 0 rfl rfl 3 (by decide) (hts (.fieldLink RX4 32 "TravelMarks$Tape" "start" "I") (List.mem_of_getElem? (i := 2) rfl)) (fun _ h9 => h9) rfl (tyX4_ok 3 (by decide)) rfl rfl (Nat.le_of_ble_eq_true rfl) dX4_next_40 (fun H locs hP hD hS => ?_)
            obtain ⟨v49, ev49, hf⟩ := lj_e hf
            have hP : va_P D vwCl (oTape C a0 a1 v49 []) H := by rw [ev49]; exact hP
            have hD : va_D A (oTape C a0 a1 v49 []) := by rw [ev49]; exact hD
            refine lv_goto (tgt := 8) hx hb dX4_next_43 (by decide) ?_
            exact ih v49 H locs ls hP hD hS (lv_sub hl [0] rfl) hf
    exact hL8 N v2 H locs ls hP hD hS (lv_sub hl [0] rfl) hf
  exact main _ _ hP hD hS

def rmX4_readNumber : Room := { frames := 2, cells := 0, slots := 0, locals := 42 }
theorem hdX4_readNumber : yX4_readNumber.cls = RX4 ∧ yX4_readNumber.cls ≠ "java/lang/invoke/MethodHandle" ∧ yX4_readNumber.cls ≠ "java/lang/invoke/VarHandle" ∧ (parseMethodDescriptor yX4_readNumber.desc).map (fun d => d.parameters.length) = some 2 := by decide +kernel
set_option maxHeartbeats 40000000 in
set_option maxRecDepth 100000 in
theorem c_X4_readNumber (l : Launch) (E : Nat → Nat) (D : va_G) (C : Nat → ClassId) (a0 a1 : Nat) (sz : Nat) (N : Nat) (v : TV) (x0 : Int32) (x1 : Int32) (r : Int32) (v' : TV) (hf : f_X4_readNumber N v x0 x1 = some (r, v')) : Met l yX4_readNumber wsX4_readNumber rmX4_readNumber (PC E D C [.ref a0, .int x0, .int x1] (oTape C a0 a1 v []) sz) (QI D C (oTape C a0 a1 v []) (oTape C a0 a1 (v') []) sz r) 0 0 (va_A (oTape C a0 a1 v []) sz) := by
  refine Met.ofW (cc := cX4_readNumber) (maxL := 4) (ret := (some .int)) (by decide) rfl ?_
  intro p e s m args below meth c s₁ B hml hv
  obtain ⟨rfl, hsz, hP, hK, hD0, hE⟩ := hv
  have hx := B.exec
  have hb := B.bytes
  have hr := B.returns
  have hts := atoms_spec (ws := wsX4_readNumber) B.pre
  have hown : s.vm.findClass RX4 = some m.cls := findClass_of_methodNamed B.named
  have hlocks := B.notSynchronized
  subst hsz
  have hi_RX4 : ∀ w ∈ wsX40, w ∈ wsX4_readNumber := fun _ h => List.mem_cons_of_mem _ (List.mem_append_right _ h)
  have hD := hD0.self (sz := s.heap.size)
  obtain ⟨A, hAe⟩ := nm_ex (va_A (oTape C a0 a1 v []) s.heap.size)
  rw [← hAe] at hD hE ⊢
  have hA : ∀ q : Nat, s.heap.size ≤ q → A q := fun q h => by rw [hAe]; exact Or.inr h
  have hS : va_S A s.heap s.heap [] := va_S.rf
  have hl := lv_entry ([.ref a0, .int x0, .int x1]) (n := 4) (Nat.le_of_ble_eq_true rfl)
  rw [lg_entry_eq]
  generalize (lg_sl ([.ref a0, .int x0, .int x1]) ++ List.replicate (4 - (lg_sl ([.ref a0, .int x0, .int x1])).length) Slot.unset).toArray = ls at hl ⊢
  have hl : lv_has ls 4 [(0, .ref a0), (1, .int x0), (2, .int x1)] := hl
  obtain ⟨Q, hQ⟩ := nm_ex (MQ below (QI D C (oTape C a0 a1 v []) (oTape C a0 a1 (v') []) s.heap.size r) (List.toArray [Value.ref a0, Value.int x0, Value.int x1]) s 0 0 A)
  show W p l e (headSpec wsX4_readNumber (rmX4_readNumber)).room s m (List.toArray [Value.ref a0, Value.int x0, Value.int x1]) below meth c s.heap [] 0 0 (MQ below (QI D C (oTape C a0 a1 v []) (oTape C a0 a1 (v') []) s.heap.size r) (List.toArray [Value.ref a0, Value.int x0, Value.int x1]) s 0 0 A) _
  rw [← hQ]
  unfold f_X4_readNumber at hf
  have main : ∀ (H : Heap) (locs : List Loc), va_P D vwCl (oTape C a0 a1 v []) H → va_D A (oTape C a0 a1 v []) → va_S A s.heap H locs → W p l e (headSpec wsX4_readNumber (rmX4_readNumber)).room s m (List.toArray [Value.ref a0, Value.int x0, Value.int x1]) below meth c H locs 0 0 Q (F0 m 0 ls []) := by
    intro H locs hP hD hS
    refine lv_aload_n hx hb dX4_readNumber_0 rfl (lv_at hl 0 rfl) ?_
    refine va_get (D := D) (ci := 4) (v := .int (tpToken v)) (C := RX4) (T := TX4) (N := 6) hx hb hts hi_RX4 hown hK hP 0 rfl rfl 2 (by decide) (hts (.fieldLink RX4 25 "TravelMarks$Tape" "token" "I") (List.mem_of_getElem? (i := 1) rfl)) (fun _ h9 => h9) rfl dX4_readNumber_1 ?_
    refine lv_iconst (v := 2) hx hb dX4_readNumber_4 rfl ?_
    refine lv_icmp_ne (tgt := 20) hx hb dX4_readNumber_5 (by decide) (fun c1 => ?_) (fun c1 => ?_)
    · replace hf := if_fe c1 hf
      refine lv_iconst (v := (-1)) hx hb dX4_readNumber_20 rfl ?_
      cases hf
      exact kri hQ hAe hx hb hr hlocks hP hD hK hS dX4_readNumber_21
    · replace hf := if_te c1 hf
      refine lv_aload_n hx hb dX4_readNumber_8 rfl (lv_at hl 0 rfl) ?_
      refine va_get (D := D) (ci := 4) (v := .int (tpValue v)) (C := RX4) (T := TX4) (N := 6) hx hb hts hi_RX4 hown hK hP 0 rfl rfl 5 (by decide) (hts (.fieldLink RX4 46 "TravelMarks$Tape" "value" "I") (List.mem_of_getElem? (i := 2) rfl)) (fun _ h9 => h9) rfl dX4_readNumber_9 ?_
      refine lv_iload_n hx hb dX4_readNumber_12 rfl (lv_at hl 1 rfl) ?_
      refine lv_iload_n hx hb dX4_readNumber_13 rfl (lv_at hl 2 rfl) ?_
      refine kcz (Wx := (oTape C a0 a1 v [])) (va_runSN (As := [.int (tpValue v), .int x0, .int x1]) (rest := []) ⟨hx, hb, hml, hown, hts⟩ (c_X5_within l E D C H.size (tpValue v) x0 x1 _ rfl) ⟨va_cnB 3 hts gX4_readNumber_X5_within_n139 rfl rfl rfl (hE.1.2 _ (List.mem_of_getElem? (i := 0) rfl)) (hts (.initialized RX5) (List.mem_of_getElem? (i := 4) rfl)) hdX5_within ⟨Nat.le_of_ble_eq_true rfl, Nat.le_of_ble_eq_true rfl⟩, (hts (.static yX5_within) (List.mem_of_getElem? (i := 3) rfl)), trivial⟩ (kpre hP hD hK hS hE hA [] rfl rfl) rfl rfl hl.1 rfl (lv_room (Nat.le_of_ble_eq_true rfl)) dX4_readNumber_14 ⟨Nat.zero_le _, Nat.zero_le _⟩) hP hD hS hA [] rfl rfl rfl (fun H locs hz2 hP hD hS => ?_)
      refine lv_if_ne (tgt := 22) hx hb dX4_readNumber_17 (by decide) (fun c3 => ?_) (fun c3 => ?_)
      · replace hf := if_fe c3 hf
        refine lv_aload_n hx hb dX4_readNumber_22 rfl (lv_at hl 0 rfl) ?_
        refine va_get (D := D) (ci := 4) (v := .int (tpValue v)) (C := RX4) (T := TX4) (N := 6) hx hb hts hi_RX4 hown hK hP 0 rfl rfl 5 (by decide) (hts (.fieldLink RX4 46 "TravelMarks$Tape" "value" "I") (List.mem_of_getElem? (i := 2) rfl)) (fun _ h9 => h9) rfl dX4_readNumber_23 ?_
        obtain ⟨t4, et4, hf⟩ := lj_e hf
        refine lv_ren et4 ?_
        refine lv_istore_n (lv' := [(3, .int t4), (0, .ref a0), (1, .int x0), (2, .int x1)]) hx hb dX4_readNumber_26 rfl hl (by decide) rfl (fun ls hl => ?_)
        refine lv_aload_n hx hb dX4_readNumber_27 rfl (lv_at hl 1 rfl) ?_
        obtain ⟨v5, h6, hf⟩ := ob1_e hf
        refine kcv (Wx := (oTape C a0 a1 v5 [])) (va_runV (As := []) (rest := []) ⟨hx, hb, hml, hown, hts⟩ (c_X4_next l E D C a0 a1 H.size N v v5 h6) (cwV 0 hts gX4_readNumber_X4_next rfl rfl rfl hdX4_next ⟨Nat.le_of_ble_eq_true rfl, Nat.le_of_ble_eq_true rfl⟩) (kpreV hP hD hK hS hE hA [0, 1] rfl rfl 0 rfl rfl rfl) rfl rfl hl.1 rfl (lv_room (Nat.le_of_ble_eq_true rfl)) dX4_readNumber_28 ⟨Nat.zero_le _, Nat.zero_le _⟩) hP hD hS hA [0, 1] rfl rfl rfl (fun H locs hP hD hS => ?_)
        refine lv_iload_n hx hb dX4_readNumber_31 rfl (lv_at hl 0 rfl) ?_
        cases hf
        exact kri hQ hAe hx hb hr hlocks hP hD hK hS dX4_readNumber_32
      · replace hf := if_te c3 hf
        refine lv_iconst (v := (-1)) hx hb dX4_readNumber_20 rfl ?_
        cases hf
        exact kri hQ hAe hx hb hr hlocks hP hD hK hS dX4_readNumber_21
  exact main _ _ hP hD hS

def rmX4_readSign : Room := { frames := 2, cells := 0, slots := 0, locals := 42 }
theorem hdX4_readSign : yX4_readSign.cls = RX4 ∧ yX4_readSign.cls ≠ "java/lang/invoke/MethodHandle" ∧ yX4_readSign.cls ≠ "java/lang/invoke/VarHandle" ∧ (parseMethodDescriptor yX4_readSign.desc).map (fun d => d.parameters.length) = some 1 := by decide +kernel
set_option maxHeartbeats 40000000 in
set_option maxRecDepth 100000 in
theorem c_X4_readSign (l : Launch) (E : Nat → Nat) (D : va_G) (C : Nat → ClassId) (a0 a1 : Nat) (sz : Nat) (N : Nat) (v : TV) (x0 : Int32) (r : Int32) (v' : TV) (hf : f_X4_readSign N v x0 = some (r, v')) : Met l yX4_readSign wsX4_readSign rmX4_readSign (PC E D C [.ref a0, .int x0] (oTape C a0 a1 v []) sz) (QZ D C (oTape C a0 a1 v []) (oTape C a0 a1 (v') []) sz r) 0 0 (va_A (oTape C a0 a1 v []) sz) := by
  refine Met.ofW (cc := cX4_readSign) (maxL := 3) (ret := (some .boolean)) (by decide) rfl ?_
  intro p e s m args below meth c s₁ B hml hv
  obtain ⟨rfl, hsz, hP, hK, hD0, hE⟩ := hv
  have hx := B.exec
  have hb := B.bytes
  have hr := B.returns
  have hts := atoms_spec (ws := wsX4_readSign) B.pre
  have hown : s.vm.findClass RX4 = some m.cls := findClass_of_methodNamed B.named
  have hlocks := B.notSynchronized
  subst hsz
  have hi_RX4 : ∀ w ∈ wsX40, w ∈ wsX4_readSign := fun _ h => List.mem_cons_of_mem _ (List.mem_append_right _ h)
  have hD := hD0.self (sz := s.heap.size)
  obtain ⟨A, hAe⟩ := nm_ex (va_A (oTape C a0 a1 v []) s.heap.size)
  rw [← hAe] at hD hE ⊢
  have hA : ∀ q : Nat, s.heap.size ≤ q → A q := fun q h => by rw [hAe]; exact Or.inr h
  have hS : va_S A s.heap s.heap [] := va_S.rf
  have hl := lv_entry ([.ref a0, .int x0]) (n := 3) (Nat.le_of_ble_eq_true rfl)
  rw [lg_entry_eq]
  generalize (lg_sl ([.ref a0, .int x0]) ++ List.replicate (3 - (lg_sl ([.ref a0, .int x0])).length) Slot.unset).toArray = ls at hl ⊢
  have hl : lv_has ls 3 [(0, .ref a0), (1, .int x0)] := hl
  obtain ⟨Q, hQ⟩ := nm_ex (MQ below (QZ D C (oTape C a0 a1 v []) (oTape C a0 a1 (v') []) s.heap.size r) (List.toArray [Value.ref a0, Value.int x0]) s 0 0 A)
  show W p l e (headSpec wsX4_readSign (rmX4_readSign)).room s m (List.toArray [Value.ref a0, Value.int x0]) below meth c s.heap [] 0 0 (MQ below (QZ D C (oTape C a0 a1 v []) (oTape C a0 a1 (v') []) s.heap.size r) (List.toArray [Value.ref a0, Value.int x0]) s 0 0 A) _
  rw [← hQ]
  unfold f_X4_readSign at hf
  have main : ∀ (H : Heap) (locs : List Loc), va_P D vwCl (oTape C a0 a1 v []) H → va_D A (oTape C a0 a1 v []) → va_S A s.heap H locs → W p l e (headSpec wsX4_readSign (rmX4_readSign)).room s m (List.toArray [Value.ref a0, Value.int x0]) below meth c H locs 0 0 Q (F0 m 0 ls []) := by
    intro H locs hP hD hS
    refine lv_aload_n hx hb dX4_readSign_0 rfl (lv_at hl 0 rfl) ?_
    refine va_get (D := D) (ci := 4) (v := .int (tpToken v)) (C := RX4) (T := TX4) (N := 6) hx hb hts hi_RX4 hown hK hP 0 rfl rfl 2 (by decide) (hts (.fieldLink RX4 25 "TravelMarks$Tape" "token" "I") (List.mem_of_getElem? (i := 1) rfl)) (fun _ h9 => h9) rfl dX4_readSign_1 ?_
    refine lv_iconst (v := 3) hx hb dX4_readSign_4 rfl ?_
    obtain ⟨j2, hj2, hf⟩ := lj_e hf
    have Hj2 : ∀ (k1 : Int32) (H : Heap) (locs : List Loc) (ls : Array Slot), va_P D vwCl (oTape C a0 a1 v []) H → va_D A (oTape C a0 a1 v []) → va_S A s.heap H locs → lv_has ls 3 [(0, .ref a0)] → j2 k1 = some (r, v') → W p l e (headSpec wsX4_readSign (rmX4_readSign)).room s m (List.toArray [Value.ref a0, Value.int x0]) below meth c H locs 0 0 Q (F0 m 26 ls [.int k1]) := by
      intro k1 H locs ls hP hD hS hl hf
      rw [hj2] at hf
      refine lv_istore_n (lv' := [(2, .int k1), (0, .ref a0)]) hx hb dX4_readSign_26 rfl hl (by decide) rfl (fun ls hl => ?_)
      refine lv_iload_n hx hb dX4_readSign_27 rfl (lv_at hl 0 rfl) ?_
      refine lv_if_eq (tgt := 35) hx hb dX4_readSign_28 (by decide) (fun c3 => ?_) (fun c3 => ?_)
      · replace hf := if_te c3 hf
        refine lv_iload_n hx hb dX4_readSign_35 rfl (lv_at hl 0 rfl) ?_
        obtain ⟨hz4, hf⟩ := gdP_e hf
        cases hf
        exact krz hQ hAe hx hb hr hlocks (zb_of hz4) hP hD hK hS dX4_readSign_36
      · replace hf := if_fe c3 hf
        refine lv_aload_n hx hb dX4_readSign_31 rfl (lv_at hl 1 rfl) ?_
        obtain ⟨v5, h6, hf⟩ := ob1_e hf
        refine kcv (Wx := (oTape C a0 a1 v5 [])) (va_runV (As := []) (rest := []) ⟨hx, hb, hml, hown, hts⟩ (c_X4_next l E D C a0 a1 H.size N v v5 h6) (cwV 0 hts gX4_readSign_X4_next rfl rfl rfl hdX4_next ⟨Nat.le_of_ble_eq_true rfl, Nat.le_of_ble_eq_true rfl⟩) (kpreV hP hD hK hS hE hA [0, 1] rfl rfl 0 rfl rfl rfl) rfl rfl hl.1 rfl (lv_room (Nat.le_of_ble_eq_true rfl)) dX4_readSign_32 ⟨Nat.zero_le _, Nat.zero_le _⟩) hP hD hS hA [0, 1] rfl rfl rfl (fun H locs hP hD hS => ?_)
        refine lv_iload_n hx hb dX4_readSign_35 rfl (lv_at hl 0 rfl) ?_
        obtain ⟨hz7, hf⟩ := gdP_e hf
        cases hf
        exact krz hQ hAe hx hb hr hlocks (zb_of hz7) hP hD hK hS dX4_readSign_36
    obtain ⟨j8, hj8, hf⟩ := lj_e hf
    have Hj8 : ∀ (H : Heap) (locs : List Loc) (ls : Array Slot), va_P D vwCl (oTape C a0 a1 v []) H → va_D A (oTape C a0 a1 v []) → va_S A s.heap H locs → lv_has ls 3 [(0, .ref a0)] → j8 = some (r, v') → W p l e (headSpec wsX4_readSign (rmX4_readSign)).room s m (List.toArray [Value.ref a0, Value.int x0]) below meth c H locs 0 0 Q (F0 m 25 ls []) := by
      intro H locs ls hP hD hS hl hf
      rw [hj8] at hf
      refine lv_iconst (v := 0) hx hb dX4_readSign_25 rfl ?_
      exact Hj2 0 H locs ls hP hD hS (lv_sub hl [0] rfl) hf
    refine lv_icmp_ne (tgt := 25) hx hb dX4_readSign_5 (by decide) (fun c9 => ?_) (fun c9 => ?_)
    · replace hf := if_fe c9 hf
      exact Hj8 H locs ls hP hD hS (lv_sub hl [0] rfl) hf
    · replace hf := if_te c9 hf
      refine lv_aload_n hx hb dX4_readSign_8 rfl (lv_at hl 0 rfl) ?_
      refine va_get (D := D) (ci := 4) (v := .ref a1) (C := RX4) (T := TX4) (N := 6) hx hb hts hi_RX4 hown hK hP 0 rfl rfl 0 (by decide) (hts (.fieldLink RX4 11 "TravelMarks$Tape" "bytes" "[B") (List.mem_of_getElem? (i := 2) rfl)) (fun _ h9 => h9) rfl dX4_readSign_9 ?_
      refine lv_aload_n hx hb dX4_readSign_12 rfl (lv_at hl 0 rfl) ?_
      refine va_get (D := D) (ci := 4) (v := .int (tpStart v)) (C := RX4) (T := TX4) (N := 6) hx hb hts hi_RX4 hown hK hP 0 rfl rfl 3 (by decide) (hts (.fieldLink RX4 32 "TravelMarks$Tape" "start" "I") (List.mem_of_getElem? (i := 3) rfl)) (fun _ h9 => h9) rfl dX4_readSign_13 ?_
      obtain ⟨y11, ey11, hi10, hf⟩ := rdA_x hf
      refine va_bald hx hb hK hP 1 1 rfl rfl hi10 dX4_readSign_16 ?_
      refine lv_ren ey11 ?_
      refine lv_iload_n hx hb dX4_readSign_17 rfl (lv_at hl 1 rfl) ?_
      refine lv_icmp_ne (tgt := 25) hx hb dX4_readSign_18 (by decide) (fun c12 => ?_) (fun c12 => ?_)
      · replace hf := if_fe c12 hf
        exact Hj8 H locs ls hP hD hS (lv_sub hl [0] rfl) hf
      · replace hf := if_te c12 hf
        refine lv_iconst (v := 1) hx hb dX4_readSign_21 rfl ?_
        refine lv_goto (tgt := 26) hx hb dX4_readSign_22 (by decide) ?_
        exact Hj2 1 H locs ls hP hD hS (lv_sub hl [0] rfl) hf
  exact main _ _ hP hD hS

def rmX1_add : Room := { frames := 0, cells := 0, slots := 0, locals := 0 }
theorem hdX1_add : yX1_add.cls = RX1 ∧ yX1_add.cls ≠ "java/lang/invoke/MethodHandle" ∧ yX1_add.cls ≠ "java/lang/invoke/VarHandle" ∧ (parseMethodDescriptor yX1_add.desc).map (fun d => d.parameters.length) = some 3 := by decide +kernel
set_option maxHeartbeats 40000000 in
set_option maxRecDepth 100000 in
theorem c_X1_add (l : Launch) (E : Nat → Nat) (D : va_G) (C : Nat → ClassId) (a0 a1 a2 a3 a4 a5 a6 : Nat) (sz : Nat) (v : PV) (x0 : Int32) (x1 : Int32) (x2 : Int32) (r : Int32) (v' : PV) (hf : f_X1_add v x0 x1 x2 = some (r, v')) : Met l yX1_add wsX1_add rmX1_add (PC E D C [.ref a0, .int x0, .int x1, .int x2] (oPort C a0 a1 a2 a3 a4 a5 a6 v []) sz) (QZ D C (oPort C a0 a1 a2 a3 a4 a5 a6 v []) (oPort C a0 a1 a2 a3 a4 a5 a6 (v') []) sz r) 0 0 (va_A (oPort C a0 a1 a2 a3 a4 a5 a6 v []) sz) := by
  refine Met.ofW (cc := cX1_add) (maxL := 4) (ret := (some .boolean)) (by decide) rfl ?_
  intro p e s m args below meth c s₁ B hml hv
  obtain ⟨rfl, hsz, hP, hK, hD0, hE⟩ := hv
  have hx := B.exec
  have hb := B.bytes
  have hr := B.returns
  have hts := atoms_spec (ws := wsX1_add) B.pre
  have hown : s.vm.findClass RX1 = some m.cls := findClass_of_methodNamed B.named
  have hlocks := B.notSynchronized
  subst hsz
  have hi_RX1 : ∀ w ∈ wsX10, w ∈ wsX1_add := fun _ h => List.mem_cons_of_mem _ (List.mem_append_right _ h)
  have hD := hD0.self (sz := s.heap.size)
  obtain ⟨A, hAe⟩ := nm_ex (va_A (oPort C a0 a1 a2 a3 a4 a5 a6 v []) s.heap.size)
  rw [← hAe] at hD hE ⊢
  have hA : ∀ q : Nat, s.heap.size ≤ q → A q := fun q h => by rw [hAe]; exact Or.inr h
  have hS : va_S A s.heap s.heap [] := va_S.rf
  have hl := lv_entry ([.ref a0, .int x0, .int x1, .int x2]) (n := 4) (Nat.le_of_ble_eq_true rfl)
  rw [lg_entry_eq]
  generalize (lg_sl ([.ref a0, .int x0, .int x1, .int x2]) ++ List.replicate (4 - (lg_sl ([.ref a0, .int x0, .int x1, .int x2])).length) Slot.unset).toArray = ls at hl ⊢
  have hl : lv_has ls 4 [(0, .ref a0), (1, .int x0), (2, .int x1), (3, .int x2)] := hl
  obtain ⟨Q, hQ⟩ := nm_ex (MQ below (QZ D C (oPort C a0 a1 a2 a3 a4 a5 a6 v []) (oPort C a0 a1 a2 a3 a4 a5 a6 (v') []) s.heap.size r) (List.toArray [Value.ref a0, Value.int x0, Value.int x1, Value.int x2]) s 0 0 A)
  show W p l e (headSpec wsX1_add (rmX1_add)).room s m (List.toArray [Value.ref a0, Value.int x0, Value.int x1, Value.int x2]) below meth c s.heap [] 0 0 (MQ below (QZ D C (oPort C a0 a1 a2 a3 a4 a5 a6 v []) (oPort C a0 a1 a2 a3 a4 a5 a6 (v') []) s.heap.size r) (List.toArray [Value.ref a0, Value.int x0, Value.int x1, Value.int x2]) s 0 0 A) _
  rw [← hQ]
  unfold f_X1_add at hf
  have main : ∀ (H : Heap) (locs : List Loc), va_P D vwCl (oPort C a0 a1 a2 a3 a4 a5 a6 v []) H → va_D A (oPort C a0 a1 a2 a3 a4 a5 a6 v []) → va_S A s.heap H locs → W p l e (headSpec wsX1_add (rmX1_add)).room s m (List.toArray [Value.ref a0, Value.int x0, Value.int x1, Value.int x2]) below meth c H locs 0 0 Q (F0 m 0 ls []) := by
    intro H locs hP hD hS
    refine lv_aload_n hx hb dX1_add_0 rfl (lv_at hl 0 rfl) ?_
    refine va_get (D := D) (ci := 1) (v := .int (pCount v)) (C := RX1) (T := TX1) (N := 10) hx hb hts hi_RX1 hown hK hP 0 rfl rfl 6 (by decide) (hts (.fieldLink RX1 50 "TravelMarks$Port" "count" "I") (List.mem_of_getElem? (i := 1) rfl)) (fun _ h9 => h9) rfl dX1_add_1 ?_
    refine lv_bipush (v := 8) hx hb dX1_add_4 rfl ?_
    refine lv_icmp_lt (tgt := 11) hx hb dX1_add_6 (by decide) (fun c1 => ?_) (fun c1 => ?_)
    · replace hf := if_te c1 hf
      refine lv_aload_n hx hb dX1_add_11 rfl (lv_at hl 0 rfl) ?_
      refine va_get (D := D) (ci := 1) (v := .ref a2) (C := RX1) (T := TX1) (N := 10) hx hb hts hi_RX1 hown hK hP 0 rfl rfl 1 (by decide) (hts (.fieldLink RX1 15 "TravelMarks$Port" "kind" "[I") (List.mem_of_getElem? (i := 2) rfl)) (fun _ h9 => h9) rfl dX1_add_12 ?_
      refine lv_aload_n hx hb dX1_add_15 rfl (lv_at hl 0 rfl) ?_
      refine va_get (D := D) (ci := 1) (v := .int (pCount v)) (C := RX1) (T := TX1) (N := 10) hx hb hts hi_RX1 hown hK hP 0 rfl rfl 6 (by decide) (hts (.fieldLink RX1 50 "TravelMarks$Port" "count" "I") (List.mem_of_getElem? (i := 1) rfl)) (fun _ h9 => h9) rfl dX1_add_16 ?_
      refine lv_iload_n hx hb dX1_add_19 rfl (lv_at hl 1 rfl) ?_
      obtain ⟨hi2, hf⟩ := ckA_e hf
      refine va_iast hx hb hK hP hD hS 2 0 rfl rfl hi2 dX1_add_20 (fun H locs hP hD hS => ?_)
      obtain ⟨v3, ev3, hf⟩ := lj_e hf
      have hP : va_P D vwCl (oPort C a0 a1 a2 a3 a4 a5 a6 v3 []) H := by rw [ev3]; exact hP
      have hD : va_D A (oPort C a0 a1 a2 a3 a4 a5 a6 v3 []) := by rw [ev3]; exact hD
      refine lv_aload_n hx hb dX1_add_21 rfl (lv_at hl 0 rfl) ?_
      refine va_get (D := D) (ci := 1) (v := .ref a3) (C := RX1) (T := TX1) (N := 10) hx hb hts hi_RX1 hown hK hP 0 rfl rfl 2 (by decide) (hts (.fieldLink RX1 18 "TravelMarks$Port" "ink" "[I") (List.mem_of_getElem? (i := 3) rfl)) (fun _ h9 => h9) rfl dX1_add_22 ?_
      refine lv_aload_n hx hb dX1_add_25 rfl (lv_at hl 0 rfl) ?_
      refine va_get (D := D) (ci := 1) (v := .int (pCount v3)) (C := RX1) (T := TX1) (N := 10) hx hb hts hi_RX1 hown hK hP 0 rfl rfl 6 (by decide) (hts (.fieldLink RX1 50 "TravelMarks$Port" "count" "I") (List.mem_of_getElem? (i := 1) rfl)) (fun _ h9 => h9) rfl dX1_add_26 ?_
      refine lv_iload_n hx hb dX1_add_29 rfl (lv_at hl 2 rfl) ?_
      obtain ⟨hi4, hf⟩ := ckA_e hf
      refine va_iast hx hb hK hP hD hS 3 0 rfl rfl hi4 dX1_add_30 (fun H locs hP hD hS => ?_)
      obtain ⟨v5, ev5, hf⟩ := lj_e hf
      have hP : va_P D vwCl (oPort C a0 a1 a2 a3 a4 a5 a6 v5 []) H := by rw [ev5]; exact hP
      have hD : va_D A (oPort C a0 a1 a2 a3 a4 a5 a6 v5 []) := by rw [ev5]; exact hD
      refine lv_aload_n hx hb dX1_add_31 rfl (lv_at hl 0 rfl) ?_
      refine va_get (D := D) (ci := 1) (v := .ref a4) (C := RX1) (T := TX1) (N := 10) hx hb hts hi_RX1 hown hK hP 0 rfl rfl 3 (by decide) (hts (.fieldLink RX1 21 "TravelMarks$Port" "on" "[I") (List.mem_of_getElem? (i := 4) rfl)) (fun _ h9 => h9) rfl dX1_add_32 ?_
      refine lv_aload_n hx hb dX1_add_35 rfl (lv_at hl 0 rfl) ?_
      refine va_get (D := D) (ci := 1) (v := .int (pCount v5)) (C := RX1) (T := TX1) (N := 10) hx hb hts hi_RX1 hown hK hP 0 rfl rfl 6 (by decide) (hts (.fieldLink RX1 50 "TravelMarks$Port" "count" "I") (List.mem_of_getElem? (i := 1) rfl)) (fun _ h9 => h9) rfl dX1_add_36 ?_
      refine lv_iload_n hx hb dX1_add_39 rfl (lv_at hl 3 rfl) ?_
      obtain ⟨hi6, hf⟩ := ckA_e hf
      refine va_iast hx hb hK hP hD hS 4 0 rfl rfl hi6 dX1_add_40 (fun H locs hP hD hS => ?_)
      obtain ⟨v7, ev7, hf⟩ := lj_e hf
      have hP : va_P D vwCl (oPort C a0 a1 a2 a3 a4 a5 a6 v7 []) H := by rw [ev7]; exact hP
      have hD : va_D A (oPort C a0 a1 a2 a3 a4 a5 a6 v7 []) := by rw [ev7]; exact hD
      refine lv_aload_n hx hb dX1_add_41 rfl (lv_at hl 0 rfl) ?_
      refine lv_dup hx hb dX1_add_42 rfl ?_
      refine va_get (D := D) (ci := 1) (v := .int (pCount v7)) (C := RX1) (T := TX1) (N := 10) hx hb hts hi_RX1 hown hK hP 0 rfl rfl 6 (by decide) (hts (.fieldLink RX1 50 "TravelMarks$Port" "count" "I") (List.mem_of_getElem? (i := 1) rfl)) (fun _ h9 => h9) rfl dX1_add_43 ?_
      refine lv_iconst (v := 1) hx hb dX1_add_46 rfl ?_
      refine lv_iadd hx hb dX1_add_47 ?_
      obtain ⟨t8, et8, hf⟩ := lj_e hf
      refine lv_ren et8 ?_
      refine va_put (D := D) (ci := 1) (v := .int t8) (ty := .int) (C := RX1) (T := TX1) (N := 10) hx hb hts hi_RX1 tyX1 tyX1_ok nmX1 hown hK hP hD hS 0 rfl rfl 6 (by decide) (hts (.fieldLink RX1 50 "TravelMarks$Port" "count" "I") (List.mem_of_getElem? (i := 1) rfl)) (fun _ h9 => h9) rfl (tyX1_ok 6 (by decide)) rfl rfl (Nat.le_of_ble_eq_true rfl) dX1_add_48 (fun H locs hP hD hS => ?_)
      obtain ⟨v9, ev9, hf⟩ := lj_e hf
      have hP : va_P D vwCl (oPort C a0 a1 a2 a3 a4 a5 a6 v9 []) H := by rw [ev9]; exact hP
      have hD : va_D A (oPort C a0 a1 a2 a3 a4 a5 a6 v9 []) := by rw [ev9]; exact hD
      refine lv_iconst (v := 1) hx hb dX1_add_51 rfl ?_
      cases hf
      exact krz hQ hAe hx hb hr hlocks zb_1 hP hD hK hS dX1_add_52
    · replace hf := if_fe c1 hf
      refine lv_iconst (v := 0) hx hb dX1_add_9 rfl ?_
      cases hf
      exact krz hQ hAe hx hb hr hlocks zb_0 hP hD hK hS dX1_add_10
  exact main _ _ hP hD hS

def rmX4_readLaw : Room := { frames := 3, cells := 0, slots := 0, locals := 65 }
theorem hdX4_readLaw : yX4_readLaw.cls = RX4 ∧ yX4_readLaw.cls ≠ "java/lang/invoke/MethodHandle" ∧ yX4_readLaw.cls ≠ "java/lang/invoke/VarHandle" ∧ (parseMethodDescriptor yX4_readLaw.desc).map (fun d => d.parameters.length) = some 2 := by decide +kernel
set_option maxHeartbeats 40000000 in
set_option maxRecDepth 100000 in
theorem c_X4_readLaw (l : Launch) (E : Nat → Nat) (D : va_G) (C : Nat → ClassId) (a0 a1 b0_0 b0_1 b0_2 b0_3 b0_4 b0_5 b0_6 : Nat) (sz : Nat) (N : Nat) (v : TV) (w0 : PV) (x1 : Int32) (r : Int32) (v' : TV) (w0' : PV) (hf : f_X4_readLaw N v w0 x1 = some (r, v', w0')) : Met l yX4_readLaw wsX4_readLaw rmX4_readLaw (PC E D C [.ref a0, .ref b0_0, .int x1] (oTape C a0 a1 v (oPort C b0_0 b0_1 b0_2 b0_3 b0_4 b0_5 b0_6 w0 [])) sz) (QZ D C (oTape C a0 a1 v (oPort C b0_0 b0_1 b0_2 b0_3 b0_4 b0_5 b0_6 w0 [])) (oTape C a0 a1 (v') (oPort C b0_0 b0_1 b0_2 b0_3 b0_4 b0_5 b0_6 (w0') [])) sz r) 0 0 (va_A (oTape C a0 a1 v (oPort C b0_0 b0_1 b0_2 b0_3 b0_4 b0_5 b0_6 w0 [])) sz) := by
  refine Met.ofW (cc := cX4_readLaw) (maxL := 4) (ret := (some .boolean)) (by decide) rfl ?_
  intro p e s m args below meth c s₁ B hml hv
  obtain ⟨rfl, hsz, hP, hK, hD0, hE⟩ := hv
  have hx := B.exec
  have hb := B.bytes
  have hr := B.returns
  have hts := atoms_spec (ws := wsX4_readLaw) B.pre
  have hown : s.vm.findClass RX4 = some m.cls := findClass_of_methodNamed B.named
  have hlocks := B.notSynchronized
  subst hsz
  have hi_RX1 : ∀ w ∈ wsX10, w ∈ wsX4_readLaw := fun _ h => List.mem_cons_of_mem _ (List.mem_append_left _ (List.mem_append_right _ h))
  have hD := hD0.self (sz := s.heap.size)
  obtain ⟨A, hAe⟩ := nm_ex (va_A (oTape C a0 a1 v (oPort C b0_0 b0_1 b0_2 b0_3 b0_4 b0_5 b0_6 w0 [])) s.heap.size)
  rw [← hAe] at hD hE ⊢
  have hA : ∀ q : Nat, s.heap.size ≤ q → A q := fun q h => by rw [hAe]; exact Or.inr h
  have hS : va_S A s.heap s.heap [] := va_S.rf
  have hl := lv_entry ([.ref a0, .ref b0_0, .int x1]) (n := 4) (Nat.le_of_ble_eq_true rfl)
  rw [lg_entry_eq]
  generalize (lg_sl ([.ref a0, .ref b0_0, .int x1]) ++ List.replicate (4 - (lg_sl ([.ref a0, .ref b0_0, .int x1])).length) Slot.unset).toArray = ls at hl ⊢
  have hl : lv_has ls 4 [(0, .ref a0), (1, .ref b0_0), (2, .int x1)] := hl
  obtain ⟨Q, hQ⟩ := nm_ex (MQ below (QZ D C (oTape C a0 a1 v (oPort C b0_0 b0_1 b0_2 b0_3 b0_4 b0_5 b0_6 w0 [])) (oTape C a0 a1 (v') (oPort C b0_0 b0_1 b0_2 b0_3 b0_4 b0_5 b0_6 (w0') [])) s.heap.size r) (List.toArray [Value.ref a0, Value.ref b0_0, Value.int x1]) s 0 0 A)
  show W p l e (headSpec wsX4_readLaw (rmX4_readLaw)).room s m (List.toArray [Value.ref a0, Value.ref b0_0, Value.int x1]) below meth c s.heap [] 0 0 (MQ below (QZ D C (oTape C a0 a1 v (oPort C b0_0 b0_1 b0_2 b0_3 b0_4 b0_5 b0_6 w0 [])) (oTape C a0 a1 (v') (oPort C b0_0 b0_1 b0_2 b0_3 b0_4 b0_5 b0_6 (w0') [])) s.heap.size r) (List.toArray [Value.ref a0, Value.ref b0_0, Value.int x1]) s 0 0 A) _
  rw [← hQ]
  unfold f_X4_readLaw at hf
  have main : ∀ (H : Heap) (locs : List Loc), va_P D vwCl (oTape C a0 a1 v (oPort C b0_0 b0_1 b0_2 b0_3 b0_4 b0_5 b0_6 w0 [])) H → va_D A (oTape C a0 a1 v (oPort C b0_0 b0_1 b0_2 b0_3 b0_4 b0_5 b0_6 w0 [])) → va_S A s.heap H locs → W p l e (headSpec wsX4_readLaw (rmX4_readLaw)).room s m (List.toArray [Value.ref a0, Value.ref b0_0, Value.int x1]) below meth c H locs 0 0 Q (F0 m 0 ls []) := by
    intro H locs hP hD hS
    refine lv_aload_n hx hb dX4_readLaw_0 rfl (lv_at hl 0 rfl) ?_
    obtain ⟨v1, h2, hf⟩ := ob1_e hf
    refine kcv (Wx := (oTape C a0 a1 v1 (oPort C b0_0 b0_1 b0_2 b0_3 b0_4 b0_5 b0_6 w0 []))) (va_runV (As := []) (rest := []) ⟨hx, hb, hml, hown, hts⟩ (c_X4_next l E D C a0 a1 H.size N v v1 h2) (cwV 0 hts gX4_readLaw_X4_next rfl rfl rfl hdX4_next ⟨Nat.le_of_ble_eq_true rfl, Nat.le_of_ble_eq_true rfl⟩) (kpreV hP hD hK hS hE hA [0, 1] rfl rfl 0 rfl rfl rfl) rfl rfl hl.1 rfl (lv_room (Nat.le_of_ble_eq_true rfl)) dX4_readLaw_1 ⟨Nat.zero_le _, Nat.zero_le _⟩) hP hD hS hA [0, 1] rfl rfl rfl (fun H locs hP hD hS => ?_)
    refine lv_aload_n hx hb dX4_readLaw_4 rfl (lv_at hl 0 rfl) ?_
    refine va_getsN hx hb (tZ0 hE) hS hown ((hE.1.1 _ (List.mem_of_getElem? (i := 0) rfl)).use rfl) (fun _ h9 => h9) dX4_readLaw_5 ?_
    refine lv_iload_n hx hb dX4_readLaw_8 rfl (lv_at hl 2 rfl) ?_
    obtain ⟨y4, ey4, hi3, hf⟩ := rdA_x hf
    refine va_ti hx hb (tT0 hE) hS hi3 (v := .int (tbLeast (x1).toNatClampNeg)) rfl dX4_readLaw_9 ?_
    refine lv_ren ey4 ?_
    refine va_getsN hx hb (tZ1 hE) hS hown ((hE.1.1 _ (List.mem_of_getElem? (i := 1) rfl)).use rfl) (fun _ h9 => h9) dX4_readLaw_10 ?_
    refine lv_iload_n hx hb dX4_readLaw_13 rfl (lv_at hl 2 rfl) ?_
    obtain ⟨y6, ey6, hi5, hf⟩ := rdA_x hf
    refine va_ti hx hb (tT1 hE) hS hi5 (v := .int (tbMost (x1).toNatClampNeg)) rfl dX4_readLaw_14 ?_
    refine lv_ren ey6 ?_
    obtain ⟨r7, v8, h9, hf⟩ := ob2_e hf
    refine kci (Wx := (oTape C a0 a1 v8 (oPort C b0_0 b0_1 b0_2 b0_3 b0_4 b0_5 b0_6 w0 []))) (va_runV (As := [.int y4, .int y6]) (rest := []) ⟨hx, hb, hml, hown, hts⟩ (c_X4_readNumber l E D C a0 a1 H.size N v1 y4 y6 r7 v8 h9) (cwV 2 hts gX4_readLaw_X4_readNumber rfl rfl rfl hdX4_readNumber ⟨Nat.le_of_ble_eq_true rfl, Nat.le_of_ble_eq_true rfl⟩) (kpreV hP hD hK hS hE hA [0, 1] rfl rfl 0 rfl rfl rfl) rfl rfl hl.1 rfl (lv_room (Nat.le_of_ble_eq_true rfl)) dX4_readLaw_15 ⟨Nat.zero_le _, Nat.zero_le _⟩) hP hD hS hA [0, 1] rfl rfl rfl (fun H locs hP hD hS => ?_)
    refine lv_istore_n (lv' := [(3, .int r7), (0, .ref a0), (1, .ref b0_0), (2, .int x1)]) hx hb dX4_readLaw_18 rfl hl (by decide) rfl (fun ls hl => ?_)
    refine lv_iload_n hx hb dX4_readLaw_19 rfl (lv_at hl 0 rfl) ?_
    refine lv_if_lt (tgt := 32) hx hb dX4_readLaw_20 (by decide) (fun c10 => ?_) (fun c10 => ?_)
    · replace hf := if_te c10 hf
      refine lv_iconst (v := 0) hx hb dX4_readLaw_32 rfl ?_
      cases hf
      exact krz hQ hAe hx hb hr hlocks zb_0 hP hD hK hS dX4_readLaw_33
    · replace hf := if_fe c10 hf
      refine lv_aload_n hx hb dX4_readLaw_23 rfl (lv_at hl 1 rfl) ?_
      refine lv_bipush (v := 59) hx hb dX4_readLaw_24 rfl ?_
      obtain ⟨r11, v12, h13, hf⟩ := ob2_e hf
      refine kcz (Wx := (oTape C a0 a1 v12 (oPort C b0_0 b0_1 b0_2 b0_3 b0_4 b0_5 b0_6 w0 []))) (va_runV (As := [.int 59]) (rest := []) ⟨hx, hb, hml, hown, hts⟩ (c_X4_readSign l E D C a0 a1 H.size N v8 59 r11 v12 h13) (cwV 1 hts gX4_readLaw_X4_readSign rfl rfl rfl hdX4_readSign ⟨Nat.le_of_ble_eq_true rfl, Nat.le_of_ble_eq_true rfl⟩) (kpreV hP hD hK hS hE hA [0, 1] rfl rfl 0 rfl rfl rfl) rfl rfl hl.1 rfl (lv_room (Nat.le_of_ble_eq_true rfl)) dX4_readLaw_26 ⟨Nat.zero_le _, Nat.zero_le _⟩) hP hD hS hA [0, 1] rfl rfl rfl (fun H locs hz14 hP hD hS => ?_)
      refine lv_if_ne (tgt := 34) hx hb dX4_readLaw_29 (by decide) (fun c15 => ?_) (fun c15 => ?_)
      · replace hf := if_fe c15 hf
        refine lv_aload_n hx hb dX4_readLaw_34 rfl (lv_at hl 2 rfl) ?_
        refine va_get (D := D) (ci := 1) (v := .ref b0_1) (C := RX1) (T := TX1) (N := 10) hx hb hts hi_RX1 hown hK hP 2 rfl rfl 0 (by decide) (hts (.fieldLink RX4 108 "TravelMarks$Port" "laws" "[I") (List.mem_of_getElem? (i := 1) rfl)) (fun _ h9 => h9) rfl dX4_readLaw_35 ?_
        refine lv_iload_n hx hb dX4_readLaw_38 rfl (lv_at hl 3 rfl) ?_
        refine lv_iload_n hx hb dX4_readLaw_39 rfl (lv_at hl 0 rfl) ?_
        obtain ⟨hi16, hf⟩ := ckA_e hf
        refine va_iast hx hb hK hP hD hS 3 0 rfl rfl hi16 dX4_readLaw_40 (fun H locs hP hD hS => ?_)
        obtain ⟨v17, ev17, hf⟩ := lj_e hf
        have hP : va_P D vwCl (oTape C a0 a1 v12 (oPort C b0_0 b0_1 b0_2 b0_3 b0_4 b0_5 b0_6 v17 [])) H := by rw [ev17]; exact hP
        have hD : va_D A (oTape C a0 a1 v12 (oPort C b0_0 b0_1 b0_2 b0_3 b0_4 b0_5 b0_6 v17 [])) := by rw [ev17]; exact hD
        refine lv_iconst (v := 1) hx hb dX4_readLaw_41 rfl ?_
        cases hf
        exact krz hQ hAe hx hb hr hlocks zb_1 hP hD hK hS dX4_readLaw_42
      · replace hf := if_te c15 hf
        refine lv_iconst (v := 0) hx hb dX4_readLaw_32 rfl ?_
        cases hf
        exact krz hQ hAe hx hb hr hlocks zb_0 hP hD hK hS dX4_readLaw_33
  exact main _ _ hP hD hS

def rmX1_become : Room := { frames := 1, cells := 0, slots := 0, locals := 60 }
theorem hdX1_become : yX1_become.cls = RX1 ∧ yX1_become.cls ≠ "java/lang/invoke/MethodHandle" ∧ yX1_become.cls ≠ "java/lang/invoke/VarHandle" ∧ (parseMethodDescriptor yX1_become.desc).map (fun d => d.parameters.length) = some 1 := by decide +kernel
set_option maxHeartbeats 40000000 in
set_option maxRecDepth 100000 in
theorem c_X1_become (l : Launch) (E : Nat → Nat) (D : va_G) (C : Nat → ClassId) (a0 a1 a2 a3 a4 a5 a6 b0_0 b0_1 b0_2 b0_3 b0_4 b0_5 b0_6 : Nat) (sz : Nat) (v : PV) (w0 : PV)  (v' : PV) (hf : f_X1_become v w0 = some v') : Met l yX1_become wsX1_become rmX1_become (PC E D C [.ref a0, .ref b0_0] (oPort C a0 a1 a2 a3 a4 a5 a6 v (oPort C b0_0 b0_1 b0_2 b0_3 b0_4 b0_5 b0_6 w0 [])) sz) (QV D C (oPort C a0 a1 a2 a3 a4 a5 a6 v (oPort C b0_0 b0_1 b0_2 b0_3 b0_4 b0_5 b0_6 w0 [])) (oPort C a0 a1 a2 a3 a4 a5 a6 (v') (oPort C b0_0 b0_1 b0_2 b0_3 b0_4 b0_5 b0_6 w0 [])) sz) 0 0 (va_A (oPort C a0 a1 a2 a3 a4 a5 a6 v (oPort C b0_0 b0_1 b0_2 b0_3 b0_4 b0_5 b0_6 w0 [])) sz) := by
  refine Met.ofW (cc := cX1_become) (maxL := 2) (ret := none) (by decide) rfl ?_
  intro p e s m args below meth c s₁ B hml hv
  obtain ⟨rfl, hsz, hP, hK, hD0, hE⟩ := hv
  have hx := B.exec
  have hb := B.bytes
  have hr := B.returns
  have hts := atoms_spec (ws := wsX1_become) B.pre
  have hown : s.vm.findClass RX1 = some m.cls := findClass_of_methodNamed B.named
  have hlocks := B.notSynchronized
  subst hsz
  have hi_RX1 : ∀ w ∈ wsX10, w ∈ wsX1_become := fun _ h => List.mem_cons_of_mem _ (List.mem_append_right _ h)
  have hD := hD0.self (sz := s.heap.size)
  obtain ⟨A, hAe⟩ := nm_ex (va_A (oPort C a0 a1 a2 a3 a4 a5 a6 v (oPort C b0_0 b0_1 b0_2 b0_3 b0_4 b0_5 b0_6 w0 [])) s.heap.size)
  rw [← hAe] at hD hE ⊢
  have hA : ∀ q : Nat, s.heap.size ≤ q → A q := fun q h => by rw [hAe]; exact Or.inr h
  have hS : va_S A s.heap s.heap [] := va_S.rf
  have hl := lv_entry ([.ref a0, .ref b0_0]) (n := 2) (Nat.le_of_ble_eq_true rfl)
  rw [lg_entry_eq]
  generalize (lg_sl ([.ref a0, .ref b0_0]) ++ List.replicate (2 - (lg_sl ([.ref a0, .ref b0_0])).length) Slot.unset).toArray = ls at hl ⊢
  have hl : lv_has ls 2 [(0, .ref a0), (1, .ref b0_0)] := hl
  obtain ⟨Q, hQ⟩ := nm_ex (MQ below (QV D C (oPort C a0 a1 a2 a3 a4 a5 a6 v (oPort C b0_0 b0_1 b0_2 b0_3 b0_4 b0_5 b0_6 w0 [])) (oPort C a0 a1 a2 a3 a4 a5 a6 (v') (oPort C b0_0 b0_1 b0_2 b0_3 b0_4 b0_5 b0_6 w0 [])) s.heap.size) (List.toArray [Value.ref a0, Value.ref b0_0]) s 0 0 A)
  show W p l e (headSpec wsX1_become (rmX1_become)).room s m (List.toArray [Value.ref a0, Value.ref b0_0]) below meth c s.heap [] 0 0 (MQ below (QV D C (oPort C a0 a1 a2 a3 a4 a5 a6 v (oPort C b0_0 b0_1 b0_2 b0_3 b0_4 b0_5 b0_6 w0 [])) (oPort C a0 a1 a2 a3 a4 a5 a6 (v') (oPort C b0_0 b0_1 b0_2 b0_3 b0_4 b0_5 b0_6 w0 [])) s.heap.size) (List.toArray [Value.ref a0, Value.ref b0_0]) s 0 0 A) _
  rw [← hQ]
  unfold f_X1_become at hf
  have main : ∀ (H : Heap) (locs : List Loc), va_P D vwCl (oPort C a0 a1 a2 a3 a4 a5 a6 v (oPort C b0_0 b0_1 b0_2 b0_3 b0_4 b0_5 b0_6 w0 [])) H → va_D A (oPort C a0 a1 a2 a3 a4 a5 a6 v (oPort C b0_0 b0_1 b0_2 b0_3 b0_4 b0_5 b0_6 w0 [])) → va_S A s.heap H locs → W p l e (headSpec wsX1_become (rmX1_become)).room s m (List.toArray [Value.ref a0, Value.ref b0_0]) below meth c H locs 0 0 Q (F0 m 0 ls []) := by
    intro H locs hP hD hS
    refine lv_aload_n hx hb dX1_become_0 rfl (lv_at hl 1 rfl) ?_
    refine va_get (D := D) (ci := 1) (v := .ref b0_1) (C := RX1) (T := TX1) (N := 10) hx hb hts hi_RX1 hown hK hP 7 rfl rfl 0 (by decide) (hts (.fieldLink RX1 9 "TravelMarks$Port" "laws" "[I") (List.mem_of_getElem? (i := 1) rfl)) (fun _ h9 => h9) rfl dX1_become_1 ?_
    refine lv_iconst (v := 0) hx hb dX1_become_4 rfl ?_
    refine lv_aload_n hx hb dX1_become_5 rfl (lv_at hl 0 rfl) ?_
    refine va_get (D := D) (ci := 1) (v := .ref a1) (C := RX1) (T := TX1) (N := 10) hx hb hts hi_RX1 hown hK hP 0 rfl rfl 0 (by decide) (hts (.fieldLink RX1 9 "TravelMarks$Port" "laws" "[I") (List.mem_of_getElem? (i := 1) rfl)) (fun _ h9 => h9) rfl dX1_become_6 ?_
    refine lv_iconst (v := 0) hx hb dX1_become_9 rfl ?_
    refine lv_iconst (v := 4) hx hb dX1_become_10 rfl ?_
    refine va_copyi hx hb (by rw [hml]; exact hl.1.symm) hown (hts (.methodLink RX1 40 arraycopyName) (List.mem_of_getElem? (i := 2) rfl)) (hts (.native arraycopyName) (List.mem_of_getElem? (i := 3) rfl)) (hts (.static arraycopyName) (List.mem_of_getElem? (i := 4) rfl)) (hts (.initialized "java/lang/System") (List.mem_of_getElem? (i := 5) rfl)) hK hP hD hS 8 1 0 0 (ty := .int) rfl rfl rfl rfl rfl (by decide) (by decide) (by decide) (by decide) (by decide) (fun _ _ => rfl) (Nat.le_of_ble_eq_true rfl) (Nat.le_of_ble_eq_true rfl) dX1_become_11 (fun H locs hP hD hS => ?_)
    obtain ⟨v1, ev1, hf⟩ := lj_e hf
    have hP : va_P D vwCl (oPort C a0 a1 a2 a3 a4 a5 a6 v1 (oPort C b0_0 b0_1 b0_2 b0_3 b0_4 b0_5 b0_6 w0 [])) H := by rw [ev1]; exact hP
    have hD : va_D A (oPort C a0 a1 a2 a3 a4 a5 a6 v1 (oPort C b0_0 b0_1 b0_2 b0_3 b0_4 b0_5 b0_6 w0 [])) := by rw [ev1]; exact hD
    refine lv_aload_n hx hb dX1_become_14 rfl (lv_at hl 1 rfl) ?_
    refine va_get (D := D) (ci := 1) (v := .ref b0_2) (C := RX1) (T := TX1) (N := 10) hx hb hts hi_RX1 hown hK hP 7 rfl rfl 1 (by decide) (hts (.fieldLink RX1 15 "TravelMarks$Port" "kind" "[I") (List.mem_of_getElem? (i := 6) rfl)) (fun _ h9 => h9) rfl dX1_become_15 ?_
    refine lv_iconst (v := 0) hx hb dX1_become_18 rfl ?_
    refine lv_aload_n hx hb dX1_become_19 rfl (lv_at hl 0 rfl) ?_
    refine va_get (D := D) (ci := 1) (v := .ref a2) (C := RX1) (T := TX1) (N := 10) hx hb hts hi_RX1 hown hK hP 0 rfl rfl 1 (by decide) (hts (.fieldLink RX1 15 "TravelMarks$Port" "kind" "[I") (List.mem_of_getElem? (i := 6) rfl)) (fun _ h9 => h9) rfl dX1_become_20 ?_
    refine lv_iconst (v := 0) hx hb dX1_become_23 rfl ?_
    refine lv_bipush (v := 8) hx hb dX1_become_24 rfl ?_
    refine va_copyi hx hb (by rw [hml]; exact hl.1.symm) hown (hts (.methodLink RX1 40 arraycopyName) (List.mem_of_getElem? (i := 2) rfl)) (hts (.native arraycopyName) (List.mem_of_getElem? (i := 3) rfl)) (hts (.static arraycopyName) (List.mem_of_getElem? (i := 4) rfl)) (hts (.initialized "java/lang/System") (List.mem_of_getElem? (i := 5) rfl)) hK hP hD hS 9 2 0 0 (ty := .int) rfl rfl rfl rfl rfl (by decide) (by decide) (by decide) (by decide) (by decide) (fun _ _ => rfl) (Nat.le_of_ble_eq_true rfl) (Nat.le_of_ble_eq_true rfl) dX1_become_26 (fun H locs hP hD hS => ?_)
    obtain ⟨v2, ev2, hf⟩ := lj_e hf
    have hP : va_P D vwCl (oPort C a0 a1 a2 a3 a4 a5 a6 v2 (oPort C b0_0 b0_1 b0_2 b0_3 b0_4 b0_5 b0_6 w0 [])) H := by rw [ev2]; exact hP
    have hD : va_D A (oPort C a0 a1 a2 a3 a4 a5 a6 v2 (oPort C b0_0 b0_1 b0_2 b0_3 b0_4 b0_5 b0_6 w0 [])) := by rw [ev2]; exact hD
    refine lv_aload_n hx hb dX1_become_29 rfl (lv_at hl 1 rfl) ?_
    refine va_get (D := D) (ci := 1) (v := .ref b0_3) (C := RX1) (T := TX1) (N := 10) hx hb hts hi_RX1 hown hK hP 7 rfl rfl 2 (by decide) (hts (.fieldLink RX1 18 "TravelMarks$Port" "ink" "[I") (List.mem_of_getElem? (i := 7) rfl)) (fun _ h9 => h9) rfl dX1_become_30 ?_
    refine lv_iconst (v := 0) hx hb dX1_become_33 rfl ?_
    refine lv_aload_n hx hb dX1_become_34 rfl (lv_at hl 0 rfl) ?_
    refine va_get (D := D) (ci := 1) (v := .ref a3) (C := RX1) (T := TX1) (N := 10) hx hb hts hi_RX1 hown hK hP 0 rfl rfl 2 (by decide) (hts (.fieldLink RX1 18 "TravelMarks$Port" "ink" "[I") (List.mem_of_getElem? (i := 7) rfl)) (fun _ h9 => h9) rfl dX1_become_35 ?_
    refine lv_iconst (v := 0) hx hb dX1_become_38 rfl ?_
    refine lv_bipush (v := 8) hx hb dX1_become_39 rfl ?_
    refine va_copyi hx hb (by rw [hml]; exact hl.1.symm) hown (hts (.methodLink RX1 40 arraycopyName) (List.mem_of_getElem? (i := 2) rfl)) (hts (.native arraycopyName) (List.mem_of_getElem? (i := 3) rfl)) (hts (.static arraycopyName) (List.mem_of_getElem? (i := 4) rfl)) (hts (.initialized "java/lang/System") (List.mem_of_getElem? (i := 5) rfl)) hK hP hD hS 10 3 0 0 (ty := .int) rfl rfl rfl rfl rfl (by decide) (by decide) (by decide) (by decide) (by decide) (fun _ _ => rfl) (Nat.le_of_ble_eq_true rfl) (Nat.le_of_ble_eq_true rfl) dX1_become_41 (fun H locs hP hD hS => ?_)
    obtain ⟨v3, ev3, hf⟩ := lj_e hf
    have hP : va_P D vwCl (oPort C a0 a1 a2 a3 a4 a5 a6 v3 (oPort C b0_0 b0_1 b0_2 b0_3 b0_4 b0_5 b0_6 w0 [])) H := by rw [ev3]; exact hP
    have hD : va_D A (oPort C a0 a1 a2 a3 a4 a5 a6 v3 (oPort C b0_0 b0_1 b0_2 b0_3 b0_4 b0_5 b0_6 w0 [])) := by rw [ev3]; exact hD
    refine lv_aload_n hx hb dX1_become_44 rfl (lv_at hl 1 rfl) ?_
    refine va_get (D := D) (ci := 1) (v := .ref b0_4) (C := RX1) (T := TX1) (N := 10) hx hb hts hi_RX1 hown hK hP 7 rfl rfl 3 (by decide) (hts (.fieldLink RX1 21 "TravelMarks$Port" "on" "[I") (List.mem_of_getElem? (i := 8) rfl)) (fun _ h9 => h9) rfl dX1_become_45 ?_
    refine lv_iconst (v := 0) hx hb dX1_become_48 rfl ?_
    refine lv_aload_n hx hb dX1_become_49 rfl (lv_at hl 0 rfl) ?_
    refine va_get (D := D) (ci := 1) (v := .ref a4) (C := RX1) (T := TX1) (N := 10) hx hb hts hi_RX1 hown hK hP 0 rfl rfl 3 (by decide) (hts (.fieldLink RX1 21 "TravelMarks$Port" "on" "[I") (List.mem_of_getElem? (i := 8) rfl)) (fun _ h9 => h9) rfl dX1_become_50 ?_
    refine lv_iconst (v := 0) hx hb dX1_become_53 rfl ?_
    refine lv_bipush (v := 8) hx hb dX1_become_54 rfl ?_
    refine va_copyi hx hb (by rw [hml]; exact hl.1.symm) hown (hts (.methodLink RX1 40 arraycopyName) (List.mem_of_getElem? (i := 2) rfl)) (hts (.native arraycopyName) (List.mem_of_getElem? (i := 3) rfl)) (hts (.static arraycopyName) (List.mem_of_getElem? (i := 4) rfl)) (hts (.initialized "java/lang/System") (List.mem_of_getElem? (i := 5) rfl)) hK hP hD hS 11 4 0 0 (ty := .int) rfl rfl rfl rfl rfl (by decide) (by decide) (by decide) (by decide) (by decide) (fun _ _ => rfl) (Nat.le_of_ble_eq_true rfl) (Nat.le_of_ble_eq_true rfl) dX1_become_56 (fun H locs hP hD hS => ?_)
    obtain ⟨v4, ev4, hf⟩ := lj_e hf
    have hP : va_P D vwCl (oPort C a0 a1 a2 a3 a4 a5 a6 v4 (oPort C b0_0 b0_1 b0_2 b0_3 b0_4 b0_5 b0_6 w0 [])) H := by rw [ev4]; exact hP
    have hD : va_D A (oPort C a0 a1 a2 a3 a4 a5 a6 v4 (oPort C b0_0 b0_1 b0_2 b0_3 b0_4 b0_5 b0_6 w0 [])) := by rw [ev4]; exact hD
    refine lv_aload_n hx hb dX1_become_59 rfl (lv_at hl 1 rfl) ?_
    refine va_get (D := D) (ci := 1) (v := .ref b0_5) (C := RX1) (T := TX1) (N := 10) hx hb hts hi_RX1 hown hK hP 7 rfl rfl 4 (by decide) (hts (.fieldLink RX1 24 "TravelMarks$Port" "first" "[I") (List.mem_of_getElem? (i := 9) rfl)) (fun _ h9 => h9) rfl dX1_become_60 ?_
    refine lv_iconst (v := 0) hx hb dX1_become_63 rfl ?_
    refine lv_aload_n hx hb dX1_become_64 rfl (lv_at hl 0 rfl) ?_
    refine va_get (D := D) (ci := 1) (v := .ref a5) (C := RX1) (T := TX1) (N := 10) hx hb hts hi_RX1 hown hK hP 0 rfl rfl 4 (by decide) (hts (.fieldLink RX1 24 "TravelMarks$Port" "first" "[I") (List.mem_of_getElem? (i := 9) rfl)) (fun _ h9 => h9) rfl dX1_become_65 ?_
    refine lv_iconst (v := 0) hx hb dX1_become_68 rfl ?_
    refine lv_bipush (v := 6) hx hb dX1_become_69 rfl ?_
    refine va_copyi hx hb (by rw [hml]; exact hl.1.symm) hown (hts (.methodLink RX1 40 arraycopyName) (List.mem_of_getElem? (i := 2) rfl)) (hts (.native arraycopyName) (List.mem_of_getElem? (i := 3) rfl)) (hts (.static arraycopyName) (List.mem_of_getElem? (i := 4) rfl)) (hts (.initialized "java/lang/System") (List.mem_of_getElem? (i := 5) rfl)) hK hP hD hS 12 5 0 0 (ty := .int) rfl rfl rfl rfl rfl (by decide) (by decide) (by decide) (by decide) (by decide) (fun _ _ => rfl) (Nat.le_of_ble_eq_true rfl) (Nat.le_of_ble_eq_true rfl) dX1_become_71 (fun H locs hP hD hS => ?_)
    obtain ⟨v5, ev5, hf⟩ := lj_e hf
    have hP : va_P D vwCl (oPort C a0 a1 a2 a3 a4 a5 a6 v5 (oPort C b0_0 b0_1 b0_2 b0_3 b0_4 b0_5 b0_6 w0 [])) H := by rw [ev5]; exact hP
    have hD : va_D A (oPort C a0 a1 a2 a3 a4 a5 a6 v5 (oPort C b0_0 b0_1 b0_2 b0_3 b0_4 b0_5 b0_6 w0 [])) := by rw [ev5]; exact hD
    refine lv_aload_n hx hb dX1_become_74 rfl (lv_at hl 1 rfl) ?_
    refine va_get (D := D) (ci := 1) (v := .ref b0_6) (C := RX1) (T := TX1) (N := 10) hx hb hts hi_RX1 hown hK hP 7 rfl rfl 5 (by decide) (hts (.fieldLink RX1 27 "TravelMarks$Port" "second" "[I") (List.mem_of_getElem? (i := 10) rfl)) (fun _ h9 => h9) rfl dX1_become_75 ?_
    refine lv_iconst (v := 0) hx hb dX1_become_78 rfl ?_
    refine lv_aload_n hx hb dX1_become_79 rfl (lv_at hl 0 rfl) ?_
    refine va_get (D := D) (ci := 1) (v := .ref a6) (C := RX1) (T := TX1) (N := 10) hx hb hts hi_RX1 hown hK hP 0 rfl rfl 5 (by decide) (hts (.fieldLink RX1 27 "TravelMarks$Port" "second" "[I") (List.mem_of_getElem? (i := 10) rfl)) (fun _ h9 => h9) rfl dX1_become_80 ?_
    refine lv_iconst (v := 0) hx hb dX1_become_83 rfl ?_
    refine lv_bipush (v := 6) hx hb dX1_become_84 rfl ?_
    refine va_copyi hx hb (by rw [hml]; exact hl.1.symm) hown (hts (.methodLink RX1 40 arraycopyName) (List.mem_of_getElem? (i := 2) rfl)) (hts (.native arraycopyName) (List.mem_of_getElem? (i := 3) rfl)) (hts (.static arraycopyName) (List.mem_of_getElem? (i := 4) rfl)) (hts (.initialized "java/lang/System") (List.mem_of_getElem? (i := 5) rfl)) hK hP hD hS 13 6 0 0 (ty := .int) rfl rfl rfl rfl rfl (by decide) (by decide) (by decide) (by decide) (by decide) (fun _ _ => rfl) (Nat.le_of_ble_eq_true rfl) (Nat.le_of_ble_eq_true rfl) dX1_become_86 (fun H locs hP hD hS => ?_)
    obtain ⟨v6, ev6, hf⟩ := lj_e hf
    have hP : va_P D vwCl (oPort C a0 a1 a2 a3 a4 a5 a6 v6 (oPort C b0_0 b0_1 b0_2 b0_3 b0_4 b0_5 b0_6 w0 [])) H := by rw [ev6]; exact hP
    have hD : va_D A (oPort C a0 a1 a2 a3 a4 a5 a6 v6 (oPort C b0_0 b0_1 b0_2 b0_3 b0_4 b0_5 b0_6 w0 [])) := by rw [ev6]; exact hD
    refine lv_aload_n hx hb dX1_become_89 rfl (lv_at hl 0 rfl) ?_
    refine lv_aload_n hx hb dX1_become_90 rfl (lv_at hl 1 rfl) ?_
    refine va_get (D := D) (ci := 1) (v := .int (pCount w0)) (C := RX1) (T := TX1) (N := 10) hx hb hts hi_RX1 hown hK hP 7 rfl rfl 6 (by decide) (hts (.fieldLink RX1 50 "TravelMarks$Port" "count" "I") (List.mem_of_getElem? (i := 11) rfl)) (fun _ h9 => h9) rfl dX1_become_91 ?_
    obtain ⟨t7, et7, hf⟩ := lj_e hf
    refine lv_ren et7 ?_
    refine va_put (D := D) (ci := 1) (v := .int t7) (ty := .int) (C := RX1) (T := TX1) (N := 10) hx hb hts hi_RX1 tyX1 tyX1_ok nmX1 hown hK hP hD hS 0 rfl rfl 6 (by decide) (hts (.fieldLink RX1 50 "TravelMarks$Port" "count" "I") (List.mem_of_getElem? (i := 11) rfl)) (fun _ h9 => h9) rfl (tyX1_ok 6 (by decide)) rfl rfl (Nat.le_of_ble_eq_true rfl) dX1_become_94 (fun H locs hP hD hS => ?_)
    obtain ⟨v8, ev8, hf⟩ := lj_e hf
    have hP : va_P D vwCl (oPort C a0 a1 a2 a3 a4 a5 a6 v8 (oPort C b0_0 b0_1 b0_2 b0_3 b0_4 b0_5 b0_6 w0 [])) H := by rw [ev8]; exact hP
    have hD : va_D A (oPort C a0 a1 a2 a3 a4 a5 a6 v8 (oPort C b0_0 b0_1 b0_2 b0_3 b0_4 b0_5 b0_6 w0 [])) := by rw [ev8]; exact hD
    refine lv_aload_n hx hb dX1_become_97 rfl (lv_at hl 0 rfl) ?_
    refine lv_aload_n hx hb dX1_become_98 rfl (lv_at hl 1 rfl) ?_
    refine va_get (D := D) (ci := 1) (v := .int (pHour w0)) (C := RX1) (T := TX1) (N := 10) hx hb hts hi_RX1 hown hK hP 7 rfl rfl 7 (by decide) (hts (.fieldLink RX1 53 "TravelMarks$Port" "hour" "I") (List.mem_of_getElem? (i := 12) rfl)) (fun _ h9 => h9) rfl dX1_become_99 ?_
    obtain ⟨t9, et9, hf⟩ := lj_e hf
    refine lv_ren et9 ?_
    refine va_put (D := D) (ci := 1) (v := .int t9) (ty := .int) (C := RX1) (T := TX1) (N := 10) hx hb hts hi_RX1 tyX1 tyX1_ok nmX1 hown hK hP hD hS 0 rfl rfl 7 (by decide) (hts (.fieldLink RX1 53 "TravelMarks$Port" "hour" "I") (List.mem_of_getElem? (i := 12) rfl)) (fun _ h9 => h9) rfl (tyX1_ok 7 (by decide)) rfl rfl (Nat.le_of_ble_eq_true rfl) dX1_become_102 (fun H locs hP hD hS => ?_)
    obtain ⟨v10, ev10, hf⟩ := lj_e hf
    have hP : va_P D vwCl (oPort C a0 a1 a2 a3 a4 a5 a6 v10 (oPort C b0_0 b0_1 b0_2 b0_3 b0_4 b0_5 b0_6 w0 [])) H := by rw [ev10]; exact hP
    have hD : va_D A (oPort C a0 a1 a2 a3 a4 a5 a6 v10 (oPort C b0_0 b0_1 b0_2 b0_3 b0_4 b0_5 b0_6 w0 [])) := by rw [ev10]; exact hD
    refine lv_aload_n hx hb dX1_become_105 rfl (lv_at hl 0 rfl) ?_
    refine lv_aload_n hx hb dX1_become_106 rfl (lv_at hl 1 rfl) ?_
    refine va_get (D := D) (ci := 1) (v := .int (pZ w0)) (C := RX1) (T := TX1) (N := 10) hx hb hts hi_RX1 hown hK hP 7 rfl rfl 8 (by decide) (hts (.fieldLink RX1 30 "TravelMarks$Port" "z" "I") (List.mem_of_getElem? (i := 13) rfl)) (fun _ h9 => h9) rfl dX1_become_107 ?_
    obtain ⟨t11, et11, hf⟩ := lj_e hf
    refine lv_ren et11 ?_
    refine va_put (D := D) (ci := 1) (v := .int t11) (ty := .int) (C := RX1) (T := TX1) (N := 10) hx hb hts hi_RX1 tyX1 tyX1_ok nmX1 hown hK hP hD hS 0 rfl rfl 8 (by decide) (hts (.fieldLink RX1 30 "TravelMarks$Port" "z" "I") (List.mem_of_getElem? (i := 13) rfl)) (fun _ h9 => h9) rfl (tyX1_ok 8 (by decide)) rfl rfl (Nat.le_of_ble_eq_true rfl) dX1_become_110 (fun H locs hP hD hS => ?_)
    obtain ⟨v12, ev12, hf⟩ := lj_e hf
    have hP : va_P D vwCl (oPort C a0 a1 a2 a3 a4 a5 a6 v12 (oPort C b0_0 b0_1 b0_2 b0_3 b0_4 b0_5 b0_6 w0 [])) H := by rw [ev12]; exact hP
    have hD : va_D A (oPort C a0 a1 a2 a3 a4 a5 a6 v12 (oPort C b0_0 b0_1 b0_2 b0_3 b0_4 b0_5 b0_6 w0 [])) := by rw [ev12]; exact hD
    cases hf
    exact krv hQ hAe hx hb hr hlocks hP hD hK hS dX1_become_113
  exact main _ _ hP hD hS

def rmX5_isKind : Room := { frames := 1, cells := 0, slots := 0, locals := 22 }
theorem hdX5_isKind : yX5_isKind.cls ≠ "java/lang/invoke/MethodHandle" ∧ yX5_isKind.cls ≠ "java/lang/invoke/VarHandle" ∧ (parseMethodDescriptor yX5_isKind.desc).map (fun d => d.parameters.length) = some 1 := by decide +kernel
set_option maxHeartbeats 40000000 in
set_option maxRecDepth 100000 in
theorem c_X5_isKind (l : Launch) (E : Nat → Nat) (D : va_G) (C : Nat → ClassId) (sz : Nat)  (x0 : Int32) (r : Int32) (hf : f_X5_isKind x0 = r) : Met l yX5_isKind wsX5_isKind rmX5_isKind (PC E D C [.int x0] [] sz) (QZ D C [] [] sz r) 0 0 (va_A [] sz) := by
  refine Met.ofW (cc := cX5_isKind) (maxL := 1) (ret := (some .boolean)) (by decide) rfl ?_
  intro p e s m args below meth c s₁ B hml hv
  obtain ⟨rfl, hsz, hP, hK, hD0, hE⟩ := hv
  have hx := B.exec
  have hb := B.bytes
  have hr := B.returns
  have hts := atoms_spec (ws := wsX5_isKind) B.pre
  have hown : s.vm.findClass RX5 = some m.cls := findClass_of_methodNamed B.named
  have hlocks := B.notSynchronized
  subst hsz
  have hD := hD0.self (sz := s.heap.size)
  obtain ⟨A, hAe⟩ := nm_ex (va_A [] s.heap.size)
  rw [← hAe] at hD hE ⊢
  have hA : ∀ q : Nat, s.heap.size ≤ q → A q := fun q h => by rw [hAe]; exact Or.inr h
  have hS : va_S A s.heap s.heap [] := va_S.rf
  have hl := lv_entry ([.int x0]) (n := 1) (Nat.le_of_ble_eq_true rfl)
  rw [lg_entry_eq]
  generalize (lg_sl ([.int x0]) ++ List.replicate (1 - (lg_sl ([.int x0])).length) Slot.unset).toArray = ls at hl ⊢
  have hl : lv_has ls 1 [(0, .int x0)] := hl
  obtain ⟨Q, hQ⟩ := nm_ex (MQ below (QZ D C [] [] s.heap.size r) (List.toArray [Value.int x0]) s 0 0 A)
  show W p l e (headSpec wsX5_isKind (rmX5_isKind)).room s m (List.toArray [Value.int x0]) below meth c s.heap [] 0 0 (MQ below (QZ D C [] [] s.heap.size r) (List.toArray [Value.int x0]) s 0 0 A) _
  rw [← hQ]
  unfold f_X5_isKind at hf
  have main : ∀ (H : Heap) (locs : List Loc), va_P D vwCl [] H → va_D A [] → va_S A s.heap H locs → W p l e (headSpec wsX5_isKind (rmX5_isKind)).room s m (List.toArray [Value.int x0]) below meth c H locs 0 0 Q (F0 m 0 ls []) := by
    intro H locs hP hD hS
    refine lv_iload_n hx hb dX5_isKind_0 rfl (lv_at hl 0 rfl) ?_
    refine lv_iconst (v := 0) hx hb dX5_isKind_1 rfl ?_
    refine lv_iconst (v := 5) hx hb dX5_isKind_2 rfl ?_
    refine kcz (Wx := []) (va_runS (As := [.int x0, .int 0, .int 5]) (rest := []) ⟨hx, hb, hml, hown, hts⟩ (c_X5_within l E D C H.size x0 0 5 _ rfl) (va_cwS 3 hts gX5_isKind_X5_within rfl rfl rfl hdX5_within ⟨Nat.le_of_ble_eq_true rfl, Nat.le_of_ble_eq_true rfl⟩) (kpre hP hD hK hS hE hA [] rfl rfl) rfl rfl hl.1 rfl (lv_room (Nat.le_of_ble_eq_true rfl)) dX5_isKind_3 ⟨Nat.zero_le _, Nat.zero_le _⟩) hP hD hS hA [] rfl rfl rfl (fun H locs hz1 hP hD hS => ?_)
    cases hf
    exact krz hQ hAe hx hb hr hlocks hz1 hP hD hK hS dX5_isKind_6
  exact main _ _ hP hD hS

def rmX5_isInk : Room := { frames := 1, cells := 0, slots := 0, locals := 22 }
theorem hdX5_isInk : yX5_isInk.cls ≠ "java/lang/invoke/MethodHandle" ∧ yX5_isInk.cls ≠ "java/lang/invoke/VarHandle" ∧ (parseMethodDescriptor yX5_isInk.desc).map (fun d => d.parameters.length) = some 1 := by decide +kernel
set_option maxHeartbeats 40000000 in
set_option maxRecDepth 100000 in
theorem c_X5_isInk (l : Launch) (E : Nat → Nat) (D : va_G) (C : Nat → ClassId) (sz : Nat)  (x0 : Int32) (r : Int32) (hf : f_X5_isInk x0 = r) : Met l yX5_isInk wsX5_isInk rmX5_isInk (PC E D C [.int x0] [] sz) (QZ D C [] [] sz r) 0 0 (va_A [] sz) := by
  refine Met.ofW (cc := cX5_isInk) (maxL := 1) (ret := (some .boolean)) (by decide) rfl ?_
  intro p e s m args below meth c s₁ B hml hv
  obtain ⟨rfl, hsz, hP, hK, hD0, hE⟩ := hv
  have hx := B.exec
  have hb := B.bytes
  have hr := B.returns
  have hts := atoms_spec (ws := wsX5_isInk) B.pre
  have hown : s.vm.findClass RX5 = some m.cls := findClass_of_methodNamed B.named
  have hlocks := B.notSynchronized
  subst hsz
  have hD := hD0.self (sz := s.heap.size)
  obtain ⟨A, hAe⟩ := nm_ex (va_A [] s.heap.size)
  rw [← hAe] at hD hE ⊢
  have hA : ∀ q : Nat, s.heap.size ≤ q → A q := fun q h => by rw [hAe]; exact Or.inr h
  have hS : va_S A s.heap s.heap [] := va_S.rf
  have hl := lv_entry ([.int x0]) (n := 1) (Nat.le_of_ble_eq_true rfl)
  rw [lg_entry_eq]
  generalize (lg_sl ([.int x0]) ++ List.replicate (1 - (lg_sl ([.int x0])).length) Slot.unset).toArray = ls at hl ⊢
  have hl : lv_has ls 1 [(0, .int x0)] := hl
  obtain ⟨Q, hQ⟩ := nm_ex (MQ below (QZ D C [] [] s.heap.size r) (List.toArray [Value.int x0]) s 0 0 A)
  show W p l e (headSpec wsX5_isInk (rmX5_isInk)).room s m (List.toArray [Value.int x0]) below meth c s.heap [] 0 0 (MQ below (QZ D C [] [] s.heap.size r) (List.toArray [Value.int x0]) s 0 0 A) _
  rw [← hQ]
  unfold f_X5_isInk at hf
  have main : ∀ (H : Heap) (locs : List Loc), va_P D vwCl [] H → va_D A [] → va_S A s.heap H locs → W p l e (headSpec wsX5_isInk (rmX5_isInk)).room s m (List.toArray [Value.int x0]) below meth c H locs 0 0 Q (F0 m 0 ls []) := by
    intro H locs hP hD hS
    refine lv_iload_n hx hb dX5_isInk_0 rfl (lv_at hl 0 rfl) ?_
    refine lv_iconst (v := 0) hx hb dX5_isInk_1 rfl ?_
    refine lv_bipush (v := 99) hx hb dX5_isInk_2 rfl ?_
    refine kcz (Wx := []) (va_runS (As := [.int x0, .int 0, .int 99]) (rest := []) ⟨hx, hb, hml, hown, hts⟩ (c_X5_within l E D C H.size x0 0 99 _ rfl) (va_cwS 3 hts gX5_isInk_X5_within rfl rfl rfl hdX5_within ⟨Nat.le_of_ble_eq_true rfl, Nat.le_of_ble_eq_true rfl⟩) (kpre hP hD hK hS hE hA [] rfl rfl) rfl rfl hl.1 rfl (lv_room (Nat.le_of_ble_eq_true rfl)) dX5_isInk_4 ⟨Nat.zero_le _, Nat.zero_le _⟩) hP hD hS hA [] rfl rfl rfl (fun H locs hz1 hP hD hS => ?_)
    cases hf
    exact krz hQ hAe hx hb hr hlocks hz1 hP hD hK hS dX5_isInk_7
  exact main _ _ hP hD hS

def rmX5_isOne : Room := { frames := 1, cells := 0, slots := 0, locals := 22 }
theorem hdX5_isOne : yX5_isOne.cls ≠ "java/lang/invoke/MethodHandle" ∧ yX5_isOne.cls ≠ "java/lang/invoke/VarHandle" ∧ (parseMethodDescriptor yX5_isOne.desc).map (fun d => d.parameters.length) = some 1 := by decide +kernel
set_option maxHeartbeats 40000000 in
set_option maxRecDepth 100000 in
theorem c_X5_isOne (l : Launch) (E : Nat → Nat) (D : va_G) (C : Nat → ClassId) (sz : Nat)  (x0 : Int32) (r : Int32) (hf : f_X5_isOne x0 = r) : Met l yX5_isOne wsX5_isOne rmX5_isOne (PC E D C [.int x0] [] sz) (QZ D C [] [] sz r) 0 0 (va_A [] sz) := by
  refine Met.ofW (cc := cX5_isOne) (maxL := 1) (ret := (some .boolean)) (by decide) rfl ?_
  intro p e s m args below meth c s₁ B hml hv
  obtain ⟨rfl, hsz, hP, hK, hD0, hE⟩ := hv
  have hx := B.exec
  have hb := B.bytes
  have hr := B.returns
  have hts := atoms_spec (ws := wsX5_isOne) B.pre
  have hown : s.vm.findClass RX5 = some m.cls := findClass_of_methodNamed B.named
  have hlocks := B.notSynchronized
  subst hsz
  have hD := hD0.self (sz := s.heap.size)
  obtain ⟨A, hAe⟩ := nm_ex (va_A [] s.heap.size)
  rw [← hAe] at hD hE ⊢
  have hA : ∀ q : Nat, s.heap.size ≤ q → A q := fun q h => by rw [hAe]; exact Or.inr h
  have hS : va_S A s.heap s.heap [] := va_S.rf
  have hl := lv_entry ([.int x0]) (n := 1) (Nat.le_of_ble_eq_true rfl)
  rw [lg_entry_eq]
  generalize (lg_sl ([.int x0]) ++ List.replicate (1 - (lg_sl ([.int x0])).length) Slot.unset).toArray = ls at hl ⊢
  have hl : lv_has ls 1 [(0, .int x0)] := hl
  obtain ⟨Q, hQ⟩ := nm_ex (MQ below (QZ D C [] [] s.heap.size r) (List.toArray [Value.int x0]) s 0 0 A)
  show W p l e (headSpec wsX5_isOne (rmX5_isOne)).room s m (List.toArray [Value.int x0]) below meth c s.heap [] 0 0 (MQ below (QZ D C [] [] s.heap.size r) (List.toArray [Value.int x0]) s 0 0 A) _
  rw [← hQ]
  unfold f_X5_isOne at hf
  have main : ∀ (H : Heap) (locs : List Loc), va_P D vwCl [] H → va_D A [] → va_S A s.heap H locs → W p l e (headSpec wsX5_isOne (rmX5_isOne)).room s m (List.toArray [Value.int x0]) below meth c H locs 0 0 Q (F0 m 0 ls []) := by
    intro H locs hP hD hS
    refine lv_iload_n hx hb dX5_isOne_0 rfl (lv_at hl 0 rfl) ?_
    refine lv_iconst (v := 0) hx hb dX5_isOne_1 rfl ?_
    refine lv_bipush (v := 7) hx hb dX5_isOne_2 rfl ?_
    refine kcz (Wx := []) (va_runS (As := [.int x0, .int 0, .int 7]) (rest := []) ⟨hx, hb, hml, hown, hts⟩ (c_X5_within l E D C H.size x0 0 7 _ rfl) (va_cwS 3 hts gX5_isOne_X5_within rfl rfl rfl hdX5_within ⟨Nat.le_of_ble_eq_true rfl, Nat.le_of_ble_eq_true rfl⟩) (kpre hP hD hK hS hE hA [] rfl rfl) rfl rfl hl.1 rfl (lv_room (Nat.le_of_ble_eq_true rfl)) dX5_isOne_4 ⟨Nat.zero_le _, Nat.zero_le _⟩) hP hD hS hA [] rfl rfl rfl (fun H locs hz1 hP hD hS => ?_)
    cases hf
    exact krz hQ hAe hx hb hr hlocks hz1 hP hD hK hS dX5_isOne_7
  exact main _ _ hP hD hS

def rmX1_fading : Room := { frames := 0, cells := 0, slots := 0, locals := 0 }
theorem hdX1_fading : yX1_fading.cls = RX1 ∧ yX1_fading.cls ≠ "java/lang/invoke/MethodHandle" ∧ yX1_fading.cls ≠ "java/lang/invoke/VarHandle" ∧ (parseMethodDescriptor yX1_fading.desc).map (fun d => d.parameters.length) = some 1 := by decide +kernel
set_option maxHeartbeats 40000000 in
set_option maxRecDepth 100000 in
theorem c_X1_fading (l : Launch) (E : Nat → Nat) (D : va_G) (C : Nat → ClassId) (a0 a1 a2 a3 a4 a5 a6 : Nat) (sz : Nat) (v : PV) (x0 : Int32) (r : Int32) (hf : f_X1_fading v x0 = some r) : Met l yX1_fading wsX1_fading rmX1_fading (PC E D C [.ref a0, .int x0] (oPort C a0 a1 a2 a3 a4 a5 a6 v []) sz) (QI D C (oPort C a0 a1 a2 a3 a4 a5 a6 v []) (oPort C a0 a1 a2 a3 a4 a5 a6 v []) sz r) 0 0 (va_A (oPort C a0 a1 a2 a3 a4 a5 a6 v []) sz) := by
  refine Met.ofW (cc := cX1_fading) (maxL := 3) (ret := (some .int)) (by decide) rfl ?_
  intro p e s m args below meth c s₁ B hml hv
  obtain ⟨rfl, hsz, hP, hK, hD0, hE⟩ := hv
  have hx := B.exec
  have hb := B.bytes
  have hr := B.returns
  have hts := atoms_spec (ws := wsX1_fading) B.pre
  have hown : s.vm.findClass RX1 = some m.cls := findClass_of_methodNamed B.named
  have hlocks := B.notSynchronized
  subst hsz
  have hi_RX1 : ∀ w ∈ wsX10, w ∈ wsX1_fading := fun _ h => List.mem_cons_of_mem _ (List.mem_append_right _ h)
  have hD := hD0.self (sz := s.heap.size)
  obtain ⟨A, hAe⟩ := nm_ex (va_A (oPort C a0 a1 a2 a3 a4 a5 a6 v []) s.heap.size)
  rw [← hAe] at hD hE ⊢
  have hA : ∀ q : Nat, s.heap.size ≤ q → A q := fun q h => by rw [hAe]; exact Or.inr h
  have hS : va_S A s.heap s.heap [] := va_S.rf
  have hl := lv_entry ([.ref a0, .int x0]) (n := 3) (Nat.le_of_ble_eq_true rfl)
  rw [lg_entry_eq]
  generalize (lg_sl ([.ref a0, .int x0]) ++ List.replicate (3 - (lg_sl ([.ref a0, .int x0])).length) Slot.unset).toArray = ls at hl ⊢
  have hl : lv_has ls 3 [(0, .ref a0), (1, .int x0)] := hl
  obtain ⟨Q, hQ⟩ := nm_ex (MQ below (QI D C (oPort C a0 a1 a2 a3 a4 a5 a6 v []) (oPort C a0 a1 a2 a3 a4 a5 a6 v []) s.heap.size r) (List.toArray [Value.ref a0, Value.int x0]) s 0 0 A)
  show W p l e (headSpec wsX1_fading (rmX1_fading)).room s m (List.toArray [Value.ref a0, Value.int x0]) below meth c s.heap [] 0 0 (MQ below (QI D C (oPort C a0 a1 a2 a3 a4 a5 a6 v []) (oPort C a0 a1 a2 a3 a4 a5 a6 v []) s.heap.size r) (List.toArray [Value.ref a0, Value.int x0]) s 0 0 A) _
  rw [← hQ]
  unfold f_X1_fading at hf
  have main : ∀ (H : Heap) (locs : List Loc), va_P D vwCl (oPort C a0 a1 a2 a3 a4 a5 a6 v []) H → va_D A (oPort C a0 a1 a2 a3 a4 a5 a6 v []) → va_S A s.heap H locs → W p l e (headSpec wsX1_fading (rmX1_fading)).room s m (List.toArray [Value.ref a0, Value.int x0]) below meth c H locs 0 0 Q (F0 m 0 ls []) := by
    intro H locs hP hD hS
    refine lv_aload_n hx hb dX1_fading_0 rfl (lv_at hl 0 rfl) ?_
    refine va_get (D := D) (ci := 1) (v := .ref a1) (C := RX1) (T := TX1) (N := 10) hx hb hts hi_RX1 hown hK hP 0 rfl rfl 0 (by decide) (hts (.fieldLink RX1 9 "TravelMarks$Port" "laws" "[I") (List.mem_of_getElem? (i := 1) rfl)) (fun _ h9 => h9) rfl dX1_fading_1 ?_
    refine lv_iconst (v := 1) hx hb dX1_fading_4 rfl ?_
    refine va_iald hx hb hK hP 1 0 rfl rfl (i := 1) (vin (by decide)) dX1_fading_5 ?_
    refine lv_ren (show ((pLaws v) 1) = (pLaws v) (Int32.toNatClampNeg 1) from rfl) ?_
    obtain ⟨t1, et1, hf⟩ := lj_e hf
    refine lv_ren et1 ?_
    refine lv_istore_n (lv' := [(2, .int t1), (0, .ref a0), (1, .int x0)]) hx hb dX1_fading_6 rfl hl (by decide) rfl (fun ls hl => ?_)
    refine lv_aload_n hx hb dX1_fading_7 rfl (lv_at hl 1 rfl) ?_
    refine va_get (D := D) (ci := 1) (v := .ref a2) (C := RX1) (T := TX1) (N := 10) hx hb hts hi_RX1 hown hK hP 0 rfl rfl 1 (by decide) (hts (.fieldLink RX1 15 "TravelMarks$Port" "kind" "[I") (List.mem_of_getElem? (i := 2) rfl)) (fun _ h9 => h9) rfl dX1_fading_8 ?_
    refine lv_iload_n hx hb dX1_fading_11 rfl (lv_at hl 2 rfl) ?_
    obtain ⟨y3, ey3, hi2, hf⟩ := rdA_x hf
    refine va_iald hx hb hK hP 2 0 rfl rfl hi2 dX1_fading_12 ?_
    refine lv_ren ey3 ?_
    by_cases c4 : y3 = 1
    · replace hf := if_te c4 hf
      refine lv_tableIn (x := y3) (tgt := 48) (off := 35) hx hb dX1_fading_13 (by rw [c4]; decide) (by rw [c4]; decide) (by rw [c4]; try rfl) (by decide) ?_
      refine lv_iload_n hx hb dX1_fading_48 rfl (lv_at hl 0 rfl) ?_
      refine lv_iconst (v := 1) hx hb dX1_fading_49 rfl ?_
      refine lv_iadd hx hb dX1_fading_50 ?_
      obtain ⟨t5, et5, hf⟩ := lj_e hf
      refine lv_ren et5 ?_
      cases hf
      exact kri hQ hAe hx hb hr hlocks hP hD hK hS dX1_fading_51
    replace hf := if_fe c4 hf
    by_cases c6 : y3 = 2
    · replace hf := if_te c6 hf
      refine lv_tableIn (x := y3) (tgt := 58) (off := 45) hx hb dX1_fading_13 (by rw [c6]; decide) (by rw [c6]; decide) (by rw [c6]; try rfl) (by decide) ?_
      refine lv_iload_n hx hb dX1_fading_58 rfl (lv_at hl 0 rfl) ?_
      refine lv_iconst (v := 2) hx hb dX1_fading_59 rfl ?_
      refine lv_isub hx hb dX1_fading_60 ?_
      obtain ⟨t7, et7, hf⟩ := lj_e hf
      refine lv_ren et7 ?_
      cases hf
      exact kri hQ hAe hx hb hr hlocks hP hD hK hS dX1_fading_61
    replace hf := if_fe c6 hf
    by_cases c8 : y3 = 3
    · replace hf := if_te c8 hf
      refine lv_tableIn (x := y3) (tgt := 52) (off := 39) hx hb dX1_fading_13 (by rw [c8]; decide) (by rw [c8]; decide) (by rw [c8]; try rfl) (by decide) ?_
      refine lv_iload_n hx hb dX1_fading_52 rfl (lv_at hl 0 rfl) ?_
      refine lv_iconst (v := 1) hx hb dX1_fading_53 rfl ?_
      refine lv_iadd hx hb dX1_fading_54 ?_
      refine lv_iconst (v := 2) hx hb dX1_fading_55 rfl ?_
      refine lv_imul hx hb dX1_fading_56 ?_
      obtain ⟨t9, et9, hf⟩ := lj_e hf
      refine lv_ren et9 ?_
      cases hf
      exact kri hQ hAe hx hb hr hlocks hP hD hK hS dX1_fading_57
    replace hf := if_fe c8 hf
    by_cases c10 : y3 = 4
    · replace hf := if_te c10 hf
      refine lv_tableIn (x := y3) (tgt := 62) (off := 49) hx hb dX1_fading_13 (by rw [c10]; decide) (by rw [c10]; decide) (by rw [c10]; try rfl) (by decide) ?_
      refine lv_iload_n hx hb dX1_fading_62 rfl (lv_at hl 0 rfl) ?_
      refine lv_iconst (v := 2) hx hb dX1_fading_63 rfl ?_
      refine lv_isub hx hb dX1_fading_64 ?_
      refine lv_aload_n hx hb dX1_fading_65 rfl (lv_at hl 1 rfl) ?_
      refine va_get (D := D) (ci := 1) (v := .ref a1) (C := RX1) (T := TX1) (N := 10) hx hb hts hi_RX1 hown hK hP 0 rfl rfl 0 (by decide) (hts (.fieldLink RX1 9 "TravelMarks$Port" "laws" "[I") (List.mem_of_getElem? (i := 1) rfl)) (fun _ h9 => h9) rfl dX1_fading_66 ?_
      refine lv_iconst (v := 2) hx hb dX1_fading_69 rfl ?_
      refine va_iald hx hb hK hP 1 0 rfl rfl (i := 2) (vin (by decide)) dX1_fading_70 ?_
      refine lv_ren (show ((pLaws v) 2) = (pLaws v) (Int32.toNatClampNeg 2) from rfl) ?_
      refine lv_isub hx hb dX1_fading_71 ?_
      obtain ⟨t11, et11, hf⟩ := lj_e hf
      refine lv_ren et11 ?_
      cases hf
      exact kri hQ hAe hx hb hr hlocks hP hD hK hS dX1_fading_72
    replace hf := if_fe c10 hf
    by_cases c12 : y3 = 5
    · replace hf := if_te c12 hf
      refine lv_tableIn (x := y3) (tgt := 73) (off := 60) hx hb dX1_fading_13 (by rw [c12]; decide) (by rw [c12]; decide) (by rw [c12]; try rfl) (by decide) ?_
      refine lv_iconst (v := 0) hx hb dX1_fading_73 rfl ?_
      cases hf
      exact kri hQ hAe hx hb hr hlocks hP hD hK hS dX1_fading_74
    replace hf := if_fe c12 hf
    refine lv_tableOut (x := y3) (tgt := 75) hx hb dX1_fading_13 (swo_1_5 c4 c6 c8 c10 c12) (by decide) ?_
    refine lv_iload_n hx hb dX1_fading_75 rfl (lv_at hl 0 rfl) ?_
    cases hf
    exact kri hQ hAe hx hb hr hlocks hP hD hK hS dX1_fading_76
  exact main _ _ hP hD hS

def rmJ9_floorMod_7cf53 : Room := { frames := 0, cells := 0, slots := 0, locals := 0 }
theorem hdJ9_floorMod_7cf53 : yJ9_floorMod_7cf53.cls ≠ "java/lang/invoke/MethodHandle" ∧ yJ9_floorMod_7cf53.cls ≠ "java/lang/invoke/VarHandle" ∧ (parseMethodDescriptor yJ9_floorMod_7cf53.desc).map (fun d => d.parameters.length) = some 2 := by decide +kernel
set_option maxHeartbeats 40000000 in
set_option maxRecDepth 100000 in
theorem c_J9_floorMod_7cf53 (l : Launch) (E : Nat → Nat) (D : va_G) (C : Nat → ClassId) (sz : Nat)  (x0 : Int32) (x1 : Int32) (r : Int32) (hf : f_J9_floorMod_7cf53 x0 x1 = some r) : Met l yJ9_floorMod_7cf53 wsJ9_floorMod_7cf53 rmJ9_floorMod_7cf53 (PC E D C [.int x0, .int x1] [] sz) (QI D C [] [] sz r) 0 0 (va_A [] sz) := by
  refine va_MetF (cc := cJ9_floorMod_7cf53) (maxL := 3) (ret := (some .int)) (by decide +kernel) rfl ?_
  intro p e s m args below meth c s₁ B hml hv
  obtain ⟨rfl, hsz, hP, hK, hD0, hE⟩ := hv
  have hx := B.exec
  have hb := B.bytes
  have hr := B.returns
  have hts := atoms_spec (ws := wsJ9_floorMod_7cf53) B.pre
  have hown : s.vm.findClass RJ9 = some m.cls := findClass_of_methodNamed B.named
  have hlocks := B.notSynchronized
  subst hsz
  have hD := hD0.self (sz := s.heap.size)
  obtain ⟨A, hAe⟩ := nm_ex (va_A [] s.heap.size)
  rw [← hAe] at hD hE ⊢
  have hA : ∀ q : Nat, s.heap.size ≤ q → A q := fun q h => by rw [hAe]; exact Or.inr h
  have hS : va_S A s.heap s.heap [] := va_S.rf
  have hl := lv_entry ([.int x0, .int x1]) (n := 3) (Nat.le_of_ble_eq_true rfl)
  rw [lg_entry_eq]
  generalize (lg_sl ([.int x0, .int x1]) ++ List.replicate (3 - (lg_sl ([.int x0, .int x1])).length) Slot.unset).toArray = ls at hl ⊢
  have hl : lv_has ls 3 [(0, .int x0), (1, .int x1)] := hl
  obtain ⟨Q, hQ⟩ := nm_ex (MQ below (QI D C [] [] s.heap.size r) (List.toArray [Value.int x0, Value.int x1]) s 0 0 A)
  show W p l e (headSpec wsJ9_floorMod_7cf53 (rmJ9_floorMod_7cf53)).room s m (List.toArray [Value.int x0, Value.int x1]) below meth c s.heap [] 0 0 (MQ below (QI D C [] [] s.heap.size r) (List.toArray [Value.int x0, Value.int x1]) s 0 0 A) _
  rw [← hQ]
  unfold f_J9_floorMod_7cf53 at hf
  have main : ∀ (H : Heap) (locs : List Loc), va_P D vwCl [] H → va_D A [] → va_S A s.heap H locs → W p l e (headSpec wsJ9_floorMod_7cf53 (rmJ9_floorMod_7cf53)).room s m (List.toArray [Value.int x0, Value.int x1]) below meth c H locs 0 0 Q (F0 m 0 ls []) := by
    intro H locs hP hD hS
    refine lv_iload_n hx hb dJ9_floorMod_7cf53_0 rfl (lv_at hl 0 rfl) ?_
    refine lv_iload_n hx hb dJ9_floorMod_7cf53_1 rfl (lv_at hl 1 rfl) ?_
    obtain ⟨hz1, hf⟩ := gdP_e hf
    refine lv_irem hx hb dJ9_floorMod_7cf53_2 hz1 ?_
    obtain ⟨t2, et2, hf⟩ := lj_e hf
    refine lv_ren et2 ?_
    refine lv_istore_n (lv' := [(2, .int t2), (0, .int x0), (1, .int x1)]) hx hb dJ9_floorMod_7cf53_3 rfl hl (by decide) rfl (fun ls hl => ?_)
    refine lv_iload_n hx hb dJ9_floorMod_7cf53_4 rfl (lv_at hl 1 rfl) ?_
    refine lv_iload_n hx hb dJ9_floorMod_7cf53_5 rfl (lv_at hl 2 rfl) ?_
    refine lv_ixor hx hb dJ9_floorMod_7cf53_6 ?_
    refine lv_if_ge (tgt := 18) hx hb dJ9_floorMod_7cf53_7 (by decide) (fun c3 => ?_) (fun c3 => ?_)
    · replace hf := if_te c3 hf
      refine lv_iload_n hx hb dJ9_floorMod_7cf53_18 rfl (lv_at hl 0 rfl) ?_
      cases hf
      exact kri hQ hAe hx hb hr hlocks hP hD hK hS dJ9_floorMod_7cf53_19
    · replace hf := if_fe c3 hf
      refine lv_iload_n hx hb dJ9_floorMod_7cf53_10 rfl (lv_at hl 0 rfl) ?_
      refine lv_if_eq (tgt := 18) hx hb dJ9_floorMod_7cf53_11 (by decide) (fun c4 => ?_) (fun c4 => ?_)
      · replace hf := if_te c4 hf
        refine lv_iload_n hx hb dJ9_floorMod_7cf53_18 rfl (lv_at hl 0 rfl) ?_
        cases hf
        exact kri hQ hAe hx hb hr hlocks hP hD hK hS dJ9_floorMod_7cf53_19
      · replace hf := if_fe c4 hf
        refine lv_iload_n hx hb dJ9_floorMod_7cf53_14 rfl (lv_at hl 0 rfl) ?_
        refine lv_iload_n hx hb dJ9_floorMod_7cf53_15 rfl (lv_at hl 2 rfl) ?_
        refine lv_iadd hx hb dJ9_floorMod_7cf53_16 ?_
        obtain ⟨t5, et5, hf⟩ := lj_e hf
        refine lv_ren et5 ?_
        cases hf
        exact kri hQ hAe hx hb hr hlocks hP hD hK hS dJ9_floorMod_7cf53_17
  exact main _ _ hP hD hS

def rmX1_restNow : Room := { frames := 1, cells := 0, slots := 0, locals := 22 }
theorem hdX1_restNow : yX1_restNow.cls = RX1 ∧ yX1_restNow.cls ≠ "java/lang/invoke/MethodHandle" ∧ yX1_restNow.cls ≠ "java/lang/invoke/VarHandle" ∧ (parseMethodDescriptor yX1_restNow.desc).map (fun d => d.parameters.length) = some 0 := by decide +kernel
set_option maxHeartbeats 40000000 in
set_option maxRecDepth 100000 in
theorem c_X1_restNow (l : Launch) (E : Nat → Nat) (D : va_G) (C : Nat → ClassId) (a0 a1 a2 a3 a4 a5 a6 : Nat) (sz : Nat) (v : PV)  (r : Int32) (hf : f_X1_restNow v = some r) : Met l yX1_restNow wsX1_restNow rmX1_restNow (PC E D C [.ref a0] (oPort C a0 a1 a2 a3 a4 a5 a6 v []) sz) (QI D C (oPort C a0 a1 a2 a3 a4 a5 a6 v []) (oPort C a0 a1 a2 a3 a4 a5 a6 v []) sz r) 0 0 (va_A (oPort C a0 a1 a2 a3 a4 a5 a6 v []) sz) := by
  refine Met.ofW (cc := cX1_restNow) (maxL := 1) (ret := (some .int)) (by decide) rfl ?_
  intro p e s m args below meth c s₁ B hml hv
  obtain ⟨rfl, hsz, hP, hK, hD0, hE⟩ := hv
  have hx := B.exec
  have hb := B.bytes
  have hr := B.returns
  have hts := atoms_spec (ws := wsX1_restNow) B.pre
  have hown : s.vm.findClass RX1 = some m.cls := findClass_of_methodNamed B.named
  have hlocks := B.notSynchronized
  subst hsz
  have hi_RX1 : ∀ w ∈ wsX10, w ∈ wsX1_restNow := fun _ h => List.mem_cons_of_mem _ (List.mem_append_right _ h)
  have hD := hD0.self (sz := s.heap.size)
  obtain ⟨A, hAe⟩ := nm_ex (va_A (oPort C a0 a1 a2 a3 a4 a5 a6 v []) s.heap.size)
  rw [← hAe] at hD hE ⊢
  have hA : ∀ q : Nat, s.heap.size ≤ q → A q := fun q h => by rw [hAe]; exact Or.inr h
  have hS : va_S A s.heap s.heap [] := va_S.rf
  have hl := lv_entry ([.ref a0]) (n := 1) (Nat.le_of_ble_eq_true rfl)
  rw [lg_entry_eq]
  generalize (lg_sl ([.ref a0]) ++ List.replicate (1 - (lg_sl ([.ref a0])).length) Slot.unset).toArray = ls at hl ⊢
  have hl : lv_has ls 1 [(0, .ref a0)] := hl
  obtain ⟨Q, hQ⟩ := nm_ex (MQ below (QI D C (oPort C a0 a1 a2 a3 a4 a5 a6 v []) (oPort C a0 a1 a2 a3 a4 a5 a6 v []) s.heap.size r) (List.toArray [Value.ref a0]) s 0 0 A)
  show W p l e (headSpec wsX1_restNow (rmX1_restNow)).room s m (List.toArray [Value.ref a0]) below meth c s.heap [] 0 0 (MQ below (QI D C (oPort C a0 a1 a2 a3 a4 a5 a6 v []) (oPort C a0 a1 a2 a3 a4 a5 a6 v []) s.heap.size r) (List.toArray [Value.ref a0]) s 0 0 A) _
  rw [← hQ]
  unfold f_X1_restNow at hf
  have main : ∀ (H : Heap) (locs : List Loc), va_P D vwCl (oPort C a0 a1 a2 a3 a4 a5 a6 v []) H → va_D A (oPort C a0 a1 a2 a3 a4 a5 a6 v []) → va_S A s.heap H locs → W p l e (headSpec wsX1_restNow (rmX1_restNow)).room s m (List.toArray [Value.ref a0]) below meth c H locs 0 0 Q (F0 m 0 ls []) := by
    intro H locs hP hD hS
    refine lv_aload_n hx hb dX1_restNow_0 rfl (lv_at hl 0 rfl) ?_
    refine va_get (D := D) (ci := 1) (v := .int (pHour v)) (C := RX1) (T := TX1) (N := 10) hx hb hts hi_RX1 hown hK hP 0 rfl rfl 7 (by decide) (hts (.fieldLink RX1 53 "TravelMarks$Port" "hour" "I") (List.mem_of_getElem? (i := 1) rfl)) (fun _ h9 => h9) rfl dX1_restNow_1 ?_
    refine lv_bipush (v := 6) hx hb dX1_restNow_4 rfl ?_
    obtain ⟨r1, h2, hf⟩ := ob1_e hf
    refine kci (Wx := (oPort C a0 a1 a2 a3 a4 a5 a6 v [])) (va_runS (As := [.int (pHour v), .int 6]) (rest := []) ⟨hx, hb, hml, hown, hts⟩ (c_J9_floorMod_7cf53 l E D C H.size (pHour v) 6 r1 h2) (va_cwS 2 hts gX1_restNow_J9_floorMod_7cf53 rfl rfl rfl hdJ9_floorMod_7cf53 ⟨Nat.le_of_ble_eq_true rfl, Nat.le_of_ble_eq_true rfl⟩) (kpre hP hD hK hS hE hA [] rfl rfl) rfl rfl hl.1 rfl (lv_room (Nat.le_of_ble_eq_true rfl)) dX1_restNow_6 ⟨Nat.zero_le _, Nat.zero_le _⟩) hP hD hS hA [] rfl rfl rfl (fun H locs hP hD hS => ?_)
    cases hf
    exact kri hQ hAe hx hb hr hlocks hP hD hK hS dX1_restNow_9
  exact main _ _ hP hD hS

def rmX1_targetOf : Room := { frames := 0, cells := 0, slots := 0, locals := 0 }
theorem hdX1_targetOf : yX1_targetOf.cls = RX1 ∧ yX1_targetOf.cls ≠ "java/lang/invoke/MethodHandle" ∧ yX1_targetOf.cls ≠ "java/lang/invoke/VarHandle" ∧ (parseMethodDescriptor yX1_targetOf.desc).map (fun d => d.parameters.length) = some 3 := by decide +kernel
set_option maxHeartbeats 40000000 in
set_option maxRecDepth 100000 in
theorem c_X1_targetOf (l : Launch) (E : Nat → Nat) (D : va_G) (C : Nat → ClassId) (a0 a1 a2 a3 a4 a5 a6 : Nat) (sz : Nat) (v : PV) (x0 : Int32) (x1 : Int32) (x2 : Int32) (r : Int32) (hf : f_X1_targetOf v x0 x1 x2 = some r) : Met l yX1_targetOf wsX1_targetOf rmX1_targetOf (PC E D C [.ref a0, .int x0, .int x1, .int x2] (oPort C a0 a1 a2 a3 a4 a5 a6 v []) sz) (QI D C (oPort C a0 a1 a2 a3 a4 a5 a6 v []) (oPort C a0 a1 a2 a3 a4 a5 a6 v []) sz r) 0 0 (va_A (oPort C a0 a1 a2 a3 a4 a5 a6 v []) sz) := by
  refine Met.ofW (cc := cX1_targetOf) (maxL := 4) (ret := (some .int)) (by decide) rfl ?_
  intro p e s m args below meth c s₁ B hml hv
  obtain ⟨rfl, hsz, hP, hK, hD0, hE⟩ := hv
  have hx := B.exec
  have hb := B.bytes
  have hr := B.returns
  have hts := atoms_spec (ws := wsX1_targetOf) B.pre
  have hown : s.vm.findClass RX1 = some m.cls := findClass_of_methodNamed B.named
  have hlocks := B.notSynchronized
  subst hsz
  have hi_RX1 : ∀ w ∈ wsX10, w ∈ wsX1_targetOf := fun _ h => List.mem_cons_of_mem _ (List.mem_append_right _ h)
  have hD := hD0.self (sz := s.heap.size)
  obtain ⟨A, hAe⟩ := nm_ex (va_A (oPort C a0 a1 a2 a3 a4 a5 a6 v []) s.heap.size)
  rw [← hAe] at hD hE ⊢
  have hA : ∀ q : Nat, s.heap.size ≤ q → A q := fun q h => by rw [hAe]; exact Or.inr h
  have hS : va_S A s.heap s.heap [] := va_S.rf
  have hl := lv_entry ([.ref a0, .int x0, .int x1, .int x2]) (n := 4) (Nat.le_of_ble_eq_true rfl)
  rw [lg_entry_eq]
  generalize (lg_sl ([.ref a0, .int x0, .int x1, .int x2]) ++ List.replicate (4 - (lg_sl ([.ref a0, .int x0, .int x1, .int x2])).length) Slot.unset).toArray = ls at hl ⊢
  have hl : lv_has ls 4 [(0, .ref a0), (1, .int x0), (2, .int x1), (3, .int x2)] := hl
  obtain ⟨Q, hQ⟩ := nm_ex (MQ below (QI D C (oPort C a0 a1 a2 a3 a4 a5 a6 v []) (oPort C a0 a1 a2 a3 a4 a5 a6 v []) s.heap.size r) (List.toArray [Value.ref a0, Value.int x0, Value.int x1, Value.int x2]) s 0 0 A)
  show W p l e (headSpec wsX1_targetOf (rmX1_targetOf)).room s m (List.toArray [Value.ref a0, Value.int x0, Value.int x1, Value.int x2]) below meth c s.heap [] 0 0 (MQ below (QI D C (oPort C a0 a1 a2 a3 a4 a5 a6 v []) (oPort C a0 a1 a2 a3 a4 a5 a6 v []) s.heap.size r) (List.toArray [Value.ref a0, Value.int x0, Value.int x1, Value.int x2]) s 0 0 A) _
  rw [← hQ]
  unfold f_X1_targetOf at hf
  have main : ∀ (H : Heap) (locs : List Loc), va_P D vwCl (oPort C a0 a1 a2 a3 a4 a5 a6 v []) H → va_D A (oPort C a0 a1 a2 a3 a4 a5 a6 v []) → va_S A s.heap H locs → W p l e (headSpec wsX1_targetOf (rmX1_targetOf)).room s m (List.toArray [Value.ref a0, Value.int x0, Value.int x1, Value.int x2]) below meth c H locs 0 0 Q (F0 m 0 ls []) := by
    intro H locs hP hD hS
    refine lv_aload_n hx hb dX1_targetOf_0 rfl (lv_at hl 0 rfl) ?_
    refine va_get (D := D) (ci := 1) (v := .ref a4) (C := RX1) (T := TX1) (N := 10) hx hb hts hi_RX1 hown hK hP 0 rfl rfl 3 (by decide) (hts (.fieldLink RX1 21 "TravelMarks$Port" "on" "[I") (List.mem_of_getElem? (i := 1) rfl)) (fun _ h9 => h9) rfl dX1_targetOf_1 ?_
    refine lv_iload_n hx hb dX1_targetOf_4 rfl (lv_at hl 1 rfl) ?_
    obtain ⟨y2, ey2, hi1, hf⟩ := rdA_x hf
    refine va_iald hx hb hK hP 4 0 rfl rfl hi1 dX1_targetOf_5 ?_
    refine lv_ren ey2 ?_
    refine lv_iload_n hx hb dX1_targetOf_6 rfl (lv_at hl 2 rfl) ?_
    refine lv_icmp_ne (tgt := 12) hx hb dX1_targetOf_7 (by decide) (fun c3 => ?_) (fun c3 => ?_)
    · replace hf := if_fe c3 hf
      refine lv_aload_n hx hb dX1_targetOf_12 rfl (lv_at hl 0 rfl) ?_
      refine va_get (D := D) (ci := 1) (v := .ref a4) (C := RX1) (T := TX1) (N := 10) hx hb hts hi_RX1 hown hK hP 0 rfl rfl 3 (by decide) (hts (.fieldLink RX1 21 "TravelMarks$Port" "on" "[I") (List.mem_of_getElem? (i := 1) rfl)) (fun _ h9 => h9) rfl dX1_targetOf_13 ?_
      refine lv_iload_n hx hb dX1_targetOf_16 rfl (lv_at hl 1 rfl) ?_
      obtain ⟨y5, ey5, hi4, hf⟩ := rdA_x hf
      refine va_iald hx hb hK hP 4 0 rfl rfl hi4 dX1_targetOf_17 ?_
      refine lv_ren ey5 ?_
      refine lv_iload_n hx hb dX1_targetOf_18 rfl (lv_at hl 3 rfl) ?_
      refine lv_icmp_ne (tgt := 26) hx hb dX1_targetOf_19 (by decide) (fun c6 => ?_) (fun c6 => ?_)
      · replace hf := if_fe c6 hf
        refine lv_iconst (v := (-1)) hx hb dX1_targetOf_26 rfl ?_
        cases hf
        exact kri hQ hAe hx hb hr hlocks hP hD hK hS dX1_targetOf_27
      · replace hf := if_te c6 hf
        refine lv_iload_n hx hb dX1_targetOf_22 rfl (lv_at hl 2 rfl) ?_
        refine lv_goto (tgt := 27) hx hb dX1_targetOf_23 (by decide) ?_
        cases hf
        exact kri hQ hAe hx hb hr hlocks hP hD hK hS dX1_targetOf_27
    · replace hf := if_te c3 hf
      refine lv_iload_n hx hb dX1_targetOf_10 rfl (lv_at hl 3 rfl) ?_
      cases hf
      exact kri hQ hAe hx hb hr hlocks hP hD hK hS dX1_targetOf_11
  exact main _ _ hP hD hS

def rmX1_loadOf : Room := { frames := 0, cells := 0, slots := 0, locals := 0 }
theorem hdX1_loadOf : yX1_loadOf.cls = RX1 ∧ yX1_loadOf.cls ≠ "java/lang/invoke/MethodHandle" ∧ yX1_loadOf.cls ≠ "java/lang/invoke/VarHandle" ∧ (parseMethodDescriptor yX1_loadOf.desc).map (fun d => d.parameters.length) = some 1 := by decide +kernel
set_option maxHeartbeats 40000000 in
set_option maxRecDepth 100000 in
theorem c_X1_loadOf (l : Launch) (E : Nat → Nat) (D : va_G) (C : Nat → ClassId) (a0 a1 a2 a3 a4 a5 a6 : Nat) (sz : Nat) (N : Nat) (v : PV) (x0 : Int32) (r : Int32) (hf : f_X1_loadOf N v x0 = some r) : Met l yX1_loadOf wsX1_loadOf rmX1_loadOf (PC E D C [.ref a0, .int x0] (oPort C a0 a1 a2 a3 a4 a5 a6 v []) sz) (QI D C (oPort C a0 a1 a2 a3 a4 a5 a6 v []) (oPort C a0 a1 a2 a3 a4 a5 a6 v []) sz r) 0 0 (va_A (oPort C a0 a1 a2 a3 a4 a5 a6 v []) sz) := by
  refine Met.ofW (cc := cX1_loadOf) (maxL := 4) (ret := (some .int)) (by decide) rfl ?_
  intro p e s m args below meth c s₁ B hml hv
  obtain ⟨rfl, hsz, hP, hK, hD0, hE⟩ := hv
  have hx := B.exec
  have hb := B.bytes
  have hr := B.returns
  have hts := atoms_spec (ws := wsX1_loadOf) B.pre
  have hown : s.vm.findClass RX1 = some m.cls := findClass_of_methodNamed B.named
  have hlocks := B.notSynchronized
  subst hsz
  have hi_RX1 : ∀ w ∈ wsX10, w ∈ wsX1_loadOf := fun _ h => List.mem_cons_of_mem _ (List.mem_append_right _ h)
  have hD := hD0.self (sz := s.heap.size)
  obtain ⟨A, hAe⟩ := nm_ex (va_A (oPort C a0 a1 a2 a3 a4 a5 a6 v []) s.heap.size)
  rw [← hAe] at hD hE ⊢
  have hA : ∀ q : Nat, s.heap.size ≤ q → A q := fun q h => by rw [hAe]; exact Or.inr h
  have hS : va_S A s.heap s.heap [] := va_S.rf
  have hl := lv_entry ([.ref a0, .int x0]) (n := 4) (Nat.le_of_ble_eq_true rfl)
  rw [lg_entry_eq]
  generalize (lg_sl ([.ref a0, .int x0]) ++ List.replicate (4 - (lg_sl ([.ref a0, .int x0])).length) Slot.unset).toArray = ls at hl ⊢
  have hl : lv_has ls 4 [(0, .ref a0), (1, .int x0)] := hl
  obtain ⟨Q, hQ⟩ := nm_ex (MQ below (QI D C (oPort C a0 a1 a2 a3 a4 a5 a6 v []) (oPort C a0 a1 a2 a3 a4 a5 a6 v []) s.heap.size r) (List.toArray [Value.ref a0, Value.int x0]) s 0 0 A)
  show W p l e (headSpec wsX1_loadOf (rmX1_loadOf)).room s m (List.toArray [Value.ref a0, Value.int x0]) below meth c s.heap [] 0 0 (MQ below (QI D C (oPort C a0 a1 a2 a3 a4 a5 a6 v []) (oPort C a0 a1 a2 a3 a4 a5 a6 v []) s.heap.size r) (List.toArray [Value.ref a0, Value.int x0]) s 0 0 A) _
  rw [← hQ]
  unfold f_X1_loadOf at hf
  have main : ∀ (H : Heap) (locs : List Loc), va_P D vwCl (oPort C a0 a1 a2 a3 a4 a5 a6 v []) H → va_D A (oPort C a0 a1 a2 a3 a4 a5 a6 v []) → va_S A s.heap H locs → W p l e (headSpec wsX1_loadOf (rmX1_loadOf)).room s m (List.toArray [Value.ref a0, Value.int x0]) below meth c H locs 0 0 Q (F0 m 0 ls []) := by
    intro H locs hP hD hS
    refine lv_iconst (v := 0) hx hb dX1_loadOf_0 rfl ?_
    refine lv_istore_n (lv' := [(2, .int 0), (0, .ref a0), (1, .int x0)]) hx hb dX1_loadOf_1 rfl hl (by decide) rfl (fun ls hl => ?_)
    refine lv_iconst (v := 0) hx hb dX1_loadOf_2 rfl ?_
    refine lv_istore_n (lv' := [(3, .int 0), (2, .int 0), (0, .ref a0), (1, .int x0)]) hx hb dX1_loadOf_3 rfl hl (by decide) rfl (fun ls hl => ?_)
    have hL4 : ∀ (n : Nat) (i1 : Int32) (i2 : Int32) (H : Heap) (locs : List Loc) (ls : Array Slot), va_P D vwCl (oPort C a0 a1 a2 a3 a4 a5 a6 v []) H → va_D A (oPort C a0 a1 a2 a3 a4 a5 a6 v []) → va_S A s.heap H locs → lv_has ls 4 [(3, .int i1), (2, .int i2), (0, .ref a0), (1, .int x0)] → f_X1_loadOf_L4 v x0 n i1 i2 = some r → W p l e (headSpec wsX1_loadOf (rmX1_loadOf)).room s m (List.toArray [Value.ref a0, Value.int x0]) below meth c H locs 0 0 Q (F0 m 4 ls []) := by
      intro n
      induction n with
      | zero =>
        intro i1 i2 H locs ls hP hD hS hl hf
        exact absurd hf (fun h => by cases h)
      | succ n ih =>
        intro i1 i2 H locs ls hP hD hS hl hf
        rw [f_X1_loadOf_L4] at hf
        refine lv_iload_n hx hb dX1_loadOf_4 rfl (lv_at hl 0 rfl) ?_
        refine lv_aload_n hx hb dX1_loadOf_5 rfl (lv_at hl 2 rfl) ?_
        refine va_get (D := D) (ci := 1) (v := .int (pCount v)) (C := RX1) (T := TX1) (N := 10) hx hb hts hi_RX1 hown hK hP 0 rfl rfl 6 (by decide) (hts (.fieldLink RX1 50 "TravelMarks$Port" "count" "I") (List.mem_of_getElem? (i := 1) rfl)) (fun _ h9 => h9) rfl dX1_loadOf_6 ?_
        refine lv_icmp_ge (tgt := 31) hx hb dX1_loadOf_9 (by decide) (fun c3 => ?_) (fun c3 => ?_)
        · replace hf := if_te c3 hf
          refine lv_iload_n hx hb dX1_loadOf_31 rfl (lv_at hl 1 rfl) ?_
          cases hf
          exact kri hQ hAe hx hb hr hlocks hP hD hK hS dX1_loadOf_32
        · replace hf := if_fe c3 hf
          refine lv_aload_n hx hb dX1_loadOf_12 rfl (lv_at hl 2 rfl) ?_
          refine va_get (D := D) (ci := 1) (v := .ref a4) (C := RX1) (T := TX1) (N := 10) hx hb hts hi_RX1 hown hK hP 0 rfl rfl 3 (by decide) (hts (.fieldLink RX1 21 "TravelMarks$Port" "on" "[I") (List.mem_of_getElem? (i := 2) rfl)) (fun _ h9 => h9) rfl dX1_loadOf_13 ?_
          refine lv_iload_n hx hb dX1_loadOf_16 rfl (lv_at hl 0 rfl) ?_
          obtain ⟨y5, ey5, hi4, hf⟩ := rdA_x hf
          refine va_iald hx hb hK hP 4 0 rfl rfl hi4 dX1_loadOf_17 ?_
          refine lv_ren ey5 ?_
          refine lv_iload_n hx hb dX1_loadOf_18 rfl (lv_at hl 3 rfl) ?_
          obtain ⟨j7, hj7, hf⟩ := lj_e hf
          have Hj7 : ∀ (i6 : Int32) (H : Heap) (locs : List Loc) (ls : Array Slot), va_P D vwCl (oPort C a0 a1 a2 a3 a4 a5 a6 v []) H → va_D A (oPort C a0 a1 a2 a3 a4 a5 a6 v []) → va_S A s.heap H locs → lv_has ls 4 [(3, .int i1), (2, .int i6), (0, .ref a0), (1, .int x0)] → j7 i6 = some r → W p l e (headSpec wsX1_loadOf (rmX1_loadOf)).room s m (List.toArray [Value.ref a0, Value.int x0]) below meth c H locs 0 0 Q (F0 m 25 ls []) := by
            intro i6 H locs ls hP hD hS hl hf
            rw [hj7] at hf
            obtain ⟨t8, et8, hf⟩ := lj_e hf
            refine lv_iinc (v := t8) (lv' := [(3, .int t8), (2, .int i6), (0, .ref a0), (1, .int x0)]) hx hb dX1_loadOf_25 hl (k := 0) rfl (by rw [et8]; rfl) (by decide) rfl (fun ls hl => ?_)
            refine lv_goto (tgt := 4) hx hb dX1_loadOf_28 (by decide) ?_
            exact ih t8 i6 H locs ls hP hD hS (lv_sub hl [0, 1, 2, 3] rfl) hf
          refine lv_icmp_ne (tgt := 25) hx hb dX1_loadOf_19 (by decide) (fun c9 => ?_) (fun c9 => ?_)
          · replace hf := if_fe c9 hf
            exact Hj7 i2 H locs ls hP hD hS (lv_sub hl [0, 1, 2, 3] rfl) hf
          · replace hf := if_te c9 hf
            obtain ⟨t10, et10, hf⟩ := lj_e hf
            refine lv_iinc (v := t10) (lv' := [(2, .int t10), (3, .int i1), (0, .ref a0), (1, .int x0)]) hx hb dX1_loadOf_22 hl (k := 1) rfl (by rw [et10]; rfl) (by decide) rfl (fun ls hl => ?_)
            exact Hj7 t10 H locs ls hP hD hS (lv_sub hl [1, 0, 2, 3] rfl) hf
    exact hL4 N 0 0 H locs ls hP hD hS (lv_sub hl [0, 1, 2, 3] rfl) hf
  exact main _ _ hP hD hS

def rmX1_isNameOn : Room := { frames := 0, cells := 0, slots := 0, locals := 0 }
theorem hdX1_isNameOn : yX1_isNameOn.cls = RX1 ∧ yX1_isNameOn.cls ≠ "java/lang/invoke/MethodHandle" ∧ yX1_isNameOn.cls ≠ "java/lang/invoke/VarHandle" ∧ (parseMethodDescriptor yX1_isNameOn.desc).map (fun d => d.parameters.length) = some 1 := by decide +kernel
set_option maxHeartbeats 40000000 in
set_option maxRecDepth 100000 in
theorem c_X1_isNameOn (l : Launch) (E : Nat → Nat) (D : va_G) (C : Nat → ClassId) (a0 a1 a2 a3 a4 a5 a6 : Nat) (sz : Nat) (N : Nat) (v : PV) (x0 : Int32) (r : Int32) (hf : f_X1_isNameOn N v x0 = some r) : Met l yX1_isNameOn wsX1_isNameOn rmX1_isNameOn (PC E D C [.ref a0, .int x0] (oPort C a0 a1 a2 a3 a4 a5 a6 v []) sz) (QZ D C (oPort C a0 a1 a2 a3 a4 a5 a6 v []) (oPort C a0 a1 a2 a3 a4 a5 a6 v []) sz r) 0 0 (va_A (oPort C a0 a1 a2 a3 a4 a5 a6 v []) sz) := by
  refine Met.ofW (cc := cX1_isNameOn) (maxL := 3) (ret := (some .boolean)) (by decide) rfl ?_
  intro p e s m args below meth c s₁ B hml hv
  obtain ⟨rfl, hsz, hP, hK, hD0, hE⟩ := hv
  have hx := B.exec
  have hb := B.bytes
  have hr := B.returns
  have hts := atoms_spec (ws := wsX1_isNameOn) B.pre
  have hown : s.vm.findClass RX1 = some m.cls := findClass_of_methodNamed B.named
  have hlocks := B.notSynchronized
  subst hsz
  have hi_RX1 : ∀ w ∈ wsX10, w ∈ wsX1_isNameOn := fun _ h => List.mem_cons_of_mem _ (List.mem_append_right _ h)
  have hD := hD0.self (sz := s.heap.size)
  obtain ⟨A, hAe⟩ := nm_ex (va_A (oPort C a0 a1 a2 a3 a4 a5 a6 v []) s.heap.size)
  rw [← hAe] at hD hE ⊢
  have hA : ∀ q : Nat, s.heap.size ≤ q → A q := fun q h => by rw [hAe]; exact Or.inr h
  have hS : va_S A s.heap s.heap [] := va_S.rf
  have hl := lv_entry ([.ref a0, .int x0]) (n := 3) (Nat.le_of_ble_eq_true rfl)
  rw [lg_entry_eq]
  generalize (lg_sl ([.ref a0, .int x0]) ++ List.replicate (3 - (lg_sl ([.ref a0, .int x0])).length) Slot.unset).toArray = ls at hl ⊢
  have hl : lv_has ls 3 [(0, .ref a0), (1, .int x0)] := hl
  obtain ⟨Q, hQ⟩ := nm_ex (MQ below (QZ D C (oPort C a0 a1 a2 a3 a4 a5 a6 v []) (oPort C a0 a1 a2 a3 a4 a5 a6 v []) s.heap.size r) (List.toArray [Value.ref a0, Value.int x0]) s 0 0 A)
  show W p l e (headSpec wsX1_isNameOn (rmX1_isNameOn)).room s m (List.toArray [Value.ref a0, Value.int x0]) below meth c s.heap [] 0 0 (MQ below (QZ D C (oPort C a0 a1 a2 a3 a4 a5 a6 v []) (oPort C a0 a1 a2 a3 a4 a5 a6 v []) s.heap.size r) (List.toArray [Value.ref a0, Value.int x0]) s 0 0 A) _
  rw [← hQ]
  unfold f_X1_isNameOn at hf
  have main : ∀ (H : Heap) (locs : List Loc), va_P D vwCl (oPort C a0 a1 a2 a3 a4 a5 a6 v []) H → va_D A (oPort C a0 a1 a2 a3 a4 a5 a6 v []) → va_S A s.heap H locs → W p l e (headSpec wsX1_isNameOn (rmX1_isNameOn)).room s m (List.toArray [Value.ref a0, Value.int x0]) below meth c H locs 0 0 Q (F0 m 0 ls []) := by
    intro H locs hP hD hS
    refine lv_iconst (v := 0) hx hb dX1_isNameOn_0 rfl ?_
    refine lv_istore_n (lv' := [(2, .int 0), (0, .ref a0), (1, .int x0)]) hx hb dX1_isNameOn_1 rfl hl (by decide) rfl (fun ls hl => ?_)
    have hL2 : ∀ (n : Nat) (i1 : Int32) (H : Heap) (locs : List Loc) (ls : Array Slot), va_P D vwCl (oPort C a0 a1 a2 a3 a4 a5 a6 v []) H → va_D A (oPort C a0 a1 a2 a3 a4 a5 a6 v []) → va_S A s.heap H locs → lv_has ls 3 [(2, .int i1), (0, .ref a0), (1, .int x0)] → f_X1_isNameOn_L2 v x0 n i1 = some r → W p l e (headSpec wsX1_isNameOn (rmX1_isNameOn)).room s m (List.toArray [Value.ref a0, Value.int x0]) below meth c H locs 0 0 Q (F0 m 2 ls []) := by
      intro n
      induction n with
      | zero =>
        intro i1 H locs ls hP hD hS hl hf
        exact absurd hf (fun h => by cases h)
      | succ n ih =>
        intro i1 H locs ls hP hD hS hl hf
        rw [f_X1_isNameOn_L2] at hf
        refine lv_iload_n hx hb dX1_isNameOn_2 rfl (lv_at hl 0 rfl) ?_
        refine lv_aload_n hx hb dX1_isNameOn_3 rfl (lv_at hl 1 rfl) ?_
        refine va_get (D := D) (ci := 1) (v := .int (pCount v)) (C := RX1) (T := TX1) (N := 10) hx hb hts hi_RX1 hown hK hP 0 rfl rfl 6 (by decide) (hts (.fieldLink RX1 50 "TravelMarks$Port" "count" "I") (List.mem_of_getElem? (i := 1) rfl)) (fun _ h9 => h9) rfl dX1_isNameOn_4 ?_
        refine lv_icmp_ge (tgt := 38) hx hb dX1_isNameOn_7 (by decide) (fun c2 => ?_) (fun c2 => ?_)
        · replace hf := if_te c2 hf
          refine lv_iconst (v := 0) hx hb dX1_isNameOn_38 rfl ?_
          cases hf
          exact krz hQ hAe hx hb hr hlocks zb_0 hP hD hK hS dX1_isNameOn_39
        · replace hf := if_fe c2 hf
          refine lv_aload_n hx hb dX1_isNameOn_10 rfl (lv_at hl 1 rfl) ?_
          refine va_get (D := D) (ci := 1) (v := .ref a4) (C := RX1) (T := TX1) (N := 10) hx hb hts hi_RX1 hown hK hP 0 rfl rfl 3 (by decide) (hts (.fieldLink RX1 21 "TravelMarks$Port" "on" "[I") (List.mem_of_getElem? (i := 2) rfl)) (fun _ h9 => h9) rfl dX1_isNameOn_11 ?_
          refine lv_iload_n hx hb dX1_isNameOn_14 rfl (lv_at hl 0 rfl) ?_
          obtain ⟨y4, ey4, hi3, hf⟩ := rdA_x hf
          refine va_iald hx hb hK hP 4 0 rfl rfl hi3 dX1_isNameOn_15 ?_
          refine lv_ren ey4 ?_
          refine lv_iload_n hx hb dX1_isNameOn_16 rfl (lv_at hl 2 rfl) ?_
          obtain ⟨j5, hj5, hf⟩ := lj_e hf
          have Hj5 : ∀ (H : Heap) (locs : List Loc) (ls : Array Slot), va_P D vwCl (oPort C a0 a1 a2 a3 a4 a5 a6 v []) H → va_D A (oPort C a0 a1 a2 a3 a4 a5 a6 v []) → va_S A s.heap H locs → lv_has ls 3 [(2, .int i1), (0, .ref a0), (1, .int x0)] → j5 = some r → W p l e (headSpec wsX1_isNameOn (rmX1_isNameOn)).room s m (List.toArray [Value.ref a0, Value.int x0]) below meth c H locs 0 0 Q (F0 m 32 ls []) := by
            intro H locs ls hP hD hS hl hf
            rw [hj5] at hf
            obtain ⟨t6, et6, hf⟩ := lj_e hf
            refine lv_iinc (v := t6) (lv' := [(2, .int t6), (0, .ref a0), (1, .int x0)]) hx hb dX1_isNameOn_32 hl (k := 0) rfl (by rw [et6]; rfl) (by decide) rfl (fun ls hl => ?_)
            refine lv_goto (tgt := 2) hx hb dX1_isNameOn_35 (by decide) ?_
            exact ih t6 H locs ls hP hD hS (lv_sub hl [0, 1, 2] rfl) hf
          refine lv_icmp_ne (tgt := 32) hx hb dX1_isNameOn_17 (by decide) (fun c7 => ?_) (fun c7 => ?_)
          · replace hf := if_fe c7 hf
            exact Hj5 H locs ls hP hD hS (lv_sub hl [0, 1, 2] rfl) hf
          · replace hf := if_te c7 hf
            refine lv_aload_n hx hb dX1_isNameOn_20 rfl (lv_at hl 1 rfl) ?_
            refine va_get (D := D) (ci := 1) (v := .ref a2) (C := RX1) (T := TX1) (N := 10) hx hb hts hi_RX1 hown hK hP 0 rfl rfl 1 (by decide) (hts (.fieldLink RX1 15 "TravelMarks$Port" "kind" "[I") (List.mem_of_getElem? (i := 3) rfl)) (fun _ h9 => h9) rfl dX1_isNameOn_21 ?_
            refine lv_iload_n hx hb dX1_isNameOn_24 rfl (lv_at hl 0 rfl) ?_
            obtain ⟨y9, ey9, hi8, hf⟩ := rdA_x hf
            refine va_iald hx hb hK hP 2 0 rfl rfl hi8 dX1_isNameOn_25 ?_
            refine lv_ren ey9 ?_
            refine lv_iconst (v := 5) hx hb dX1_isNameOn_26 rfl ?_
            refine lv_icmp_ne (tgt := 32) hx hb dX1_isNameOn_27 (by decide) (fun c10 => ?_) (fun c10 => ?_)
            · replace hf := if_fe c10 hf
              exact Hj5 H locs ls hP hD hS (lv_sub hl [0, 1, 2] rfl) hf
            · replace hf := if_te c10 hf
              refine lv_iconst (v := 1) hx hb dX1_isNameOn_30 rfl ?_
              cases hf
              exact krz hQ hAe hx hb hr hlocks zb_1 hP hD hK hS dX1_isNameOn_31
    exact hL2 N 0 H locs ls hP hD hS (lv_sub hl [0, 1, 2] rfl) hf
  exact main _ _ hP hD hS

def rmX1_goesTo : Room := { frames := 1, cells := 0, slots := 0, locals := 23 }
theorem hdX1_goesTo : yX1_goesTo.cls = RX1 ∧ yX1_goesTo.cls ≠ "java/lang/invoke/MethodHandle" ∧ yX1_goesTo.cls ≠ "java/lang/invoke/VarHandle" ∧ (parseMethodDescriptor yX1_goesTo.desc).map (fun d => d.parameters.length) = some 2 := by decide +kernel
set_option maxHeartbeats 40000000 in
set_option maxRecDepth 100000 in
theorem c_X1_goesTo (l : Launch) (E : Nat → Nat) (D : va_G) (C : Nat → ClassId) (a0 a1 a2 a3 a4 a5 a6 : Nat) (sz : Nat) (N : Nat) (v : PV) (x0 : Int32) (x1 : Int32) (r : Int32) (hf : f_X1_goesTo N v x0 x1 = some r) : Met l yX1_goesTo wsX1_goesTo rmX1_goesTo (PC E D C [.ref a0, .int x0, .int x1] (oPort C a0 a1 a2 a3 a4 a5 a6 v []) sz) (QZ D C (oPort C a0 a1 a2 a3 a4 a5 a6 v []) (oPort C a0 a1 a2 a3 a4 a5 a6 v []) sz r) 0 0 (va_A (oPort C a0 a1 a2 a3 a4 a5 a6 v []) sz) := by
  refine Met.ofW (cc := cX1_goesTo) (maxL := 4) (ret := (some .boolean)) (by decide) rfl ?_
  intro p e s m args below meth c s₁ B hml hv
  obtain ⟨rfl, hsz, hP, hK, hD0, hE⟩ := hv
  have hx := B.exec
  have hb := B.bytes
  have hr := B.returns
  have hts := atoms_spec (ws := wsX1_goesTo) B.pre
  have hown : s.vm.findClass RX1 = some m.cls := findClass_of_methodNamed B.named
  have hlocks := B.notSynchronized
  subst hsz
  have hi_RX1 : ∀ w ∈ wsX10, w ∈ wsX1_goesTo := fun _ h => List.mem_cons_of_mem _ (List.mem_append_right _ h)
  have hD := hD0.self (sz := s.heap.size)
  obtain ⟨A, hAe⟩ := nm_ex (va_A (oPort C a0 a1 a2 a3 a4 a5 a6 v []) s.heap.size)
  rw [← hAe] at hD hE ⊢
  have hA : ∀ q : Nat, s.heap.size ≤ q → A q := fun q h => by rw [hAe]; exact Or.inr h
  have hS : va_S A s.heap s.heap [] := va_S.rf
  have hl := lv_entry ([.ref a0, .int x0, .int x1]) (n := 4) (Nat.le_of_ble_eq_true rfl)
  rw [lg_entry_eq]
  generalize (lg_sl ([.ref a0, .int x0, .int x1]) ++ List.replicate (4 - (lg_sl ([.ref a0, .int x0, .int x1])).length) Slot.unset).toArray = ls at hl ⊢
  have hl : lv_has ls 4 [(0, .ref a0), (1, .int x0), (2, .int x1)] := hl
  obtain ⟨Q, hQ⟩ := nm_ex (MQ below (QZ D C (oPort C a0 a1 a2 a3 a4 a5 a6 v []) (oPort C a0 a1 a2 a3 a4 a5 a6 v []) s.heap.size r) (List.toArray [Value.ref a0, Value.int x0, Value.int x1]) s 0 0 A)
  show W p l e (headSpec wsX1_goesTo (rmX1_goesTo)).room s m (List.toArray [Value.ref a0, Value.int x0, Value.int x1]) below meth c s.heap [] 0 0 (MQ below (QZ D C (oPort C a0 a1 a2 a3 a4 a5 a6 v []) (oPort C a0 a1 a2 a3 a4 a5 a6 v []) s.heap.size r) (List.toArray [Value.ref a0, Value.int x0, Value.int x1]) s 0 0 A) _
  rw [← hQ]
  unfold f_X1_goesTo at hf
  have main : ∀ (H : Heap) (locs : List Loc), va_P D vwCl (oPort C a0 a1 a2 a3 a4 a5 a6 v []) H → va_D A (oPort C a0 a1 a2 a3 a4 a5 a6 v []) → va_S A s.heap H locs → W p l e (headSpec wsX1_goesTo (rmX1_goesTo)).room s m (List.toArray [Value.ref a0, Value.int x0, Value.int x1]) below meth c H locs 0 0 Q (F0 m 0 ls []) := by
    intro H locs hP hD hS
    refine lv_aload_n hx hb dX1_goesTo_0 rfl (lv_at hl 0 rfl) ?_
    refine va_get (D := D) (ci := 1) (v := .ref a3) (C := RX1) (T := TX1) (N := 10) hx hb hts hi_RX1 hown hK hP 0 rfl rfl 2 (by decide) (hts (.fieldLink RX1 18 "TravelMarks$Port" "ink" "[I") (List.mem_of_getElem? (i := 1) rfl)) (fun _ h9 => h9) rfl dX1_goesTo_1 ?_
    refine lv_iload_n hx hb dX1_goesTo_4 rfl (lv_at hl 1 rfl) ?_
    obtain ⟨y2, ey2, hi1, hf⟩ := rdA_x hf
    refine va_iald hx hb hK hP 3 0 rfl rfl hi1 dX1_goesTo_5 ?_
    refine lv_ren ey2 ?_
    obtain ⟨j4, hj4, hf⟩ := lj_e hf
    have Hj4 : ∀ (k3 : Int32) (H : Heap) (locs : List Loc) (ls : Array Slot), va_P D vwCl (oPort C a0 a1 a2 a3 a4 a5 a6 v []) H → va_D A (oPort C a0 a1 a2 a3 a4 a5 a6 v []) → va_S A s.heap H locs → lv_has ls 4 [(0, .ref a0), (1, .int x0), (2, .int x1)] → j4 k3 = some r → W p l e (headSpec wsX1_goesTo (rmX1_goesTo)).room s m (List.toArray [Value.ref a0, Value.int x0, Value.int x1]) below meth c H locs 0 0 Q (F0 m 14 ls [.int k3]) := by
      intro k3 H locs ls hP hD hS hl hf
      rw [hj4] at hf
      refine lv_istore_n (lv' := [(3, .int k3), (0, .ref a0), (1, .int x0), (2, .int x1)]) hx hb dX1_goesTo_14 rfl hl (by decide) rfl (fun ls hl => ?_)
      refine lv_aload_n hx hb dX1_goesTo_15 rfl (lv_at hl 1 rfl) ?_
      refine va_get (D := D) (ci := 1) (v := .ref a2) (C := RX1) (T := TX1) (N := 10) hx hb hts hi_RX1 hown hK hP 0 rfl rfl 1 (by decide) (hts (.fieldLink RX1 15 "TravelMarks$Port" "kind" "[I") (List.mem_of_getElem? (i := 2) rfl)) (fun _ h9 => h9) rfl dX1_goesTo_16 ?_
      refine lv_iload_n hx hb dX1_goesTo_19 rfl (lv_at hl 2 rfl) ?_
      obtain ⟨y6, ey6, hi5, hf⟩ := rdA_x hf
      refine va_iald hx hb hK hP 2 0 rfl rfl hi5 dX1_goesTo_20 ?_
      refine lv_ren ey6 ?_
      by_cases c7 : y6 = 1
      · replace hf := if_te c7 hf
        refine lv_tableIn (x := y6) (tgt := 56) (off := 35) hx hb dX1_goesTo_21 (by rw [c7]; decide) (by rw [c7]; decide) (by rw [c7]; try rfl) (by decide) ?_
        refine lv_iload_n hx hb dX1_goesTo_56 rfl (lv_at hl 0 rfl) ?_
        refine lv_if_eq (tgt := 78) hx hb dX1_goesTo_57 (by decide) (fun c8 => ?_) (fun c8 => ?_)
        · replace hf := if_te c8 hf
          refine lv_iconst (v := 0) hx hb dX1_goesTo_78 rfl ?_
          cases hf
          exact krz hQ hAe hx hb hr hlocks zb_0 hP hD hK hS dX1_goesTo_79
        · replace hf := if_fe c8 hf
          refine lv_aload_n hx hb dX1_goesTo_60 rfl (lv_at hl 1 rfl) ?_
          refine lv_iload_n hx hb dX1_goesTo_61 rfl (lv_at hl 3 rfl) ?_
          obtain ⟨r9, h10, hf⟩ := ob1_e hf
          refine kci (Wx := (oPort C a0 a1 a2 a3 a4 a5 a6 v [])) (va_runV (As := [.int x1]) (rest := []) ⟨hx, hb, hml, hown, hts⟩ (c_X1_loadOf l E D C a0 a1 a2 a3 a4 a5 a6 H.size N v x1 r9 h10) (cwV 1 hts gX1_goesTo_X1_loadOf rfl rfl rfl hdX1_loadOf ⟨Nat.le_of_ble_eq_true rfl, Nat.le_of_ble_eq_true rfl⟩) (kpreV hP hD hK hS hE hA [0, 1, 2, 3, 4, 5, 6] rfl rfl 0 rfl rfl rfl) rfl rfl hl.1 rfl (lv_room (Nat.le_of_ble_eq_true rfl)) dX1_goesTo_62 ⟨Nat.zero_le _, Nat.zero_le _⟩) hP hD hS hA [0, 1, 2, 3, 4, 5, 6] rfl rfl rfl (fun H locs hP hD hS => ?_)
          refine lv_aload_n hx hb dX1_goesTo_65 rfl (lv_at hl 1 rfl) ?_
          refine va_get (D := D) (ci := 1) (v := .ref a1) (C := RX1) (T := TX1) (N := 10) hx hb hts hi_RX1 hown hK hP 0 rfl rfl 0 (by decide) (hts (.fieldLink RX1 9 "TravelMarks$Port" "laws" "[I") (List.mem_of_getElem? (i := 3) rfl)) (fun _ h9 => h9) rfl dX1_goesTo_66 ?_
          refine lv_iconst (v := 0) hx hb dX1_goesTo_69 rfl ?_
          refine va_iald hx hb hK hP 1 0 rfl rfl (i := 0) (vin (by decide)) dX1_goesTo_70 ?_
          refine lv_ren (show ((pLaws v) 0) = (pLaws v) (Int32.toNatClampNeg 0) from rfl) ?_
          refine lv_icmp_ge (tgt := 78) hx hb dX1_goesTo_71 (by decide) (fun c11 => ?_) (fun c11 => ?_)
          · replace hf := if_te c11 hf
            refine lv_iconst (v := 0) hx hb dX1_goesTo_78 rfl ?_
            cases hf
            exact krz hQ hAe hx hb hr hlocks zb_0 hP hD hK hS dX1_goesTo_79
          · replace hf := if_fe c11 hf
            refine lv_iconst (v := 1) hx hb dX1_goesTo_74 rfl ?_
            refine lv_goto (tgt := 79) hx hb dX1_goesTo_75 (by decide) ?_
            cases hf
            exact krz hQ hAe hx hb hr hlocks zb_1 hP hD hK hS dX1_goesTo_79
      replace hf := if_fe c7 hf
      by_cases c12 : y6 = 2
      · replace hf := if_te c12 hf
        refine lv_tableIn (x := y6) (tgt := 113) (off := 92) hx hb dX1_goesTo_21 (by rw [c12]; decide) (by rw [c12]; decide) (by rw [c12]; try rfl) (by decide) ?_
        refine lv_iload_n hx hb dX1_goesTo_113 rfl (lv_at hl 0 rfl) ?_
        refine lv_if_eq (tgt := 131) hx hb dX1_goesTo_114 (by decide) (fun c13 => ?_) (fun c13 => ?_)
        · replace hf := if_te c13 hf
          refine lv_iconst (v := 0) hx hb dX1_goesTo_131 rfl ?_
          cases hf
          exact krz hQ hAe hx hb hr hlocks zb_0 hP hD hK hS dX1_goesTo_132
        · replace hf := if_fe c13 hf
          refine lv_iload_n hx hb dX1_goesTo_117 rfl (lv_at hl 3 rfl) ?_
          refine lv_aload_n hx hb dX1_goesTo_118 rfl (lv_at hl 1 rfl) ?_
          refine va_get (D := D) (ci := 1) (v := .ref a4) (C := RX1) (T := TX1) (N := 10) hx hb hts hi_RX1 hown hK hP 0 rfl rfl 3 (by decide) (hts (.fieldLink RX1 21 "TravelMarks$Port" "on" "[I") (List.mem_of_getElem? (i := 5) rfl)) (fun _ h9 => h9) rfl dX1_goesTo_119 ?_
          refine lv_iload_n hx hb dX1_goesTo_122 rfl (lv_at hl 2 rfl) ?_
          obtain ⟨y15, ey15, hi14, hf⟩ := rdA_x hf
          refine va_iald hx hb hK hP 4 0 rfl rfl hi14 dX1_goesTo_123 ?_
          refine lv_ren ey15 ?_
          refine lv_icmp_le (tgt := 131) hx hb dX1_goesTo_124 (by decide) (fun c16 => ?_) (fun c16 => ?_)
          · replace hf := if_te c16 hf
            refine lv_iconst (v := 0) hx hb dX1_goesTo_131 rfl ?_
            cases hf
            exact krz hQ hAe hx hb hr hlocks zb_0 hP hD hK hS dX1_goesTo_132
          · replace hf := if_fe c16 hf
            refine lv_iconst (v := 1) hx hb dX1_goesTo_127 rfl ?_
            refine lv_goto (tgt := 132) hx hb dX1_goesTo_128 (by decide) ?_
            cases hf
            exact krz hQ hAe hx hb hr hlocks zb_1 hP hD hK hS dX1_goesTo_132
      replace hf := if_fe c12 hf
      by_cases c17 : y6 = 3
      · replace hf := if_te c17 hf
        refine lv_tableIn (x := y6) (tgt := 80) (off := 59) hx hb dX1_goesTo_21 (by rw [c17]; decide) (by rw [c17]; decide) (by rw [c17]; try rfl) (by decide) ?_
        refine lv_iload_n hx hb dX1_goesTo_80 rfl (lv_at hl 0 rfl) ?_
        refine lv_if_eq (tgt := 111) hx hb dX1_goesTo_81 (by decide) (fun c18 => ?_) (fun c18 => ?_)
        · replace hf := if_te c18 hf
          refine lv_iconst (v := 0) hx hb dX1_goesTo_111 rfl ?_
          cases hf
          exact krz hQ hAe hx hb hr hlocks zb_0 hP hD hK hS dX1_goesTo_112
        · replace hf := if_fe c18 hf
          refine lv_aload_n hx hb dX1_goesTo_84 rfl (lv_at hl 1 rfl) ?_
          refine lv_iload_n hx hb dX1_goesTo_85 rfl (lv_at hl 3 rfl) ?_
          obtain ⟨r19, h20, hf⟩ := ob1_e hf
          refine kci (Wx := (oPort C a0 a1 a2 a3 a4 a5 a6 v [])) (va_runV (As := [.int x1]) (rest := []) ⟨hx, hb, hml, hown, hts⟩ (c_X1_loadOf l E D C a0 a1 a2 a3 a4 a5 a6 H.size N v x1 r19 h20) (cwV 1 hts gX1_goesTo_X1_loadOf rfl rfl rfl hdX1_loadOf ⟨Nat.le_of_ble_eq_true rfl, Nat.le_of_ble_eq_true rfl⟩) (kpreV hP hD hK hS hE hA [0, 1, 2, 3, 4, 5, 6] rfl rfl 0 rfl rfl rfl) rfl rfl hl.1 rfl (lv_room (Nat.le_of_ble_eq_true rfl)) dX1_goesTo_86 ⟨Nat.zero_le _, Nat.zero_le _⟩) hP hD hS hA [0, 1, 2, 3, 4, 5, 6] rfl rfl rfl (fun H locs hP hD hS => ?_)
          refine lv_aload_n hx hb dX1_goesTo_89 rfl (lv_at hl 1 rfl) ?_
          refine va_get (D := D) (ci := 1) (v := .ref a1) (C := RX1) (T := TX1) (N := 10) hx hb hts hi_RX1 hown hK hP 0 rfl rfl 0 (by decide) (hts (.fieldLink RX1 9 "TravelMarks$Port" "laws" "[I") (List.mem_of_getElem? (i := 3) rfl)) (fun _ h9 => h9) rfl dX1_goesTo_90 ?_
          refine lv_iconst (v := 0) hx hb dX1_goesTo_93 rfl ?_
          refine va_iald hx hb hK hP 1 0 rfl rfl (i := 0) (vin (by decide)) dX1_goesTo_94 ?_
          refine lv_ren (show ((pLaws v) 0) = (pLaws v) (Int32.toNatClampNeg 0) from rfl) ?_
          refine lv_icmp_ge (tgt := 111) hx hb dX1_goesTo_95 (by decide) (fun c21 => ?_) (fun c21 => ?_)
          · replace hf := if_te c21 hf
            refine lv_iconst (v := 0) hx hb dX1_goesTo_111 rfl ?_
            cases hf
            exact krz hQ hAe hx hb hr hlocks zb_0 hP hD hK hS dX1_goesTo_112
          · replace hf := if_fe c21 hf
            refine lv_aload_n hx hb dX1_goesTo_98 rfl (lv_at hl 1 rfl) ?_
            refine va_get (D := D) (ci := 1) (v := .int (pHour v)) (C := RX1) (T := TX1) (N := 10) hx hb hts hi_RX1 hown hK hP 0 rfl rfl 7 (by decide) (hts (.fieldLink RX1 53 "TravelMarks$Port" "hour" "I") (List.mem_of_getElem? (i := 4) rfl)) (fun _ h9 => h9) rfl dX1_goesTo_99 ?_
            refine lv_iconst (v := 1) hx hb dX1_goesTo_102 rfl ?_
            refine lv_iand hx hb dX1_goesTo_103 ?_
            refine lv_if_ne (tgt := 111) hx hb dX1_goesTo_104 (by decide) (fun c22 => ?_) (fun c22 => ?_)
            · replace hf := if_fe c22 hf
              refine lv_iconst (v := 0) hx hb dX1_goesTo_111 rfl ?_
              cases hf
              exact krz hQ hAe hx hb hr hlocks zb_0 hP hD hK hS dX1_goesTo_112
            · replace hf := if_te c22 hf
              refine lv_iconst (v := 1) hx hb dX1_goesTo_107 rfl ?_
              refine lv_goto (tgt := 112) hx hb dX1_goesTo_108 (by decide) ?_
              cases hf
              exact krz hQ hAe hx hb hr hlocks zb_1 hP hD hK hS dX1_goesTo_112
      replace hf := if_fe c17 hf
      by_cases c23 : y6 = 4
      · replace hf := if_te c23 hf
        refine lv_tableIn (x := y6) (tgt := 133) (off := 112) hx hb dX1_goesTo_21 (by rw [c23]; decide) (by rw [c23]; decide) (by rw [c23]; try rfl) (by decide) ?_
        refine lv_iload_n hx hb dX1_goesTo_133 rfl (lv_at hl 0 rfl) ?_
        obtain ⟨j24, hj24, hf⟩ := lj_e hf
        have Hj24 : ∀ (H : Heap) (locs : List Loc) (ls : Array Slot), va_P D vwCl (oPort C a0 a1 a2 a3 a4 a5 a6 v []) H → va_D A (oPort C a0 a1 a2 a3 a4 a5 a6 v []) → va_S A s.heap H locs → lv_has ls 4 [(0, .ref a0), (1, .int x0)] → j24 = some r → W p l e (headSpec wsX1_goesTo (rmX1_goesTo)).room s m (List.toArray [Value.ref a0, Value.int x0, Value.int x1]) below meth c H locs 0 0 Q (F0 m 147 ls []) := by
          intro H locs ls hP hD hS hl hf
          rw [hj24] at hf
          refine lv_aload_n hx hb dX1_goesTo_147 rfl (lv_at hl 0 rfl) ?_
          refine va_get (D := D) (ci := 1) (v := .ref a3) (C := RX1) (T := TX1) (N := 10) hx hb hts hi_RX1 hown hK hP 0 rfl rfl 2 (by decide) (hts (.fieldLink RX1 18 "TravelMarks$Port" "ink" "[I") (List.mem_of_getElem? (i := 1) rfl)) (fun _ h9 => h9) rfl dX1_goesTo_148 ?_
          refine lv_iload_n hx hb dX1_goesTo_151 rfl (lv_at hl 1 rfl) ?_
          obtain ⟨y26, ey26, hi25, hf⟩ := rdA_x hf
          refine va_iald hx hb hK hP 3 0 rfl rfl hi25 dX1_goesTo_152 ?_
          refine lv_ren ey26 ?_
          refine lv_aload_n hx hb dX1_goesTo_153 rfl (lv_at hl 0 rfl) ?_
          refine va_get (D := D) (ci := 1) (v := .ref a1) (C := RX1) (T := TX1) (N := 10) hx hb hts hi_RX1 hown hK hP 0 rfl rfl 0 (by decide) (hts (.fieldLink RX1 9 "TravelMarks$Port" "laws" "[I") (List.mem_of_getElem? (i := 3) rfl)) (fun _ h9 => h9) rfl dX1_goesTo_154 ?_
          refine lv_iconst (v := 2) hx hb dX1_goesTo_157 rfl ?_
          refine va_iald hx hb hK hP 1 0 rfl rfl (i := 2) (vin (by decide)) dX1_goesTo_158 ?_
          refine lv_ren (show ((pLaws v) 2) = (pLaws v) (Int32.toNatClampNeg 2) from rfl) ?_
          refine lv_icmp_lt (tgt := 166) hx hb dX1_goesTo_159 (by decide) (fun c27 => ?_) (fun c27 => ?_)
          · replace hf := if_te c27 hf
            refine lv_iconst (v := 0) hx hb dX1_goesTo_166 rfl ?_
            cases hf
            exact krz hQ hAe hx hb hr hlocks zb_0 hP hD hK hS dX1_goesTo_167
          · replace hf := if_fe c27 hf
            refine lv_iconst (v := 1) hx hb dX1_goesTo_162 rfl ?_
            refine lv_goto (tgt := 167) hx hb dX1_goesTo_163 (by decide) ?_
            cases hf
            exact krz hQ hAe hx hb hr hlocks zb_1 hP hD hK hS dX1_goesTo_167
        refine lv_if_eq (tgt := 147) hx hb dX1_goesTo_134 (by decide) (fun c28 => ?_) (fun c28 => ?_)
        · replace hf := if_te c28 hf
          exact Hj24 H locs ls hP hD hS (lv_sub hl [1, 2] rfl) hf
        · replace hf := if_fe c28 hf
          refine lv_iload_n hx hb dX1_goesTo_137 rfl (lv_at hl 3 rfl) ?_
          refine lv_aload_n hx hb dX1_goesTo_138 rfl (lv_at hl 1 rfl) ?_
          refine va_get (D := D) (ci := 1) (v := .ref a4) (C := RX1) (T := TX1) (N := 10) hx hb hts hi_RX1 hown hK hP 0 rfl rfl 3 (by decide) (hts (.fieldLink RX1 21 "TravelMarks$Port" "on" "[I") (List.mem_of_getElem? (i := 5) rfl)) (fun _ h9 => h9) rfl dX1_goesTo_139 ?_
          refine lv_iload_n hx hb dX1_goesTo_142 rfl (lv_at hl 2 rfl) ?_
          obtain ⟨y30, ey30, hi29, hf⟩ := rdA_x hf
          refine va_iald hx hb hK hP 4 0 rfl rfl hi29 dX1_goesTo_143 ?_
          refine lv_ren ey30 ?_
          refine lv_icmp_gt (tgt := 162) hx hb dX1_goesTo_144 (by decide) (fun c31 => ?_) (fun c31 => ?_)
          · replace hf := if_te c31 hf
            refine lv_iconst (v := 1) hx hb dX1_goesTo_162 rfl ?_
            refine lv_goto (tgt := 167) hx hb dX1_goesTo_163 (by decide) ?_
            cases hf
            exact krz hQ hAe hx hb hr hlocks zb_1 hP hD hK hS dX1_goesTo_167
          · replace hf := if_fe c31 hf
            exact Hj24 H locs ls hP hD hS (lv_sub hl [1, 2] rfl) hf
      replace hf := if_fe c23 hf
      by_cases c32 : y6 = 5
      · replace hf := if_te c32 hf
        refine lv_tableIn (x := y6) (tgt := 168) (off := 147) hx hb dX1_goesTo_21 (by rw [c32]; decide) (by rw [c32]; decide) (by rw [c32]; try rfl) (by decide) ?_
        refine lv_iload_n hx hb dX1_goesTo_168 rfl (lv_at hl 0 rfl) ?_
        refine lv_if_eq (tgt := 184) hx hb dX1_goesTo_169 (by decide) (fun c33 => ?_) (fun c33 => ?_)
        · replace hf := if_te c33 hf
          refine lv_iconst (v := 0) hx hb dX1_goesTo_184 rfl ?_
          cases hf
          exact krz hQ hAe hx hb hr hlocks zb_0 hP hD hK hS dX1_goesTo_185
        · replace hf := if_fe c33 hf
          refine lv_aload_n hx hb dX1_goesTo_172 rfl (lv_at hl 1 rfl) ?_
          refine lv_iload_n hx hb dX1_goesTo_173 rfl (lv_at hl 3 rfl) ?_
          obtain ⟨r34, h35, hf⟩ := ob1_e hf
          refine kcz (Wx := (oPort C a0 a1 a2 a3 a4 a5 a6 v [])) (va_runV (As := [.int x1]) (rest := []) ⟨hx, hb, hml, hown, hts⟩ (c_X1_isNameOn l E D C a0 a1 a2 a3 a4 a5 a6 H.size N v x1 r34 h35) (cwV 1 hts gX1_goesTo_X1_isNameOn rfl rfl rfl hdX1_isNameOn ⟨Nat.le_of_ble_eq_true rfl, Nat.le_of_ble_eq_true rfl⟩) (kpreV hP hD hK hS hE hA [0, 1, 2, 3, 4, 5, 6] rfl rfl 0 rfl rfl rfl) rfl rfl hl.1 rfl (lv_room (Nat.le_of_ble_eq_true rfl)) dX1_goesTo_174 ⟨Nat.zero_le _, Nat.zero_le _⟩) hP hD hS hA [0, 1, 2, 3, 4, 5, 6] rfl rfl rfl (fun H locs hz36 hP hD hS => ?_)
          refine lv_if_ne (tgt := 184) hx hb dX1_goesTo_177 (by decide) (fun c37 => ?_) (fun c37 => ?_)
          · replace hf := if_fe c37 hf
            refine lv_iconst (v := 0) hx hb dX1_goesTo_184 rfl ?_
            cases hf
            exact krz hQ hAe hx hb hr hlocks zb_0 hP hD hK hS dX1_goesTo_185
          · replace hf := if_te c37 hf
            refine lv_iconst (v := 1) hx hb dX1_goesTo_180 rfl ?_
            refine lv_goto (tgt := 185) hx hb dX1_goesTo_181 (by decide) ?_
            cases hf
            exact krz hQ hAe hx hb hr hlocks zb_1 hP hD hK hS dX1_goesTo_185
      replace hf := if_fe c32 hf
      refine lv_tableOut (x := y6) (tgt := 186) hx hb dX1_goesTo_21 (swo_1_5 c7 c12 c17 c23 c32) (by decide) ?_
      refine lv_iload_n hx hb dX1_goesTo_186 rfl (lv_at hl 0 rfl) ?_
      obtain ⟨hz38, hf⟩ := gdP_e hf
      cases hf
      exact krz hQ hAe hx hb hr hlocks (zb_of hz38) hP hD hK hS dX1_goesTo_187
    refine lv_if_le (tgt := 13) hx hb dX1_goesTo_6 (by decide) (fun c39 => ?_) (fun c39 => ?_)
    · replace hf := if_te c39 hf
      refine lv_iconst (v := 0) hx hb dX1_goesTo_13 rfl ?_
      exact Hj4 0 H locs ls hP hD hS (lv_sub hl [0, 1, 2] rfl) hf
    · replace hf := if_fe c39 hf
      refine lv_iconst (v := 1) hx hb dX1_goesTo_9 rfl ?_
      refine lv_goto (tgt := 14) hx hb dX1_goesTo_10 (by decide) ?_
      exact Hj4 1 H locs ls hP hD hS (lv_sub hl [0, 1, 2] rfl) hf
  exact main _ _ hP hD hS

def rmX1_goesNow : Room := { frames := 2, cells := 0, slots := 0, locals := 46 }
theorem hdX1_goesNow : yX1_goesNow.cls = RX1 ∧ yX1_goesNow.cls ≠ "java/lang/invoke/MethodHandle" ∧ yX1_goesNow.cls ≠ "java/lang/invoke/VarHandle" ∧ (parseMethodDescriptor yX1_goesNow.desc).map (fun d => d.parameters.length) = some 1 := by decide +kernel
set_option maxHeartbeats 40000000 in
set_option maxRecDepth 100000 in
theorem c_X1_goesNow (l : Launch) (E : Nat → Nat) (D : va_G) (C : Nat → ClassId) (a0 a1 a2 a3 a4 a5 a6 : Nat) (sz : Nat) (N : Nat) (v : PV) (x0 : Int32) (r : Int32) (hf : f_X1_goesNow N v x0 = some r) : Met l yX1_goesNow wsX1_goesNow rmX1_goesNow (PC E D C [.ref a0, .int x0] (oPort C a0 a1 a2 a3 a4 a5 a6 v []) sz) (QZ D C (oPort C a0 a1 a2 a3 a4 a5 a6 v []) (oPort C a0 a1 a2 a3 a4 a5 a6 v []) sz r) 0 0 (va_A (oPort C a0 a1 a2 a3 a4 a5 a6 v []) sz) := by
  refine Met.ofW (cc := cX1_goesNow) (maxL := 4) (ret := (some .boolean)) (by decide) rfl ?_
  intro p e s m args below meth c s₁ B hml hv
  obtain ⟨rfl, hsz, hP, hK, hD0, hE⟩ := hv
  have hx := B.exec
  have hb := B.bytes
  have hr := B.returns
  have hts := atoms_spec (ws := wsX1_goesNow) B.pre
  have hown : s.vm.findClass RX1 = some m.cls := findClass_of_methodNamed B.named
  have hlocks := B.notSynchronized
  subst hsz
  have hi_RX1 : ∀ w ∈ wsX10, w ∈ wsX1_goesNow := fun _ h => List.mem_cons_of_mem _ (List.mem_append_right _ h)
  have hD := hD0.self (sz := s.heap.size)
  obtain ⟨A, hAe⟩ := nm_ex (va_A (oPort C a0 a1 a2 a3 a4 a5 a6 v []) s.heap.size)
  rw [← hAe] at hD hE ⊢
  have hA : ∀ q : Nat, s.heap.size ≤ q → A q := fun q h => by rw [hAe]; exact Or.inr h
  have hS : va_S A s.heap s.heap [] := va_S.rf
  have hl := lv_entry ([.ref a0, .int x0]) (n := 4) (Nat.le_of_ble_eq_true rfl)
  rw [lg_entry_eq]
  generalize (lg_sl ([.ref a0, .int x0]) ++ List.replicate (4 - (lg_sl ([.ref a0, .int x0])).length) Slot.unset).toArray = ls at hl ⊢
  have hl : lv_has ls 4 [(0, .ref a0), (1, .int x0)] := hl
  obtain ⟨Q, hQ⟩ := nm_ex (MQ below (QZ D C (oPort C a0 a1 a2 a3 a4 a5 a6 v []) (oPort C a0 a1 a2 a3 a4 a5 a6 v []) s.heap.size r) (List.toArray [Value.ref a0, Value.int x0]) s 0 0 A)
  show W p l e (headSpec wsX1_goesNow (rmX1_goesNow)).room s m (List.toArray [Value.ref a0, Value.int x0]) below meth c s.heap [] 0 0 (MQ below (QZ D C (oPort C a0 a1 a2 a3 a4 a5 a6 v []) (oPort C a0 a1 a2 a3 a4 a5 a6 v []) s.heap.size r) (List.toArray [Value.ref a0, Value.int x0]) s 0 0 A) _
  rw [← hQ]
  unfold f_X1_goesNow at hf
  have main : ∀ (H : Heap) (locs : List Loc), va_P D vwCl (oPort C a0 a1 a2 a3 a4 a5 a6 v []) H → va_D A (oPort C a0 a1 a2 a3 a4 a5 a6 v []) → va_S A s.heap H locs → W p l e (headSpec wsX1_goesNow (rmX1_goesNow)).room s m (List.toArray [Value.ref a0, Value.int x0]) below meth c H locs 0 0 Q (F0 m 0 ls []) := by
    intro H locs hP hD hS
    refine lv_aload_n hx hb dX1_goesNow_0 rfl (lv_at hl 0 rfl) ?_
    obtain ⟨r1, h2, hf⟩ := ob1_e hf
    refine kci (Wx := (oPort C a0 a1 a2 a3 a4 a5 a6 v [])) (va_runV (As := []) (rest := []) ⟨hx, hb, hml, hown, hts⟩ (c_X1_restNow l E D C a0 a1 a2 a3 a4 a5 a6 H.size v r1 h2) (cwV 0 hts gX1_goesNow_X1_restNow rfl rfl rfl hdX1_restNow ⟨Nat.le_of_ble_eq_true rfl, Nat.le_of_ble_eq_true rfl⟩) (kpreV hP hD hK hS hE hA [0, 1, 2, 3, 4, 5, 6] rfl rfl 0 rfl rfl rfl) rfl rfl hl.1 rfl (lv_room (Nat.le_of_ble_eq_true rfl)) dX1_goesNow_1 ⟨Nat.zero_le _, Nat.zero_le _⟩) hP hD hS hA [0, 1, 2, 3, 4, 5, 6] rfl rfl rfl (fun H locs hP hD hS => ?_)
    refine lv_istore_n (lv' := [(2, .int r1), (0, .ref a0), (1, .int x0)]) hx hb dX1_goesNow_4 rfl hl (by decide) rfl (fun ls hl => ?_)
    refine lv_aload_n hx hb dX1_goesNow_5 rfl (lv_at hl 1 rfl) ?_
    refine lv_iload_n hx hb dX1_goesNow_6 rfl (lv_at hl 2 rfl) ?_
    refine lv_aload_n hx hb dX1_goesNow_7 rfl (lv_at hl 1 rfl) ?_
    refine va_get (D := D) (ci := 1) (v := .ref a5) (C := RX1) (T := TX1) (N := 10) hx hb hts hi_RX1 hown hK hP 0 rfl rfl 4 (by decide) (hts (.fieldLink RX1 24 "TravelMarks$Port" "first" "[I") (List.mem_of_getElem? (i := 1) rfl)) (fun _ h9 => h9) rfl dX1_goesNow_8 ?_
    refine lv_iload_n hx hb dX1_goesNow_11 rfl (lv_at hl 0 rfl) ?_
    obtain ⟨y4, ey4, hi3, hf⟩ := rdA_x hf
    refine va_iald hx hb hK hP 5 0 rfl rfl hi3 dX1_goesNow_12 ?_
    refine lv_ren ey4 ?_
    refine lv_aload_n hx hb dX1_goesNow_13 rfl (lv_at hl 1 rfl) ?_
    refine va_get (D := D) (ci := 1) (v := .ref a6) (C := RX1) (T := TX1) (N := 10) hx hb hts hi_RX1 hown hK hP 0 rfl rfl 5 (by decide) (hts (.fieldLink RX1 27 "TravelMarks$Port" "second" "[I") (List.mem_of_getElem? (i := 2) rfl)) (fun _ h9 => h9) rfl dX1_goesNow_14 ?_
    refine lv_iload_n hx hb dX1_goesNow_17 rfl (lv_at hl 0 rfl) ?_
    obtain ⟨y6, ey6, hi5, hf⟩ := rdA_x hf
    refine va_iald hx hb hK hP 6 0 rfl rfl hi5 dX1_goesNow_18 ?_
    refine lv_ren ey6 ?_
    obtain ⟨r7, h8, hf⟩ := ob1_e hf
    refine kci (Wx := (oPort C a0 a1 a2 a3 a4 a5 a6 v [])) (va_runV (As := [.int x0, .int y4, .int y6]) (rest := []) ⟨hx, hb, hml, hown, hts⟩ (c_X1_targetOf l E D C a0 a1 a2 a3 a4 a5 a6 H.size v x0 y4 y6 r7 h8) (cwV 3 hts gX1_goesNow_X1_targetOf rfl rfl rfl hdX1_targetOf ⟨Nat.le_of_ble_eq_true rfl, Nat.le_of_ble_eq_true rfl⟩) (kpreV hP hD hK hS hE hA [0, 1, 2, 3, 4, 5, 6] rfl rfl 0 rfl rfl rfl) rfl rfl hl.1 rfl (lv_room (Nat.le_of_ble_eq_true rfl)) dX1_goesNow_19 ⟨Nat.zero_le _, Nat.zero_le _⟩) hP hD hS hA [0, 1, 2, 3, 4, 5, 6] rfl rfl rfl (fun H locs hP hD hS => ?_)
    refine lv_istore_n (lv' := [(3, .int r7), (2, .int r1), (0, .ref a0), (1, .int x0)]) hx hb dX1_goesNow_22 rfl hl (by decide) rfl (fun ls hl => ?_)
    refine lv_iload_n hx hb dX1_goesNow_23 rfl (lv_at hl 0 rfl) ?_
    refine lv_iconst (v := (-1)) hx hb dX1_goesNow_24 rfl ?_
    refine lv_icmp_eq (tgt := 41) hx hb dX1_goesNow_25 (by decide) (fun c9 => ?_) (fun c9 => ?_)
    · replace hf := if_te c9 hf
      refine lv_iconst (v := 0) hx hb dX1_goesNow_41 rfl ?_
      cases hf
      exact krz hQ hAe hx hb hr hlocks zb_0 hP hD hK hS dX1_goesNow_42
    · replace hf := if_fe c9 hf
      refine lv_aload_n hx hb dX1_goesNow_28 rfl (lv_at hl 2 rfl) ?_
      refine lv_iload_n hx hb dX1_goesNow_29 rfl (lv_at hl 3 rfl) ?_
      refine lv_iload_n hx hb dX1_goesNow_30 rfl (lv_at hl 0 rfl) ?_
      obtain ⟨r10, h11, hf⟩ := ob1_e hf
      refine kcz (Wx := (oPort C a0 a1 a2 a3 a4 a5 a6 v [])) (va_runV (As := [.int x0, .int r7]) (rest := []) ⟨hx, hb, hml, hown, hts⟩ (c_X1_goesTo l E D C a0 a1 a2 a3 a4 a5 a6 H.size N v x0 r7 r10 h11) (cwV 2 hts gX1_goesNow_X1_goesTo rfl rfl rfl hdX1_goesTo ⟨Nat.le_of_ble_eq_true rfl, Nat.le_of_ble_eq_true rfl⟩) (kpreV hP hD hK hS hE hA [0, 1, 2, 3, 4, 5, 6] rfl rfl 0 rfl rfl rfl) rfl rfl hl.1 rfl (lv_room (Nat.le_of_ble_eq_true rfl)) dX1_goesNow_31 ⟨Nat.zero_le _, Nat.zero_le _⟩) hP hD hS hA [0, 1, 2, 3, 4, 5, 6] rfl rfl rfl (fun H locs hz12 hP hD hS => ?_)
      refine lv_if_eq (tgt := 41) hx hb dX1_goesNow_34 (by decide) (fun c13 => ?_) (fun c13 => ?_)
      · replace hf := if_te c13 hf
        refine lv_iconst (v := 0) hx hb dX1_goesNow_41 rfl ?_
        cases hf
        exact krz hQ hAe hx hb hr hlocks zb_0 hP hD hK hS dX1_goesNow_42
      · replace hf := if_fe c13 hf
        refine lv_iconst (v := 1) hx hb dX1_goesNow_37 rfl ?_
        refine lv_goto (tgt := 42) hx hb dX1_goesNow_38 (by decide) ?_
        cases hf
        exact krz hQ hAe hx hb hr hlocks zb_1 hP hD hK hS dX1_goesNow_42
  exact main _ _ hP hD hS

def rmX5_isRest : Room := { frames := 1, cells := 0, slots := 0, locals := 22 }
theorem hdX5_isRest : yX5_isRest.cls ≠ "java/lang/invoke/MethodHandle" ∧ yX5_isRest.cls ≠ "java/lang/invoke/VarHandle" ∧ (parseMethodDescriptor yX5_isRest.desc).map (fun d => d.parameters.length) = some 1 := by decide +kernel
set_option maxHeartbeats 40000000 in
set_option maxRecDepth 100000 in
theorem c_X5_isRest (l : Launch) (E : Nat → Nat) (D : va_G) (C : Nat → ClassId) (sz : Nat)  (x0 : Int32) (r : Int32) (hf : f_X5_isRest x0 = r) : Met l yX5_isRest wsX5_isRest rmX5_isRest (PC E D C [.int x0] [] sz) (QZ D C [] [] sz r) 0 0 (va_A [] sz) := by
  refine Met.ofW (cc := cX5_isRest) (maxL := 1) (ret := (some .boolean)) (by decide) rfl ?_
  intro p e s m args below meth c s₁ B hml hv
  obtain ⟨rfl, hsz, hP, hK, hD0, hE⟩ := hv
  have hx := B.exec
  have hb := B.bytes
  have hr := B.returns
  have hts := atoms_spec (ws := wsX5_isRest) B.pre
  have hown : s.vm.findClass RX5 = some m.cls := findClass_of_methodNamed B.named
  have hlocks := B.notSynchronized
  subst hsz
  have hD := hD0.self (sz := s.heap.size)
  obtain ⟨A, hAe⟩ := nm_ex (va_A [] s.heap.size)
  rw [← hAe] at hD hE ⊢
  have hA : ∀ q : Nat, s.heap.size ≤ q → A q := fun q h => by rw [hAe]; exact Or.inr h
  have hS : va_S A s.heap s.heap [] := va_S.rf
  have hl := lv_entry ([.int x0]) (n := 1) (Nat.le_of_ble_eq_true rfl)
  rw [lg_entry_eq]
  generalize (lg_sl ([.int x0]) ++ List.replicate (1 - (lg_sl ([.int x0])).length) Slot.unset).toArray = ls at hl ⊢
  have hl : lv_has ls 1 [(0, .int x0)] := hl
  obtain ⟨Q, hQ⟩ := nm_ex (MQ below (QZ D C [] [] s.heap.size r) (List.toArray [Value.int x0]) s 0 0 A)
  show W p l e (headSpec wsX5_isRest (rmX5_isRest)).room s m (List.toArray [Value.int x0]) below meth c s.heap [] 0 0 (MQ below (QZ D C [] [] s.heap.size r) (List.toArray [Value.int x0]) s 0 0 A) _
  rw [← hQ]
  unfold f_X5_isRest at hf
  have main : ∀ (H : Heap) (locs : List Loc), va_P D vwCl [] H → va_D A [] → va_S A s.heap H locs → W p l e (headSpec wsX5_isRest (rmX5_isRest)).room s m (List.toArray [Value.int x0]) below meth c H locs 0 0 Q (F0 m 0 ls []) := by
    intro H locs hP hD hS
    refine lv_iload_n hx hb dX5_isRest_0 rfl (lv_at hl 0 rfl) ?_
    refine lv_iconst (v := 0) hx hb dX5_isRest_1 rfl ?_
    refine lv_iconst (v := 5) hx hb dX5_isRest_2 rfl ?_
    refine kcz (Wx := []) (va_runS (As := [.int x0, .int 0, .int 5]) (rest := []) ⟨hx, hb, hml, hown, hts⟩ (c_X5_within l E D C H.size x0 0 5 _ rfl) (va_cwS 3 hts gX5_isRest_X5_within rfl rfl rfl hdX5_within ⟨Nat.le_of_ble_eq_true rfl, Nat.le_of_ble_eq_true rfl⟩) (kpre hP hD hK hS hE hA [] rfl rfl) rfl rfl hl.1 rfl (lv_room (Nat.le_of_ble_eq_true rfl)) dX5_isRest_3 ⟨Nat.zero_le _, Nat.zero_le _⟩) hP hD hS hA [] rfl rfl rfl (fun H locs hz1 hP hD hS => ?_)
    cases hf
    exact krz hQ hAe hx hb hr hlocks hz1 hP hD hK hS dX5_isRest_6
  exact main _ _ hP hD hS

def rmX1_marksOn : Room := { frames := 0, cells := 0, slots := 0, locals := 0 }
theorem hdX1_marksOn : yX1_marksOn.cls = RX1 ∧ yX1_marksOn.cls ≠ "java/lang/invoke/MethodHandle" ∧ yX1_marksOn.cls ≠ "java/lang/invoke/VarHandle" ∧ (parseMethodDescriptor yX1_marksOn.desc).map (fun d => d.parameters.length) = some 1 := by decide +kernel
set_option maxHeartbeats 40000000 in
set_option maxRecDepth 100000 in
theorem c_X1_marksOn (l : Launch) (E : Nat → Nat) (D : va_G) (C : Nat → ClassId) (a0 a1 a2 a3 a4 a5 a6 : Nat) (sz : Nat) (N : Nat) (v : PV) (x0 : Int32) (r : Int32) (hf : f_X1_marksOn N v x0 = some r) : Met l yX1_marksOn wsX1_marksOn rmX1_marksOn (PC E D C [.ref a0, .int x0] (oPort C a0 a1 a2 a3 a4 a5 a6 v []) sz) (QI D C (oPort C a0 a1 a2 a3 a4 a5 a6 v []) (oPort C a0 a1 a2 a3 a4 a5 a6 v []) sz r) 0 0 (va_A (oPort C a0 a1 a2 a3 a4 a5 a6 v []) sz) := by
  refine Met.ofW (cc := cX1_marksOn) (maxL := 4) (ret := (some .int)) (by decide) rfl ?_
  intro p e s m args below meth c s₁ B hml hv
  obtain ⟨rfl, hsz, hP, hK, hD0, hE⟩ := hv
  have hx := B.exec
  have hb := B.bytes
  have hr := B.returns
  have hts := atoms_spec (ws := wsX1_marksOn) B.pre
  have hown : s.vm.findClass RX1 = some m.cls := findClass_of_methodNamed B.named
  have hlocks := B.notSynchronized
  subst hsz
  have hi_RX1 : ∀ w ∈ wsX10, w ∈ wsX1_marksOn := fun _ h => List.mem_cons_of_mem _ (List.mem_append_right _ h)
  have hD := hD0.self (sz := s.heap.size)
  obtain ⟨A, hAe⟩ := nm_ex (va_A (oPort C a0 a1 a2 a3 a4 a5 a6 v []) s.heap.size)
  rw [← hAe] at hD hE ⊢
  have hA : ∀ q : Nat, s.heap.size ≤ q → A q := fun q h => by rw [hAe]; exact Or.inr h
  have hS : va_S A s.heap s.heap [] := va_S.rf
  have hl := lv_entry ([.ref a0, .int x0]) (n := 4) (Nat.le_of_ble_eq_true rfl)
  rw [lg_entry_eq]
  generalize (lg_sl ([.ref a0, .int x0]) ++ List.replicate (4 - (lg_sl ([.ref a0, .int x0])).length) Slot.unset).toArray = ls at hl ⊢
  have hl : lv_has ls 4 [(0, .ref a0), (1, .int x0)] := hl
  obtain ⟨Q, hQ⟩ := nm_ex (MQ below (QI D C (oPort C a0 a1 a2 a3 a4 a5 a6 v []) (oPort C a0 a1 a2 a3 a4 a5 a6 v []) s.heap.size r) (List.toArray [Value.ref a0, Value.int x0]) s 0 0 A)
  show W p l e (headSpec wsX1_marksOn (rmX1_marksOn)).room s m (List.toArray [Value.ref a0, Value.int x0]) below meth c s.heap [] 0 0 (MQ below (QI D C (oPort C a0 a1 a2 a3 a4 a5 a6 v []) (oPort C a0 a1 a2 a3 a4 a5 a6 v []) s.heap.size r) (List.toArray [Value.ref a0, Value.int x0]) s 0 0 A) _
  rw [← hQ]
  unfold f_X1_marksOn at hf
  have main : ∀ (H : Heap) (locs : List Loc), va_P D vwCl (oPort C a0 a1 a2 a3 a4 a5 a6 v []) H → va_D A (oPort C a0 a1 a2 a3 a4 a5 a6 v []) → va_S A s.heap H locs → W p l e (headSpec wsX1_marksOn (rmX1_marksOn)).room s m (List.toArray [Value.ref a0, Value.int x0]) below meth c H locs 0 0 Q (F0 m 0 ls []) := by
    intro H locs hP hD hS
    refine lv_iconst (v := 0) hx hb dX1_marksOn_0 rfl ?_
    refine lv_istore_n (lv' := [(2, .int 0), (0, .ref a0), (1, .int x0)]) hx hb dX1_marksOn_1 rfl hl (by decide) rfl (fun ls hl => ?_)
    refine lv_iconst (v := 0) hx hb dX1_marksOn_2 rfl ?_
    refine lv_istore_n (lv' := [(3, .int 0), (2, .int 0), (0, .ref a0), (1, .int x0)]) hx hb dX1_marksOn_3 rfl hl (by decide) rfl (fun ls hl => ?_)
    have hL4 : ∀ (n : Nat) (i1 : Int32) (i2 : Int32) (H : Heap) (locs : List Loc) (ls : Array Slot), va_P D vwCl (oPort C a0 a1 a2 a3 a4 a5 a6 v []) H → va_D A (oPort C a0 a1 a2 a3 a4 a5 a6 v []) → va_S A s.heap H locs → lv_has ls 4 [(3, .int i1), (2, .int i2), (0, .ref a0), (1, .int x0)] → f_X1_marksOn_L4 v x0 n i1 i2 = some r → W p l e (headSpec wsX1_marksOn (rmX1_marksOn)).room s m (List.toArray [Value.ref a0, Value.int x0]) below meth c H locs 0 0 Q (F0 m 4 ls []) := by
      intro n
      induction n with
      | zero =>
        intro i1 i2 H locs ls hP hD hS hl hf
        exact absurd hf (fun h => by cases h)
      | succ n ih =>
        intro i1 i2 H locs ls hP hD hS hl hf
        rw [f_X1_marksOn_L4] at hf
        refine lv_iload_n hx hb dX1_marksOn_4 rfl (lv_at hl 0 rfl) ?_
        refine lv_aload_n hx hb dX1_marksOn_5 rfl (lv_at hl 2 rfl) ?_
        refine va_get (D := D) (ci := 1) (v := .int (pCount v)) (C := RX1) (T := TX1) (N := 10) hx hb hts hi_RX1 hown hK hP 0 rfl rfl 6 (by decide) (hts (.fieldLink RX1 50 "TravelMarks$Port" "count" "I") (List.mem_of_getElem? (i := 1) rfl)) (fun _ h9 => h9) rfl dX1_marksOn_6 ?_
        refine lv_icmp_ge (tgt := 34) hx hb dX1_marksOn_9 (by decide) (fun c3 => ?_) (fun c3 => ?_)
        · replace hf := if_te c3 hf
          refine lv_iload_n hx hb dX1_marksOn_34 rfl (lv_at hl 1 rfl) ?_
          cases hf
          exact kri hQ hAe hx hb hr hlocks hP hD hK hS dX1_marksOn_35
        · replace hf := if_fe c3 hf
          refine lv_aload_n hx hb dX1_marksOn_12 rfl (lv_at hl 2 rfl) ?_
          refine va_get (D := D) (ci := 1) (v := .ref a4) (C := RX1) (T := TX1) (N := 10) hx hb hts hi_RX1 hown hK hP 0 rfl rfl 3 (by decide) (hts (.fieldLink RX1 21 "TravelMarks$Port" "on" "[I") (List.mem_of_getElem? (i := 2) rfl)) (fun _ h9 => h9) rfl dX1_marksOn_13 ?_
          refine lv_iload_n hx hb dX1_marksOn_16 rfl (lv_at hl 0 rfl) ?_
          obtain ⟨y5, ey5, hi4, hf⟩ := rdA_x hf
          refine va_iald hx hb hK hP 4 0 rfl rfl hi4 dX1_marksOn_17 ?_
          refine lv_ren ey5 ?_
          refine lv_iload_n hx hb dX1_marksOn_18 rfl (lv_at hl 3 rfl) ?_
          obtain ⟨j7, hj7, hf⟩ := lj_e hf
          have Hj7 : ∀ (i6 : Int32) (H : Heap) (locs : List Loc) (ls : Array Slot), va_P D vwCl (oPort C a0 a1 a2 a3 a4 a5 a6 v []) H → va_D A (oPort C a0 a1 a2 a3 a4 a5 a6 v []) → va_S A s.heap H locs → lv_has ls 4 [(3, .int i1), (2, .int i6), (0, .ref a0), (1, .int x0)] → j7 i6 = some r → W p l e (headSpec wsX1_marksOn (rmX1_marksOn)).room s m (List.toArray [Value.ref a0, Value.int x0]) below meth c H locs 0 0 Q (F0 m 28 ls []) := by
            intro i6 H locs ls hP hD hS hl hf
            rw [hj7] at hf
            obtain ⟨t8, et8, hf⟩ := lj_e hf
            refine lv_iinc (v := t8) (lv' := [(3, .int t8), (2, .int i6), (0, .ref a0), (1, .int x0)]) hx hb dX1_marksOn_28 hl (k := 0) rfl (by rw [et8]; rfl) (by decide) rfl (fun ls hl => ?_)
            refine lv_goto (tgt := 4) hx hb dX1_marksOn_31 (by decide) ?_
            exact ih t8 i6 H locs ls hP hD hS (lv_sub hl [0, 1, 2, 3] rfl) hf
          refine lv_icmp_ne (tgt := 28) hx hb dX1_marksOn_19 (by decide) (fun c9 => ?_) (fun c9 => ?_)
          · replace hf := if_fe c9 hf
            exact Hj7 i2 H locs ls hP hD hS (lv_sub hl [0, 1, 2, 3] rfl) hf
          · replace hf := if_te c9 hf
            refine lv_iload_n hx hb dX1_marksOn_22 rfl (lv_at hl 1 rfl) ?_
            refine lv_iconst (v := 1) hx hb dX1_marksOn_23 rfl ?_
            refine lv_iload_n hx hb dX1_marksOn_24 rfl (lv_at hl 0 rfl) ?_
            refine lv_ishl hx hb dX1_marksOn_25 ?_
            refine lv_ior hx hb dX1_marksOn_26 ?_
            obtain ⟨t10, et10, hf⟩ := lj_e hf
            refine lv_ren et10 ?_
            refine lv_istore_n (lv' := [(2, .int t10), (3, .int i1), (0, .ref a0), (1, .int x0)]) hx hb dX1_marksOn_27 rfl hl (by decide) rfl (fun ls hl => ?_)
            exact Hj7 t10 H locs ls hP hD hS (lv_sub hl [1, 0, 2, 3] rfl) hf
    exact hL4 N 0 0 H locs ls hP hD hS (lv_sub hl [0, 1, 2, 3] rfl) hf
  exact main _ _ hP hD hS

def rmX5_has : Room := { frames := 0, cells := 0, slots := 0, locals := 0 }
theorem hdX5_has : yX5_has.cls ≠ "java/lang/invoke/MethodHandle" ∧ yX5_has.cls ≠ "java/lang/invoke/VarHandle" ∧ (parseMethodDescriptor yX5_has.desc).map (fun d => d.parameters.length) = some 2 := by decide +kernel
set_option maxHeartbeats 40000000 in
set_option maxRecDepth 100000 in
theorem c_X5_has (l : Launch) (E : Nat → Nat) (D : va_G) (C : Nat → ClassId) (sz : Nat)  (x0 : Int32) (x1 : Int32) (r : Int32) (hf : f_X5_has x0 x1 = r) : Met l yX5_has wsX5_has rmX5_has (PC E D C [.int x0, .int x1] [] sz) (QZ D C [] [] sz r) 0 0 (va_A [] sz) := by
  refine Met.ofW (cc := cX5_has) (maxL := 2) (ret := (some .boolean)) (by decide) rfl ?_
  intro p e s m args below meth c s₁ B hml hv
  obtain ⟨rfl, hsz, hP, hK, hD0, hE⟩ := hv
  have hx := B.exec
  have hb := B.bytes
  have hr := B.returns
  have hts := atoms_spec (ws := wsX5_has) B.pre
  have hown : s.vm.findClass RX5 = some m.cls := findClass_of_methodNamed B.named
  have hlocks := B.notSynchronized
  subst hsz
  have hD := hD0.self (sz := s.heap.size)
  obtain ⟨A, hAe⟩ := nm_ex (va_A [] s.heap.size)
  rw [← hAe] at hD hE ⊢
  have hA : ∀ q : Nat, s.heap.size ≤ q → A q := fun q h => by rw [hAe]; exact Or.inr h
  have hS : va_S A s.heap s.heap [] := va_S.rf
  have hl := lv_entry ([.int x0, .int x1]) (n := 2) (Nat.le_of_ble_eq_true rfl)
  rw [lg_entry_eq]
  generalize (lg_sl ([.int x0, .int x1]) ++ List.replicate (2 - (lg_sl ([.int x0, .int x1])).length) Slot.unset).toArray = ls at hl ⊢
  have hl : lv_has ls 2 [(0, .int x0), (1, .int x1)] := hl
  obtain ⟨Q, hQ⟩ := nm_ex (MQ below (QZ D C [] [] s.heap.size r) (List.toArray [Value.int x0, Value.int x1]) s 0 0 A)
  show W p l e (headSpec wsX5_has (rmX5_has)).room s m (List.toArray [Value.int x0, Value.int x1]) below meth c s.heap [] 0 0 (MQ below (QZ D C [] [] s.heap.size r) (List.toArray [Value.int x0, Value.int x1]) s 0 0 A) _
  rw [← hQ]
  unfold f_X5_has at hf
  have main : ∀ (H : Heap) (locs : List Loc), va_P D vwCl [] H → va_D A [] → va_S A s.heap H locs → W p l e (headSpec wsX5_has (rmX5_has)).room s m (List.toArray [Value.int x0, Value.int x1]) below meth c H locs 0 0 Q (F0 m 0 ls []) := by
    intro H locs hP hD hS
    refine lv_iload_n hx hb dX5_has_0 rfl (lv_at hl 0 rfl) ?_
    refine lv_iload_n hx hb dX5_has_1 rfl (lv_at hl 1 rfl) ?_
    refine lv_ishr hx hb dX5_has_2 ?_
    refine lv_iconst (v := 1) hx hb dX5_has_3 rfl ?_
    refine lv_iand hx hb dX5_has_4 ?_
    refine lv_if_eq (tgt := 12) hx hb dX5_has_5 (by decide) (fun c1 => ?_) (fun c1 => ?_)
    · replace hf := if_te c1 hf
      refine lv_iconst (v := 0) hx hb dX5_has_12 rfl ?_
      cases hf
      exact krz hQ hAe hx hb hr hlocks zb_0 hP hD hK hS dX5_has_13
    · replace hf := if_fe c1 hf
      refine lv_iconst (v := 1) hx hb dX5_has_8 rfl ?_
      refine lv_goto (tgt := 13) hx hb dX5_has_9 (by decide) ?_
      cases hf
      exact krz hQ hAe hx hb hr hlocks zb_1 hP hD hK hS dX5_has_13
  exact main _ _ hP hD hS

def rmX1_circle : Room := { frames := 1, cells := 0, slots := 0, locals := 21 }
theorem hdX1_circle : yX1_circle.cls = RX1 ∧ yX1_circle.cls ≠ "java/lang/invoke/MethodHandle" ∧ yX1_circle.cls ≠ "java/lang/invoke/VarHandle" ∧ (parseMethodDescriptor yX1_circle.desc).map (fun d => d.parameters.length) = some 1 := by decide +kernel
set_option maxHeartbeats 40000000 in
set_option maxRecDepth 100000 in
theorem c_X1_circle (l : Launch) (E : Nat → Nat) (D : va_G) (C : Nat → ClassId) (a0 a1 a2 a3 a4 a5 a6 : Nat) (sz : Nat) (N : Nat) (v : PV) (x0 : Int32) (r : Int32) (hf : f_X1_circle N v x0 = some r) : Met l yX1_circle wsX1_circle rmX1_circle (PC E D C [.ref a0, .int x0] (oPort C a0 a1 a2 a3 a4 a5 a6 v []) sz) (QI D C (oPort C a0 a1 a2 a3 a4 a5 a6 v []) (oPort C a0 a1 a2 a3 a4 a5 a6 v []) sz r) 0 0 (va_A (oPort C a0 a1 a2 a3 a4 a5 a6 v []) sz) := by
  refine Met.ofW (cc := cX1_circle) (maxL := 5) (ret := (some .int)) (by decide) rfl ?_
  intro p e s m args below meth c s₁ B hml hv
  obtain ⟨rfl, hsz, hP, hK, hD0, hE⟩ := hv
  have hx := B.exec
  have hb := B.bytes
  have hr := B.returns
  have hts := atoms_spec (ws := wsX1_circle) B.pre
  have hown : s.vm.findClass RX1 = some m.cls := findClass_of_methodNamed B.named
  have hlocks := B.notSynchronized
  subst hsz
  have hi_RX1 : ∀ w ∈ wsX10, w ∈ wsX1_circle := fun _ h => List.mem_cons_of_mem _ (List.mem_append_right _ h)
  have hD := hD0.self (sz := s.heap.size)
  obtain ⟨A, hAe⟩ := nm_ex (va_A (oPort C a0 a1 a2 a3 a4 a5 a6 v []) s.heap.size)
  rw [← hAe] at hD hE ⊢
  have hA : ∀ q : Nat, s.heap.size ≤ q → A q := fun q h => by rw [hAe]; exact Or.inr h
  have hS : va_S A s.heap s.heap [] := va_S.rf
  have hl := lv_entry ([.ref a0, .int x0]) (n := 5) (Nat.le_of_ble_eq_true rfl)
  rw [lg_entry_eq]
  generalize (lg_sl ([.ref a0, .int x0]) ++ List.replicate (5 - (lg_sl ([.ref a0, .int x0])).length) Slot.unset).toArray = ls at hl ⊢
  have hl : lv_has ls 5 [(0, .ref a0), (1, .int x0)] := hl
  obtain ⟨Q, hQ⟩ := nm_ex (MQ below (QI D C (oPort C a0 a1 a2 a3 a4 a5 a6 v []) (oPort C a0 a1 a2 a3 a4 a5 a6 v []) s.heap.size r) (List.toArray [Value.ref a0, Value.int x0]) s 0 0 A)
  show W p l e (headSpec wsX1_circle (rmX1_circle)).room s m (List.toArray [Value.ref a0, Value.int x0]) below meth c s.heap [] 0 0 (MQ below (QI D C (oPort C a0 a1 a2 a3 a4 a5 a6 v []) (oPort C a0 a1 a2 a3 a4 a5 a6 v []) s.heap.size r) (List.toArray [Value.ref a0, Value.int x0]) s 0 0 A) _
  rw [← hQ]
  unfold f_X1_circle at hf
  have main : ∀ (H : Heap) (locs : List Loc), va_P D vwCl (oPort C a0 a1 a2 a3 a4 a5 a6 v []) H → va_D A (oPort C a0 a1 a2 a3 a4 a5 a6 v []) → va_S A s.heap H locs → W p l e (headSpec wsX1_circle (rmX1_circle)).room s m (List.toArray [Value.ref a0, Value.int x0]) below meth c H locs 0 0 Q (F0 m 0 ls []) := by
    intro H locs hP hD hS
    refine lv_iconst (v := 1) hx hb dX1_circle_0 rfl ?_
    refine lv_iload_n hx hb dX1_circle_1 rfl (lv_at hl 1 rfl) ?_
    refine lv_ishl hx hb dX1_circle_2 ?_
    obtain ⟨t1, et1, hf⟩ := lj_e hf
    refine lv_ren et1 ?_
    refine lv_istore_n (lv' := [(2, .int t1), (0, .ref a0), (1, .int x0)]) hx hb dX1_circle_3 rfl hl (by decide) rfl (fun ls hl => ?_)
    refine lv_iconst (v := 0) hx hb dX1_circle_4 rfl ?_
    refine lv_istore_n (lv' := [(3, .int 0), (2, .int t1), (0, .ref a0), (1, .int x0)]) hx hb dX1_circle_5 rfl hl (by decide) rfl (fun ls hl => ?_)
    have hL6 : ∀ (n : Nat) (i2 : Int32) (i3 : Int32) (H : Heap) (locs : List Loc) (ls : Array Slot), va_P D vwCl (oPort C a0 a1 a2 a3 a4 a5 a6 v []) H → va_D A (oPort C a0 a1 a2 a3 a4 a5 a6 v []) → va_S A s.heap H locs → lv_has ls 5 [(3, .int i2), (2, .int i3), (0, .ref a0)] → f_X1_circle_L6 N v n i2 i3 = some r → W p l e (headSpec wsX1_circle (rmX1_circle)).room s m (List.toArray [Value.ref a0, Value.int x0]) below meth c H locs 0 0 Q (F0 m 6 ls []) := by
      intro n
      induction n with
      | zero =>
        intro i2 i3 H locs ls hP hD hS hl hf
        exact absurd hf (fun h => by cases h)
      | succ n ih =>
        intro i2 i3 H locs ls hP hD hS hl hf
        rw [f_X1_circle_L6] at hf
        refine lv_iload_n hx hb dX1_circle_6 rfl (lv_at hl 0 rfl) ?_
        refine lv_bipush (v := 6) hx hb dX1_circle_7 rfl ?_
        refine lv_icmp_ge (tgt := 95) hx hb dX1_circle_9 (by decide) (fun c4 => ?_) (fun c4 => ?_)
        · replace hf := if_te c4 hf
          refine lv_iload_n hx hb dX1_circle_95 rfl (lv_at hl 1 rfl) ?_
          cases hf
          exact kri hQ hAe hx hb hr hlocks hP hD hK hS dX1_circle_96
        · replace hf := if_fe c4 hf
          refine lv_iconst (v := 0) hx hb dX1_circle_12 rfl ?_
          refine lv_istore (lv' := [(4, .int 0), (3, .int i2), (2, .int i3), (0, .ref a0)]) hx hb dX1_circle_13 hl (by decide) rfl (fun ls hl => ?_)
          obtain ⟨j6, hj6, hf⟩ := lj_e hf
          have Hj6 : ∀ (i5 : Int32) (H : Heap) (locs : List Loc) (ls : Array Slot), va_P D vwCl (oPort C a0 a1 a2 a3 a4 a5 a6 v []) H → va_D A (oPort C a0 a1 a2 a3 a4 a5 a6 v []) → va_S A s.heap H locs → lv_has ls 5 [(3, .int i2), (2, .int i5), (0, .ref a0)] → j6 i5 = some r → W p l e (headSpec wsX1_circle (rmX1_circle)).room s m (List.toArray [Value.ref a0, Value.int x0]) below meth c H locs 0 0 Q (F0 m 89 ls []) := by
            intro i5 H locs ls hP hD hS hl hf
            rw [hj6] at hf
            obtain ⟨t7, et7, hf⟩ := lj_e hf
            refine lv_iinc (v := t7) (lv' := [(3, .int t7), (2, .int i5), (0, .ref a0)]) hx hb dX1_circle_89 hl (k := 0) rfl (by rw [et7]; rfl) (by decide) rfl (fun ls hl => ?_)
            refine lv_goto (tgt := 6) hx hb dX1_circle_92 (by decide) ?_
            exact ih t7 i5 H locs ls hP hD hS (lv_sub hl [0, 1, 2] rfl) hf
          have hL15 : ∀ (n : Nat) (i8 : Int32) (i9 : Int32) (H : Heap) (locs : List Loc) (ls : Array Slot), va_P D vwCl (oPort C a0 a1 a2 a3 a4 a5 a6 v []) H → va_D A (oPort C a0 a1 a2 a3 a4 a5 a6 v []) → va_S A s.heap H locs → lv_has ls 5 [(4, .int i8), (3, .int i2), (2, .int i9), (0, .ref a0)] → f_X1_circle_L15 v j6 n i8 i9 = some r → W p l e (headSpec wsX1_circle (rmX1_circle)).room s m (List.toArray [Value.ref a0, Value.int x0]) below meth c H locs 0 0 Q (F0 m 15 ls []) := by
            intro n
            induction n with
            | zero =>
              intro i8 i9 H locs ls hP hD hS hl hf
              exact absurd hf (fun h => by cases h)
            | succ n ih =>
              intro i8 i9 H locs ls hP hD hS hl hf
              rw [f_X1_circle_L15] at hf
              refine lv_iload hx hb dX1_circle_15 (lv_at hl 0 rfl) ?_
              refine lv_bipush (v := 6) hx hb dX1_circle_17 rfl ?_
              refine lv_icmp_ge (tgt := 89) hx hb dX1_circle_19 (by decide) (fun c10 => ?_) (fun c10 => ?_)
              · replace hf := if_te c10 hf
                exact Hj6 i9 H locs ls hP hD hS (lv_sub hl [1, 2, 3] rfl) hf
              · replace hf := if_fe c10 hf
                refine lv_aload_n hx hb dX1_circle_22 rfl (lv_at hl 3 rfl) ?_
                refine va_get (D := D) (ci := 1) (v := .ref a5) (C := RX1) (T := TX1) (N := 10) hx hb hts hi_RX1 hown hK hP 0 rfl rfl 4 (by decide) (hts (.fieldLink RX1 24 "TravelMarks$Port" "first" "[I") (List.mem_of_getElem? (i := 1) rfl)) (fun _ h9 => h9) rfl dX1_circle_23 ?_
                refine lv_iload hx hb dX1_circle_26 (lv_at hl 0 rfl) ?_
                obtain ⟨y12, ey12, hi11, hf⟩ := rdA_x hf
                refine va_iald hx hb hK hP 5 0 rfl rfl hi11 dX1_circle_28 ?_
                refine lv_ren ey12 ?_
                refine lv_iconst (v := (-1)) hx hb dX1_circle_29 rfl ?_
                obtain ⟨j14, hj14, hf⟩ := lj_e hf
                have Hj14 : ∀ (i13 : Int32) (H : Heap) (locs : List Loc) (ls : Array Slot), va_P D vwCl (oPort C a0 a1 a2 a3 a4 a5 a6 v []) H → va_D A (oPort C a0 a1 a2 a3 a4 a5 a6 v []) → va_S A s.heap H locs → lv_has ls 5 [(4, .int i8), (3, .int i2), (2, .int i13), (0, .ref a0)] → j14 i13 = some r → W p l e (headSpec wsX1_circle (rmX1_circle)).room s m (List.toArray [Value.ref a0, Value.int x0]) below meth c H locs 0 0 Q (F0 m 83 ls []) := by
                  intro i13 H locs ls hP hD hS hl hf
                  rw [hj14] at hf
                  obtain ⟨t15, et15, hf⟩ := lj_e hf
                  refine lv_iinc (v := t15) (lv' := [(4, .int t15), (3, .int i2), (2, .int i13), (0, .ref a0)]) hx hb dX1_circle_83 hl (k := 0) rfl (by rw [et15]; rfl) (by decide) rfl (fun ls hl => ?_)
                  refine lv_goto (tgt := 15) hx hb dX1_circle_86 (by decide) ?_
                  exact ih t15 i13 H locs ls hP hD hS (lv_sub hl [0, 1, 2, 3] rfl) hf
                refine lv_icmp_eq (tgt := 83) hx hb dX1_circle_30 (by decide) (fun c16 => ?_) (fun c16 => ?_)
                · replace hf := if_te c16 hf
                  exact Hj14 i9 H locs ls hP hD hS (lv_sub hl [0, 1, 2, 3] rfl) hf
                · replace hf := if_fe c16 hf
                  refine lv_iload_n hx hb dX1_circle_33 rfl (lv_at hl 2 rfl) ?_
                  refine lv_aload_n hx hb dX1_circle_34 rfl (lv_at hl 3 rfl) ?_
                  refine va_get (D := D) (ci := 1) (v := .ref a5) (C := RX1) (T := TX1) (N := 10) hx hb hts hi_RX1 hown hK hP 0 rfl rfl 4 (by decide) (hts (.fieldLink RX1 24 "TravelMarks$Port" "first" "[I") (List.mem_of_getElem? (i := 1) rfl)) (fun _ h9 => h9) rfl dX1_circle_35 ?_
                  refine lv_iload hx hb dX1_circle_38 (lv_at hl 0 rfl) ?_
                  obtain ⟨y18, ey18, hi17, hf⟩ := rdA_x hf
                  refine va_iald hx hb hK hP 5 0 rfl rfl hi17 dX1_circle_40 ?_
                  refine lv_ren ey18 ?_
                  refine kcz (Wx := (oPort C a0 a1 a2 a3 a4 a5 a6 v [])) (va_runSN (As := [.int i9, .int y18]) (rest := []) ⟨hx, hb, hml, hown, hts⟩ (c_X5_has l E D C H.size i9 y18 _ rfl) ⟨va_cnB 2 hts gX1_circle_X5_has_n88 rfl rfl rfl (hE.1.2 _ (List.mem_of_getElem? (i := 2) rfl)) (hts (.initialized RX5) (List.mem_of_getElem? (i := 4) rfl)) hdX5_has ⟨Nat.le_of_ble_eq_true rfl, Nat.le_of_ble_eq_true rfl⟩, (hts (.static yX5_has) (List.mem_of_getElem? (i := 3) rfl)), trivial⟩ (kpre hP hD hK hS hE hA [] rfl rfl) rfl rfl hl.1 rfl (lv_room (Nat.le_of_ble_eq_true rfl)) dX1_circle_41 ⟨Nat.zero_le _, Nat.zero_le _⟩) hP hD hS hA [] rfl rfl rfl (fun H locs hz19 hP hD hS => ?_)
                  obtain ⟨j20, hj20, hf⟩ := lj_e hf
                  have Hj20 : ∀ (H : Heap) (locs : List Loc) (ls : Array Slot), va_P D vwCl (oPort C a0 a1 a2 a3 a4 a5 a6 v []) H → va_D A (oPort C a0 a1 a2 a3 a4 a5 a6 v []) → va_S A s.heap H locs → lv_has ls 5 [(4, .int i8), (3, .int i2), (2, .int i9), (0, .ref a0)] → j20 = some r → W p l e (headSpec wsX1_circle (rmX1_circle)).room s m (List.toArray [Value.ref a0, Value.int x0]) below meth c H locs 0 0 Q (F0 m 61 ls []) := by
                    intro H locs ls hP hD hS hl hf
                    rw [hj20] at hf
                    refine lv_iload_n hx hb dX1_circle_61 rfl (lv_at hl 2 rfl) ?_
                    refine lv_iconst (v := 1) hx hb dX1_circle_62 rfl ?_
                    refine lv_aload_n hx hb dX1_circle_63 rfl (lv_at hl 3 rfl) ?_
                    refine va_get (D := D) (ci := 1) (v := .ref a5) (C := RX1) (T := TX1) (N := 10) hx hb hts hi_RX1 hown hK hP 0 rfl rfl 4 (by decide) (hts (.fieldLink RX1 24 "TravelMarks$Port" "first" "[I") (List.mem_of_getElem? (i := 1) rfl)) (fun _ h9 => h9) rfl dX1_circle_64 ?_
                    refine lv_iload hx hb dX1_circle_67 (lv_at hl 0 rfl) ?_
                    obtain ⟨y22, ey22, hi21, hf⟩ := rdA_x hf
                    refine va_iald hx hb hK hP 5 0 rfl rfl hi21 dX1_circle_69 ?_
                    refine lv_ren ey22 ?_
                    refine lv_ishl hx hb dX1_circle_70 ?_
                    refine lv_iconst (v := 1) hx hb dX1_circle_71 rfl ?_
                    refine lv_aload_n hx hb dX1_circle_72 rfl (lv_at hl 3 rfl) ?_
                    refine va_get (D := D) (ci := 1) (v := .ref a6) (C := RX1) (T := TX1) (N := 10) hx hb hts hi_RX1 hown hK hP 0 rfl rfl 5 (by decide) (hts (.fieldLink RX1 27 "TravelMarks$Port" "second" "[I") (List.mem_of_getElem? (i := 2) rfl)) (fun _ h9 => h9) rfl dX1_circle_73 ?_
                    refine lv_iload hx hb dX1_circle_76 (lv_at hl 0 rfl) ?_
                    obtain ⟨y24, ey24, hi23, hf⟩ := rdA_x hf
                    refine va_iald hx hb hK hP 6 0 rfl rfl hi23 dX1_circle_78 ?_
                    refine lv_ren ey24 ?_
                    refine lv_ishl hx hb dX1_circle_79 ?_
                    refine lv_ior hx hb dX1_circle_80 ?_
                    refine lv_ior hx hb dX1_circle_81 ?_
                    obtain ⟨t25, et25, hf⟩ := lj_e hf
                    refine lv_ren et25 ?_
                    refine lv_istore_n (lv' := [(2, .int t25), (4, .int i8), (3, .int i2), (0, .ref a0)]) hx hb dX1_circle_82 rfl hl (by decide) rfl (fun ls hl => ?_)
                    exact Hj14 t25 H locs ls hP hD hS (lv_sub hl [1, 2, 0, 3] rfl) hf
                  refine lv_if_ne (tgt := 61) hx hb dX1_circle_44 (by decide) (fun c26 => ?_) (fun c26 => ?_)
                  · replace hf := if_fe c26 hf
                    exact Hj20 H locs ls hP hD hS (lv_sub hl [0, 1, 2, 3] rfl) hf
                  · replace hf := if_te c26 hf
                    refine lv_iload_n hx hb dX1_circle_47 rfl (lv_at hl 2 rfl) ?_
                    refine lv_aload_n hx hb dX1_circle_48 rfl (lv_at hl 3 rfl) ?_
                    refine va_get (D := D) (ci := 1) (v := .ref a6) (C := RX1) (T := TX1) (N := 10) hx hb hts hi_RX1 hown hK hP 0 rfl rfl 5 (by decide) (hts (.fieldLink RX1 27 "TravelMarks$Port" "second" "[I") (List.mem_of_getElem? (i := 2) rfl)) (fun _ h9 => h9) rfl dX1_circle_49 ?_
                    refine lv_iload hx hb dX1_circle_52 (lv_at hl 0 rfl) ?_
                    obtain ⟨y28, ey28, hi27, hf⟩ := rdA_x hf
                    refine va_iald hx hb hK hP 6 0 rfl rfl hi27 dX1_circle_54 ?_
                    refine lv_ren ey28 ?_
                    refine kcz (Wx := (oPort C a0 a1 a2 a3 a4 a5 a6 v [])) (va_runSN (As := [.int i9, .int y28]) (rest := []) ⟨hx, hb, hml, hown, hts⟩ (c_X5_has l E D C H.size i9 y28 _ rfl) ⟨va_cnB 2 hts gX1_circle_X5_has_n88 rfl rfl rfl (hE.1.2 _ (List.mem_of_getElem? (i := 2) rfl)) (hts (.initialized RX5) (List.mem_of_getElem? (i := 4) rfl)) hdX5_has ⟨Nat.le_of_ble_eq_true rfl, Nat.le_of_ble_eq_true rfl⟩, (hts (.static yX5_has) (List.mem_of_getElem? (i := 3) rfl)), trivial⟩ (kpre hP hD hK hS hE hA [] rfl rfl) rfl rfl hl.1 rfl (lv_room (Nat.le_of_ble_eq_true rfl)) dX1_circle_55 ⟨Nat.zero_le _, Nat.zero_le _⟩) hP hD hS hA [] rfl rfl rfl (fun H locs hz29 hP hD hS => ?_)
                    refine lv_if_eq (tgt := 83) hx hb dX1_circle_58 (by decide) (fun c30 => ?_) (fun c30 => ?_)
                    · replace hf := if_te c30 hf
                      exact Hj14 i9 H locs ls hP hD hS (lv_sub hl [0, 1, 2, 3] rfl) hf
                    · replace hf := if_fe c30 hf
                      exact Hj20 H locs ls hP hD hS (lv_sub hl [0, 1, 2, 3] rfl) hf
          exact hL15 N 0 i3 H locs ls hP hD hS (lv_sub hl [0, 1, 2, 3] rfl) hf
    exact hL6 N 0 t1 H locs ls hP hD hS (lv_sub hl [0, 1, 2] rfl) hf
  exact main _ _ hP hD hS

def rmX5_heldInk : Room := { frames := 1, cells := 0, slots := 0, locals := 21 }
theorem hdX5_heldInk : yX5_heldInk.cls ≠ "java/lang/invoke/MethodHandle" ∧ yX5_heldInk.cls ≠ "java/lang/invoke/VarHandle" ∧ (parseMethodDescriptor yX5_heldInk.desc).map (fun d => d.parameters.length) = some 1 := by decide +kernel
set_option maxHeartbeats 40000000 in
set_option maxRecDepth 100000 in
theorem c_X5_heldInk (l : Launch) (E : Nat → Nat) (D : va_G) (C : Nat → ClassId) (sz : Nat)  (x0 : Int32) (r : Int32) (hf : f_X5_heldInk x0 = r) : Met l yX5_heldInk wsX5_heldInk rmX5_heldInk (PC E D C [.int x0] [] sz) (QI D C [] [] sz r) 0 0 (va_A [] sz) := by
  refine Met.ofW (cc := cX5_heldInk) (maxL := 1) (ret := (some .int)) (by decide) rfl ?_
  intro p e s m args below meth c s₁ B hml hv
  obtain ⟨rfl, hsz, hP, hK, hD0, hE⟩ := hv
  have hx := B.exec
  have hb := B.bytes
  have hr := B.returns
  have hts := atoms_spec (ws := wsX5_heldInk) B.pre
  have hown : s.vm.findClass RX5 = some m.cls := findClass_of_methodNamed B.named
  have hlocks := B.notSynchronized
  subst hsz
  have hD := hD0.self (sz := s.heap.size)
  obtain ⟨A, hAe⟩ := nm_ex (va_A [] s.heap.size)
  rw [← hAe] at hD hE ⊢
  have hA : ∀ q : Nat, s.heap.size ≤ q → A q := fun q h => by rw [hAe]; exact Or.inr h
  have hS : va_S A s.heap s.heap [] := va_S.rf
  have hl := lv_entry ([.int x0]) (n := 1) (Nat.le_of_ble_eq_true rfl)
  rw [lg_entry_eq]
  generalize (lg_sl ([.int x0]) ++ List.replicate (1 - (lg_sl ([.int x0])).length) Slot.unset).toArray = ls at hl ⊢
  have hl : lv_has ls 1 [(0, .int x0)] := hl
  obtain ⟨Q, hQ⟩ := nm_ex (MQ below (QI D C [] [] s.heap.size r) (List.toArray [Value.int x0]) s 0 0 A)
  show W p l e (headSpec wsX5_heldInk (rmX5_heldInk)).room s m (List.toArray [Value.int x0]) below meth c s.heap [] 0 0 (MQ below (QI D C [] [] s.heap.size r) (List.toArray [Value.int x0]) s 0 0 A) _
  rw [← hQ]
  unfold f_X5_heldInk at hf
  have main : ∀ (H : Heap) (locs : List Loc), va_P D vwCl [] H → va_D A [] → va_S A s.heap H locs → W p l e (headSpec wsX5_heldInk (rmX5_heldInk)).room s m (List.toArray [Value.int x0]) below meth c H locs 0 0 Q (F0 m 0 ls []) := by
    intro H locs hP hD hS
    refine lv_iconst (v := 0) hx hb dX5_heldInk_0 rfl ?_
    refine lv_bipush (v := 99) hx hb dX5_heldInk_1 rfl ?_
    refine lv_iload_n hx hb dX5_heldInk_3 rfl (lv_at hl 0 rfl) ?_
    refine va_mmin hx hb (by rw [hml]; exact hl.1.symm) hown (hts (.methodLink RX5 308 Lib.Math.min.name) (List.mem_of_getElem? (i := 1) rfl)) (hts (.static Lib.Math.min.name) (List.mem_of_getElem? (i := 2) rfl)) (hts (.initialized "java/lang/Math") (List.mem_of_getElem? (i := 3) rfl)) (hts (.code Lib.Math.min.name Lib.Math.min.code 2 (some .int)) (List.mem_of_getElem? (i := 4) rfl)) (Nat.le_of_ble_eq_true rfl) (Nat.le_of_ble_eq_true rfl) (Nat.zero_le _) (Nat.zero_le _) dX5_heldInk_4 ?_
    refine va_mmax hx hb (by rw [hml]; exact hl.1.symm) hown (hts (.methodLink RX5 313 Lib.Math.max.name) (List.mem_of_getElem? (i := 5) rfl)) (hts (.static Lib.Math.max.name) (List.mem_of_getElem? (i := 6) rfl)) (hts (.initialized "java/lang/Math") (List.mem_of_getElem? (i := 3) rfl)) (hts (.code Lib.Math.max.name Lib.Math.max.code 2 (some .int)) (List.mem_of_getElem? (i := 7) rfl)) (Nat.le_of_ble_eq_true rfl) (Nat.le_of_ble_eq_true rfl) (Nat.zero_le _) (Nat.zero_le _) dX5_heldInk_7 ?_
    cases hf
    exact kri hQ hAe hx hb hr hlocks hP hD hK hS dX5_heldInk_10
  exact main _ _ hP hD hS

