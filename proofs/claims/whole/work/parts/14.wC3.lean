def rmX5_partOf : Room := { frames := 1, cells := 0, slots := 0, locals := 26 }
theorem hdX5_partOf : yX5_partOf.cls ≠ "java/lang/invoke/MethodHandle" ∧ yX5_partOf.cls ≠ "java/lang/invoke/VarHandle" ∧ (parseMethodDescriptor yX5_partOf.desc).map (fun d => d.parameters.length) = some 3 := by decide +kernel
set_option maxHeartbeats 40000000 in
set_option maxRecDepth 100000 in
theorem c_X5_partOf (l : Launch) (E : Nat → Nat) (D : va_G) (C : Nat → ClassId) (sz : Nat) (N : Nat)  (x0 : Int64) (x1 : Int64) (x2 : Int32) (r : Int64) (hf : f_X5_partOf N x0 x1 x2 = some r) : Met l yX5_partOf wsX5_partOf rmX5_partOf (PC E D C [.long x0, .long x1, .int x2] [] sz) (QL D C [] [] sz r) 0 0 (va_A [] sz) := by
  refine Met.ofW (cc := cX5_partOf) (maxL := 7) (ret := (some .long)) (by decide) rfl ?_
  intro p e s m args below meth c s₁ B hml hv
  obtain ⟨rfl, hsz, hP, hK, hD0, hE⟩ := hv
  have hx := B.exec
  have hb := B.bytes
  have hr := B.returns
  have hts := atoms_spec (ws := wsX5_partOf) B.pre
  have hown : s.vm.findClass RX5 = some m.cls := findClass_of_methodNamed B.named
  have hlocks := B.notSynchronized
  subst hsz
  have hD := hD0.self (sz := s.heap.size)
  obtain ⟨A, hAe⟩ := nm_ex (va_A [] s.heap.size)
  rw [← hAe] at hD hE ⊢
  have hA : ∀ q : Nat, s.heap.size ≤ q → A q := fun q h => by rw [hAe]; exact Or.inr h
  have hS : va_S A s.heap s.heap [] := va_S.rf
  have hl := lv_entry ([.long x0, .long x1, .int x2]) (n := 7) (Nat.le_of_ble_eq_true rfl)
  rw [lg_entry_eq]
  generalize (lg_sl ([.long x0, .long x1, .int x2]) ++ List.replicate (7 - (lg_sl ([.long x0, .long x1, .int x2])).length) Slot.unset).toArray = ls at hl ⊢
  have hl : lv_has ls 7 [(0, .long x0), (2, .long x1), (4, .int x2)] := hl
  obtain ⟨Q, hQ⟩ := nm_ex (MQ below (QL D C [] [] s.heap.size r) (List.toArray [Value.long x0, Value.long x1, Value.int x2]) s 0 0 A)
  show W p l e (headSpec wsX5_partOf (rmX5_partOf)).room s m (List.toArray [Value.long x0, Value.long x1, Value.int x2]) below meth c s.heap [] 0 0 (MQ below (QL D C [] [] s.heap.size r) (List.toArray [Value.long x0, Value.long x1, Value.int x2]) s 0 0 A) _
  rw [← hQ]
  unfold f_X5_partOf at hf
  have main : ∀ (H : Heap) (locs : List Loc), va_P D vwCl [] H → va_D A [] → va_S A s.heap H locs → W p l e (headSpec wsX5_partOf (rmX5_partOf)).room s m (List.toArray [Value.long x0, Value.long x1, Value.int x2]) below meth c H locs 0 0 Q (F0 m 0 ls []) := by
    intro H locs hP hD hS
    refine lv_lload_n hx hb dX5_partOf_0 rfl (lv_at hl 0 rfl) ?_
    refine lv_lload_n hx hb dX5_partOf_1 rfl (lv_at hl 1 rfl) ?_
    obtain ⟨r1, h2, hf⟩ := ob1_e hf
    refine kcl (Wx := []) (va_runS (As := [.long x0, .long x1]) (rest := []) ⟨hx, hb, hml, hown, hts⟩ (c_X5_commonDivisor l E D C H.size N x0 x1 r1 h2) (va_cwS 2 hts gX5_partOf_X5_commonDivisor rfl rfl rfl hdX5_commonDivisor ⟨Nat.le_of_ble_eq_true rfl, Nat.le_of_ble_eq_true rfl⟩) (kpre hP hD hK hS hE hA [] rfl rfl) rfl rfl hl.1 rfl (lv_room (Nat.le_of_ble_eq_true rfl)) dX5_partOf_2 ⟨Nat.zero_le _, Nat.zero_le _⟩) hP hD hS hA [] rfl rfl rfl (fun H locs hP hD hS => ?_)
    refine lv_lstore (lv' := [(5, .long r1), (0, .long x0), (2, .long x1), (4, .int x2)]) hx hb dX5_partOf_5 hl (by decide) rfl (fun ls hl => ?_)
    refine lv_lload hx hb dX5_partOf_7 (lv_at hl 0 rfl) ?_
    refine lv_lconst (v := 0) hx hb dX5_partOf_9 rfl ?_
    refine W.lcmp hx hb dX5_partOf_10 ?_
    refine lv_if_ne (tgt := 16) hx hb dX5_partOf_11 (by decide) (fun c3 => ?_) (fun c3 => ?_)
    · replace hf := if_fe c3 hf
      refine lv_iload hx hb dX5_partOf_16 (lv_at hl 3 rfl) ?_
      refine lv_if_ne (tgt := 28) hx hb dX5_partOf_18 (by decide) (fun c4 => ?_) (fun c4 => ?_)
      · replace hf := if_fe c4 hf
        refine lv_lload_n hx hb dX5_partOf_28 rfl (lv_at hl 2 rfl) ?_
        refine lv_lload hx hb dX5_partOf_29 (lv_at hl 0 rfl) ?_
        obtain ⟨hz5, hf⟩ := gdP_e hf
        refine lv_ldiv hx hb dX5_partOf_31 hz5 ?_
        obtain ⟨t6, et6, hf⟩ := lj_e hf
        refine lv_renL et6 ?_
        cases hf
        exact krl hQ hAe hx hb hr hlocks hP hD hK hS dX5_partOf_32
      · replace hf := if_te c4 hf
        refine lv_lload_n hx hb dX5_partOf_21 rfl (lv_at hl 1 rfl) ?_
        refine lv_lload hx hb dX5_partOf_22 (lv_at hl 0 rfl) ?_
        obtain ⟨hz7, hf⟩ := gdP_e hf
        refine lv_ldiv hx hb dX5_partOf_24 hz7 ?_
        refine lv_goto (tgt := 32) hx hb dX5_partOf_25 (by decide) ?_
        obtain ⟨t8, et8, hf⟩ := lj_e hf
        refine lv_renL et8 ?_
        cases hf
        exact krl hQ hAe hx hb hr hlocks hP hD hK hS dX5_partOf_32
    · replace hf := if_te c3 hf
      refine lv_lconst (v := 0) hx hb dX5_partOf_14 rfl ?_
      cases hf
      exact krl hQ hAe hx hb hr hlocks hP hD hK hS dX5_partOf_15
  exact main _ _ hP hD hS

def rmX5_odds : Room := { frames := 2, cells := 0, slots := 0, locals := 52 }
theorem hdX5_odds : yX5_odds.cls = RX5 ∧ yX5_odds.cls ≠ "java/lang/invoke/MethodHandle" ∧ yX5_odds.cls ≠ "java/lang/invoke/VarHandle" ∧ (parseMethodDescriptor yX5_odds.desc).map (fun d => d.parameters.length) = some 3 := by decide +kernel
set_option maxHeartbeats 40000000 in
set_option maxRecDepth 100000 in
theorem c_X5_odds (l : Launch) (E : Nat → Nat) (D : va_G) (C : Nat → ClassId) (q0 qn0 qk0 qr0 qc0 qt0 qd0 qs0 qf0 qw0 qn1 qn2 qn3 qn4 qn5 qn6 : Nat) (sz : Nat) (N : Nat) (rowCount : Int32) (anyKept : Int32) (now : PV) (x0 : Int32) (x1 : Int32) (x2 : Int32) (r : Int64) (hf : f_X5_odds N now x0 x1 x2 = some r) : Met l yX5_odds wsX5_odds rmX5_odds (PC E D C [.ref q0, .int x0, .int x1, .int x2] (oTM q0 qn0 qk0 qr0 qc0 qt0 qd0 qs0 qf0 qw0 rowCount anyKept (oPort C qn0 qn1 qn2 qn3 qn4 qn5 qn6 now [])) sz) (QL D C (oTM q0 qn0 qk0 qr0 qc0 qt0 qd0 qs0 qf0 qw0 rowCount anyKept (oPort C qn0 qn1 qn2 qn3 qn4 qn5 qn6 now [])) (oTM q0 qn0 qk0 qr0 qc0 qt0 qd0 qs0 qf0 qw0 rowCount anyKept (oPort C qn0 qn1 qn2 qn3 qn4 qn5 qn6 now [])) sz r) 0 0 (va_A (oTM q0 qn0 qk0 qr0 qc0 qt0 qd0 qs0 qf0 qw0 rowCount anyKept (oPort C qn0 qn1 qn2 qn3 qn4 qn5 qn6 now [])) sz) := by
  refine Met.ofW (cc := cX5_odds) (maxL := 8) (ret := (some .long)) (by decide) rfl ?_
  intro p e s m args below meth c s₁ B hml hv
  obtain ⟨rfl, hsz, hP, hK, hD0, hE⟩ := hv
  have hx := B.exec
  have hb := B.bytes
  have hr := B.returns
  have hts := atoms_spec (ws := wsX5_odds) B.pre
  have hown : s.vm.findClass RX5 = some m.cls := findClass_of_methodNamed B.named
  have hlocks := B.notSynchronized
  subst hsz
  have hi_RX1 : ∀ w ∈ wsX10, w ∈ wsX5_odds := fun _ h => List.mem_cons_of_mem _ (List.mem_append_right _ h)
  have hi_RX5 : ∀ w ∈ wsX50, w ∈ wsX5_odds := fun _ h => List.mem_cons_of_mem _ (List.mem_append_left _ (List.mem_append_right _ h))
  have hD := hD0.self (sz := s.heap.size)
  obtain ⟨A, hAe⟩ := nm_ex (va_A (oTM q0 qn0 qk0 qr0 qc0 qt0 qd0 qs0 qf0 qw0 rowCount anyKept (oPort C qn0 qn1 qn2 qn3 qn4 qn5 qn6 now [])) s.heap.size)
  rw [← hAe] at hD hE ⊢
  have hA : ∀ q : Nat, s.heap.size ≤ q → A q := fun q h => by rw [hAe]; exact Or.inr h
  have hS : va_S A s.heap s.heap [] := va_S.rf
  have hl := lv_entry ([.ref q0, .int x0, .int x1, .int x2]) (n := 8) (Nat.le_of_ble_eq_true rfl)
  rw [lg_entry_eq]
  generalize (lg_sl ([.ref q0, .int x0, .int x1, .int x2]) ++ List.replicate (8 - (lg_sl ([.ref q0, .int x0, .int x1, .int x2])).length) Slot.unset).toArray = ls at hl ⊢
  have hl : lv_has ls 8 [(0, .ref q0), (1, .int x0), (2, .int x1), (3, .int x2)] := hl
  obtain ⟨Q, hQ⟩ := nm_ex (MQ below (QL D C (oTM q0 qn0 qk0 qr0 qc0 qt0 qd0 qs0 qf0 qw0 rowCount anyKept (oPort C qn0 qn1 qn2 qn3 qn4 qn5 qn6 now [])) (oTM q0 qn0 qk0 qr0 qc0 qt0 qd0 qs0 qf0 qw0 rowCount anyKept (oPort C qn0 qn1 qn2 qn3 qn4 qn5 qn6 now [])) s.heap.size r) (List.toArray [Value.ref q0, Value.int x0, Value.int x1, Value.int x2]) s 0 0 A)
  show W p l e (headSpec wsX5_odds (rmX5_odds)).room s m (List.toArray [Value.ref q0, Value.int x0, Value.int x1, Value.int x2]) below meth c s.heap [] 0 0 (MQ below (QL D C (oTM q0 qn0 qk0 qr0 qc0 qt0 qd0 qs0 qf0 qw0 rowCount anyKept (oPort C qn0 qn1 qn2 qn3 qn4 qn5 qn6 now [])) (oTM q0 qn0 qk0 qr0 qc0 qt0 qd0 qs0 qf0 qw0 rowCount anyKept (oPort C qn0 qn1 qn2 qn3 qn4 qn5 qn6 now [])) s.heap.size r) (List.toArray [Value.ref q0, Value.int x0, Value.int x1, Value.int x2]) s 0 0 A) _
  rw [← hQ]
  unfold f_X5_odds at hf
  have main : ∀ (H : Heap) (locs : List Loc), va_P D vwCl (oTM q0 qn0 qk0 qr0 qc0 qt0 qd0 qs0 qf0 qw0 rowCount anyKept (oPort C qn0 qn1 qn2 qn3 qn4 qn5 qn6 now [])) H → va_D A (oTM q0 qn0 qk0 qr0 qc0 qt0 qd0 qs0 qf0 qw0 rowCount anyKept (oPort C qn0 qn1 qn2 qn3 qn4 qn5 qn6 now [])) → va_S A s.heap H locs → W p l e (headSpec wsX5_odds (rmX5_odds)).room s m (List.toArray [Value.ref q0, Value.int x0, Value.int x1, Value.int x2]) below meth c H locs 0 0 Q (F0 m 0 ls []) := by
    intro H locs hP hD hS
    refine lv_iload_n hx hb dX5_odds_0 rfl (lv_at hl 1 rfl) ?_
    refine lv_iconst (v := 0) hx hb dX5_odds_1 rfl ?_
    refine lv_bipush (v := 8) hx hb dX5_odds_2 rfl ?_
    refine kcz (Wx := (oTM q0 qn0 qk0 qr0 qc0 qt0 qd0 qs0 qf0 qw0 rowCount anyKept (oPort C qn0 qn1 qn2 qn3 qn4 qn5 qn6 now []))) (va_runS (As := [.int x0, .int 0, .int 8]) (rest := []) ⟨hx, hb, hml, hown, hts⟩ (c_X5_within l E D C H.size x0 0 8 _ rfl) (va_cwS 3 hts gX5_odds_X5_within rfl rfl rfl hdX5_within ⟨Nat.le_of_ble_eq_true rfl, Nat.le_of_ble_eq_true rfl⟩) (kpre hP hD hK hS hE hA [] rfl rfl) rfl rfl hl.1 rfl (lv_room (Nat.le_of_ble_eq_true rfl)) dX5_odds_4 ⟨Nat.zero_le _, Nat.zero_le _⟩) hP hD hS hA [] rfl rfl rfl (fun H locs hz1 hP hD hS => ?_)
    refine lv_if_eq (tgt := 28) hx hb dX5_odds_7 (by decide) (fun c2 => ?_) (fun c2 => ?_)
    · replace hf := if_te c2 hf
      refine lv_ldc2 (v := (-1)) hx hb hown (hts (.constantLong RX5 226 (-1)) (List.mem_of_getElem? (i := 1) rfl)) dX5_odds_28 ?_
      cases hf
      exact krl hQ hAe hx hb hr hlocks hP hD hK hS dX5_odds_31
    · replace hf := if_fe c2 hf
      refine lv_iload_n hx hb dX5_odds_10 rfl (lv_at hl 2 rfl) ?_
      refine lv_iconst (v := 0) hx hb dX5_odds_11 rfl ?_
      refine lv_iload_n hx hb dX5_odds_12 rfl (lv_at hl 1 rfl) ?_
      refine kcz (Wx := (oTM q0 qn0 qk0 qr0 qc0 qt0 qd0 qs0 qf0 qw0 rowCount anyKept (oPort C qn0 qn1 qn2 qn3 qn4 qn5 qn6 now []))) (va_runS (As := [.int x1, .int 0, .int x0]) (rest := []) ⟨hx, hb, hml, hown, hts⟩ (c_X5_within l E D C H.size x1 0 x0 _ rfl) (va_cwS 3 hts gX5_odds_X5_within rfl rfl rfl hdX5_within ⟨Nat.le_of_ble_eq_true rfl, Nat.le_of_ble_eq_true rfl⟩) (kpre hP hD hK hS hE hA [] rfl rfl) rfl rfl hl.1 rfl (lv_room (Nat.le_of_ble_eq_true rfl)) dX5_odds_13 ⟨Nat.zero_le _, Nat.zero_le _⟩) hP hD hS hA [] rfl rfl rfl (fun H locs hz3 hP hD hS => ?_)
      refine lv_if_eq (tgt := 28) hx hb dX5_odds_16 (by decide) (fun c4 => ?_) (fun c4 => ?_)
      · replace hf := if_te c4 hf
        refine lv_ldc2 (v := (-1)) hx hb hown (hts (.constantLong RX5 226 (-1)) (List.mem_of_getElem? (i := 1) rfl)) dX5_odds_28 ?_
        cases hf
        exact krl hQ hAe hx hb hr hlocks hP hD hK hS dX5_odds_31
      · replace hf := if_fe c4 hf
        refine lv_iload_n hx hb dX5_odds_19 rfl (lv_at hl 3 rfl) ?_
        refine lv_iconst (v := 0) hx hb dX5_odds_20 rfl ?_
        refine lv_iconst (v := 1) hx hb dX5_odds_21 rfl ?_
        refine kcz (Wx := (oTM q0 qn0 qk0 qr0 qc0 qt0 qd0 qs0 qf0 qw0 rowCount anyKept (oPort C qn0 qn1 qn2 qn3 qn4 qn5 qn6 now []))) (va_runS (As := [.int x2, .int 0, .int 1]) (rest := []) ⟨hx, hb, hml, hown, hts⟩ (c_X5_within l E D C H.size x2 0 1 _ rfl) (va_cwS 3 hts gX5_odds_X5_within rfl rfl rfl hdX5_within ⟨Nat.le_of_ble_eq_true rfl, Nat.le_of_ble_eq_true rfl⟩) (kpre hP hD hK hS hE hA [] rfl rfl) rfl rfl hl.1 rfl (lv_room (Nat.le_of_ble_eq_true rfl)) dX5_odds_22 ⟨Nat.zero_le _, Nat.zero_le _⟩) hP hD hS hA [] rfl rfl rfl (fun H locs hz5 hP hD hS => ?_)
        refine lv_if_ne (tgt := 32) hx hb dX5_odds_25 (by decide) (fun c6 => ?_) (fun c6 => ?_)
        · replace hf := if_fe c6 hf
          refine lv_aload_n hx hb dX5_odds_32 rfl (lv_at hl 0 rfl) ?_
          refine va_get (D := D) (ci := 5) (v := .ref qn0) (C := RX5) (T := TX5) (N := 11) hx hb hts hi_RX5 hown hK hP 0 rfl rfl 0 (by decide) (hts (.fieldLink RX5 10 "TravelMarks" "now" "LTravelMarks$Port;") (List.mem_of_getElem? (i := 2) rfl)) (fun _ h9 => h9) rfl dX5_odds_33 ?_
          refine va_get (D := D) (ci := 1) (v := .ref qn1) (C := RX1) (T := TX1) (N := 10) hx hb hts hi_RX1 hown hK hP 1 rfl rfl 0 (by decide) (hts (.fieldLink RX5 95 "TravelMarks$Port" "laws" "[I") (List.mem_of_getElem? (i := 3) rfl)) (fun _ h9 => h9) rfl dX5_odds_36 ?_
          refine lv_iconst (v := 3) hx hb dX5_odds_39 rfl ?_
          refine va_iald hx hb hK hP 2 0 rfl rfl (i := 3) (vin (by decide)) dX5_odds_40 ?_
          refine lv_ren (show ((pLaws now) 3) = (pLaws now) (Int32.toNatClampNeg 3) from rfl) ?_
          refine lv_i2l hx hb dX5_odds_41 rfl ?_
          obtain ⟨t7, et7, hf⟩ := lj_e hf
          refine lv_renL et7 ?_
          refine lv_lstore (lv' := [(4, .long t7), (0, .ref q0), (1, .int x0), (2, .int x1), (3, .int x2)]) hx hb dX5_odds_42 hl (by decide) rfl (fun ls hl => ?_)
          refine lv_iload_n hx hb dX5_odds_44 rfl (lv_at hl 2 rfl) ?_
          refine lv_iload_n hx hb dX5_odds_45 rfl (lv_at hl 3 rfl) ?_
          obtain ⟨r8, h9, hf⟩ := ob1_e hf
          refine kcl (Wx := (oTM q0 qn0 qk0 qr0 qc0 qt0 qd0 qs0 qf0 qw0 rowCount anyKept (oPort C qn0 qn1 qn2 qn3 qn4 qn5 qn6 now []))) (va_runS (As := [.int x0, .int x1]) (rest := []) ⟨hx, hb, hml, hown, hts⟩ (c_X5_choices l E D C H.size N x0 x1 r8 h9) (va_cwS 2 hts gX5_odds_X5_choices rfl rfl rfl hdX5_choices ⟨Nat.le_of_ble_eq_true rfl, Nat.le_of_ble_eq_true rfl⟩) (kpre hP hD hK hS hE hA [] rfl rfl) rfl rfl hl.1 rfl (lv_room (Nat.le_of_ble_eq_true rfl)) dX5_odds_46 ⟨Nat.zero_le _, Nat.zero_le _⟩) hP hD hS hA [] rfl rfl rfl (fun H locs hP hD hS => ?_)
          refine lv_lload hx hb dX5_odds_49 (lv_at hl 0 rfl) ?_
          refine lv_iload_n hx hb dX5_odds_51 rfl (lv_at hl 3 rfl) ?_
          obtain ⟨r10, h11, hf⟩ := ob1_e hf
          refine kcl (Wx := (oTM q0 qn0 qk0 qr0 qc0 qt0 qd0 qs0 qf0 qw0 rowCount anyKept (oPort C qn0 qn1 qn2 qn3 qn4 qn5 qn6 now []))) (va_runS (As := [.long t7, .int x1]) (rest := [.long r8]) ⟨hx, hb, hml, hown, hts⟩ (c_X5_power l E D C H.size N t7 x1 r10 h11) (va_cwS 2 hts gX5_odds_X5_power rfl rfl rfl hdX5_power ⟨Nat.le_of_ble_eq_true rfl, Nat.le_of_ble_eq_true rfl⟩) (kpre hP hD hK hS hE hA [] rfl rfl) rfl rfl hl.1 rfl (lv_room (Nat.le_of_ble_eq_true rfl)) dX5_odds_52 ⟨Nat.zero_le _, Nat.zero_le _⟩) hP hD hS hA [] rfl rfl rfl (fun H locs hP hD hS => ?_)
          refine lv_lmul hx hb dX5_odds_55 ?_
          refine lv_ldc2 (v := 100) hx hb hown (hts (.constantLong RX5 236 (100)) (List.mem_of_getElem? (i := 4) rfl)) dX5_odds_56 ?_
          refine lv_lload hx hb dX5_odds_59 (lv_at hl 0 rfl) ?_
          refine lv_lsub hx hb dX5_odds_61 ?_
          refine lv_iload_n hx hb dX5_odds_62 rfl (lv_at hl 2 rfl) ?_
          refine lv_iload_n hx hb dX5_odds_63 rfl (lv_at hl 3 rfl) ?_
          refine lv_isub hx hb dX5_odds_64 ?_
          obtain ⟨r12, h13, hf⟩ := ob1_e hf
          refine kcl (Wx := (oTM q0 qn0 qk0 qr0 qc0 qt0 qd0 qs0 qf0 qw0 rowCount anyKept (oPort C qn0 qn1 qn2 qn3 qn4 qn5 qn6 now []))) (va_runS (As := [.long (100 - t7), .int (x0 - x1)]) (rest := [.long (r8 * r10)]) ⟨hx, hb, hml, hown, hts⟩ (c_X5_power l E D C H.size N (100 - t7) (x0 - x1) r12 h13) (va_cwS 2 hts gX5_odds_X5_power rfl rfl rfl hdX5_power ⟨Nat.le_of_ble_eq_true rfl, Nat.le_of_ble_eq_true rfl⟩) (kpre hP hD hK hS hE hA [] rfl rfl) rfl rfl hl.1 rfl (lv_room (Nat.le_of_ble_eq_true rfl)) dX5_odds_65 ⟨Nat.zero_le _, Nat.zero_le _⟩) hP hD hS hA [] rfl rfl rfl (fun H locs hP hD hS => ?_)
          refine lv_lmul hx hb dX5_odds_68 ?_
          obtain ⟨t14, et14, hf⟩ := lj_e hf
          refine lv_renL et14 ?_
          refine lv_lstore (lv' := [(6, .long t14), (4, .long t7), (0, .ref q0), (1, .int x0), (2, .int x1), (3, .int x2)]) hx hb dX5_odds_69 hl (by decide) rfl (fun ls hl => ?_)
          refine lv_lload hx hb dX5_odds_71 (lv_at hl 0 rfl) ?_
          refine lv_ldc2 (v := 100) hx hb hown (hts (.constantLong RX5 236 (100)) (List.mem_of_getElem? (i := 4) rfl)) dX5_odds_73 ?_
          refine lv_iload_n hx hb dX5_odds_76 rfl (lv_at hl 3 rfl) ?_
          obtain ⟨r15, h16, hf⟩ := ob1_e hf
          refine kcl (Wx := (oTM q0 qn0 qk0 qr0 qc0 qt0 qd0 qs0 qf0 qw0 rowCount anyKept (oPort C qn0 qn1 qn2 qn3 qn4 qn5 qn6 now []))) (va_runS (As := [.long 100, .int x0]) (rest := [.long t14]) ⟨hx, hb, hml, hown, hts⟩ (c_X5_power l E D C H.size N 100 x0 r15 h16) (va_cwS 2 hts gX5_odds_X5_power rfl rfl rfl hdX5_power ⟨Nat.le_of_ble_eq_true rfl, Nat.le_of_ble_eq_true rfl⟩) (kpre hP hD hK hS hE hA [] rfl rfl) rfl rfl hl.1 rfl (lv_room (Nat.le_of_ble_eq_true rfl)) dX5_odds_77 ⟨Nat.zero_le _, Nat.zero_le _⟩) hP hD hS hA [] rfl rfl rfl (fun H locs hP hD hS => ?_)
          refine lv_iload_n hx hb dX5_odds_80 rfl (lv_at hl 5 rfl) ?_
          obtain ⟨r17, h18, hf⟩ := ob1_e hf
          refine kcl (Wx := (oTM q0 qn0 qk0 qr0 qc0 qt0 qd0 qs0 qf0 qw0 rowCount anyKept (oPort C qn0 qn1 qn2 qn3 qn4 qn5 qn6 now []))) (va_runS (As := [.long t14, .long r15, .int x2]) (rest := []) ⟨hx, hb, hml, hown, hts⟩ (c_X5_partOf l E D C H.size N t14 r15 x2 r17 h18) (va_cwS 3 hts gX5_odds_X5_partOf rfl rfl rfl hdX5_partOf ⟨Nat.le_of_ble_eq_true rfl, Nat.le_of_ble_eq_true rfl⟩) (kpre hP hD hK hS hE hA [] rfl rfl) rfl rfl hl.1 rfl (lv_room (Nat.le_of_ble_eq_true rfl)) dX5_odds_81 ⟨Nat.zero_le _, Nat.zero_le _⟩) hP hD hS hA [] rfl rfl rfl (fun H locs hP hD hS => ?_)
          cases hf
          exact krl hQ hAe hx hb hr hlocks hP hD hK hS dX5_odds_84
        · replace hf := if_te c6 hf
          refine lv_ldc2 (v := (-1)) hx hb hown (hts (.constantLong RX5 226 (-1)) (List.mem_of_getElem? (i := 1) rfl)) dX5_odds_28 ?_
          cases hf
          exact krl hQ hAe hx hb hr hlocks hP hD hK hS dX5_odds_31
  exact main _ _ hP hD hS

def rmX5_hope : Room := { frames := 2, cells := 0, slots := 0, locals := 52 }
theorem hdX5_hope : yX5_hope.cls = RX5 ∧ yX5_hope.cls ≠ "java/lang/invoke/MethodHandle" ∧ yX5_hope.cls ≠ "java/lang/invoke/VarHandle" ∧ (parseMethodDescriptor yX5_hope.desc).map (fun d => d.parameters.length) = some 2 := by decide +kernel
set_option maxHeartbeats 40000000 in
set_option maxRecDepth 100000 in
theorem c_X5_hope (l : Launch) (E : Nat → Nat) (D : va_G) (C : Nat → ClassId) (q0 qn0 qk0 qr0 qc0 qt0 qd0 qs0 qf0 qw0 qn1 qn2 qn3 qn4 qn5 qn6 : Nat) (sz : Nat) (N : Nat) (rowCount : Int32) (anyKept : Int32) (now : PV) (x0 : Int32) (x1 : Int32) (r : Int64) (hf : f_X5_hope N now x0 x1 = some r) : Met l yX5_hope wsX5_hope rmX5_hope (PC E D C [.ref q0, .int x0, .int x1] (oTM q0 qn0 qk0 qr0 qc0 qt0 qd0 qs0 qf0 qw0 rowCount anyKept (oPort C qn0 qn1 qn2 qn3 qn4 qn5 qn6 now [])) sz) (QL D C (oTM q0 qn0 qk0 qr0 qc0 qt0 qd0 qs0 qf0 qw0 rowCount anyKept (oPort C qn0 qn1 qn2 qn3 qn4 qn5 qn6 now [])) (oTM q0 qn0 qk0 qr0 qc0 qt0 qd0 qs0 qf0 qw0 rowCount anyKept (oPort C qn0 qn1 qn2 qn3 qn4 qn5 qn6 now [])) sz r) 0 0 (va_A (oTM q0 qn0 qk0 qr0 qc0 qt0 qd0 qs0 qf0 qw0 rowCount anyKept (oPort C qn0 qn1 qn2 qn3 qn4 qn5 qn6 now [])) sz) := by
  refine Met.ofW (cc := cX5_hope) (maxL := 3) (ret := (some .long)) (by decide) rfl ?_
  intro p e s m args below meth c s₁ B hml hv
  obtain ⟨rfl, hsz, hP, hK, hD0, hE⟩ := hv
  have hx := B.exec
  have hb := B.bytes
  have hr := B.returns
  have hts := atoms_spec (ws := wsX5_hope) B.pre
  have hown : s.vm.findClass RX5 = some m.cls := findClass_of_methodNamed B.named
  have hlocks := B.notSynchronized
  subst hsz
  have hi_RX1 : ∀ w ∈ wsX10, w ∈ wsX5_hope := fun _ h => List.mem_cons_of_mem _ (List.mem_append_right _ h)
  have hi_RX5 : ∀ w ∈ wsX50, w ∈ wsX5_hope := fun _ h => List.mem_cons_of_mem _ (List.mem_append_left _ (List.mem_append_right _ h))
  have hD := hD0.self (sz := s.heap.size)
  obtain ⟨A, hAe⟩ := nm_ex (va_A (oTM q0 qn0 qk0 qr0 qc0 qt0 qd0 qs0 qf0 qw0 rowCount anyKept (oPort C qn0 qn1 qn2 qn3 qn4 qn5 qn6 now [])) s.heap.size)
  rw [← hAe] at hD hE ⊢
  have hA : ∀ q : Nat, s.heap.size ≤ q → A q := fun q h => by rw [hAe]; exact Or.inr h
  have hS : va_S A s.heap s.heap [] := va_S.rf
  have hl := lv_entry ([.ref q0, .int x0, .int x1]) (n := 3) (Nat.le_of_ble_eq_true rfl)
  rw [lg_entry_eq]
  generalize (lg_sl ([.ref q0, .int x0, .int x1]) ++ List.replicate (3 - (lg_sl ([.ref q0, .int x0, .int x1])).length) Slot.unset).toArray = ls at hl ⊢
  have hl : lv_has ls 3 [(0, .ref q0), (1, .int x0), (2, .int x1)] := hl
  obtain ⟨Q, hQ⟩ := nm_ex (MQ below (QL D C (oTM q0 qn0 qk0 qr0 qc0 qt0 qd0 qs0 qf0 qw0 rowCount anyKept (oPort C qn0 qn1 qn2 qn3 qn4 qn5 qn6 now [])) (oTM q0 qn0 qk0 qr0 qc0 qt0 qd0 qs0 qf0 qw0 rowCount anyKept (oPort C qn0 qn1 qn2 qn3 qn4 qn5 qn6 now [])) s.heap.size r) (List.toArray [Value.ref q0, Value.int x0, Value.int x1]) s 0 0 A)
  show W p l e (headSpec wsX5_hope (rmX5_hope)).room s m (List.toArray [Value.ref q0, Value.int x0, Value.int x1]) below meth c s.heap [] 0 0 (MQ below (QL D C (oTM q0 qn0 qk0 qr0 qc0 qt0 qd0 qs0 qf0 qw0 rowCount anyKept (oPort C qn0 qn1 qn2 qn3 qn4 qn5 qn6 now [])) (oTM q0 qn0 qk0 qr0 qc0 qt0 qd0 qs0 qf0 qw0 rowCount anyKept (oPort C qn0 qn1 qn2 qn3 qn4 qn5 qn6 now [])) s.heap.size r) (List.toArray [Value.ref q0, Value.int x0, Value.int x1]) s 0 0 A) _
  rw [← hQ]
  unfold f_X5_hope at hf
  have main : ∀ (H : Heap) (locs : List Loc), va_P D vwCl (oTM q0 qn0 qk0 qr0 qc0 qt0 qd0 qs0 qf0 qw0 rowCount anyKept (oPort C qn0 qn1 qn2 qn3 qn4 qn5 qn6 now [])) H → va_D A (oTM q0 qn0 qk0 qr0 qc0 qt0 qd0 qs0 qf0 qw0 rowCount anyKept (oPort C qn0 qn1 qn2 qn3 qn4 qn5 qn6 now [])) → va_S A s.heap H locs → W p l e (headSpec wsX5_hope (rmX5_hope)).room s m (List.toArray [Value.ref q0, Value.int x0, Value.int x1]) below meth c H locs 0 0 Q (F0 m 0 ls []) := by
    intro H locs hP hD hS
    refine lv_iload_n hx hb dX5_hope_0 rfl (lv_at hl 1 rfl) ?_
    refine lv_iconst (v := 0) hx hb dX5_hope_1 rfl ?_
    refine lv_bipush (v := 99) hx hb dX5_hope_2 rfl ?_
    refine kcz (Wx := (oTM q0 qn0 qk0 qr0 qc0 qt0 qd0 qs0 qf0 qw0 rowCount anyKept (oPort C qn0 qn1 qn2 qn3 qn4 qn5 qn6 now []))) (va_runS (As := [.int x0, .int 0, .int 99]) (rest := []) ⟨hx, hb, hml, hown, hts⟩ (c_X5_within l E D C H.size x0 0 99 _ rfl) (va_cwS 3 hts gX5_hope_X5_within rfl rfl rfl hdX5_within ⟨Nat.le_of_ble_eq_true rfl, Nat.le_of_ble_eq_true rfl⟩) (kpre hP hD hK hS hE hA [] rfl rfl) rfl rfl hl.1 rfl (lv_room (Nat.le_of_ble_eq_true rfl)) dX5_hope_4 ⟨Nat.zero_le _, Nat.zero_le _⟩) hP hD hS hA [] rfl rfl rfl (fun H locs hz1 hP hD hS => ?_)
    refine lv_if_eq (tgt := 19) hx hb dX5_hope_7 (by decide) (fun c2 => ?_) (fun c2 => ?_)
    · replace hf := if_te c2 hf
      refine lv_ldc2 (v := (-1)) hx hb hown (hts (.constantLong RX5 226 (-1)) (List.mem_of_getElem? (i := 1) rfl)) dX5_hope_19 ?_
      cases hf
      exact krl hQ hAe hx hb hr hlocks hP hD hK hS dX5_hope_22
    · replace hf := if_fe c2 hf
      refine lv_iload_n hx hb dX5_hope_10 rfl (lv_at hl 2 rfl) ?_
      refine lv_iconst (v := 0) hx hb dX5_hope_11 rfl ?_
      refine lv_iconst (v := 1) hx hb dX5_hope_12 rfl ?_
      refine kcz (Wx := (oTM q0 qn0 qk0 qr0 qc0 qt0 qd0 qs0 qf0 qw0 rowCount anyKept (oPort C qn0 qn1 qn2 qn3 qn4 qn5 qn6 now []))) (va_runS (As := [.int x1, .int 0, .int 1]) (rest := []) ⟨hx, hb, hml, hown, hts⟩ (c_X5_within l E D C H.size x1 0 1 _ rfl) (va_cwS 3 hts gX5_hope_X5_within rfl rfl rfl hdX5_within ⟨Nat.le_of_ble_eq_true rfl, Nat.le_of_ble_eq_true rfl⟩) (kpre hP hD hK hS hE hA [] rfl rfl) rfl rfl hl.1 rfl (lv_room (Nat.le_of_ble_eq_true rfl)) dX5_hope_13 ⟨Nat.zero_le _, Nat.zero_le _⟩) hP hD hS hA [] rfl rfl rfl (fun H locs hz3 hP hD hS => ?_)
      refine lv_if_ne (tgt := 23) hx hb dX5_hope_16 (by decide) (fun c4 => ?_) (fun c4 => ?_)
      · replace hf := if_fe c4 hf
        refine lv_iload_n hx hb dX5_hope_23 rfl (lv_at hl 1 rfl) ?_
        refine lv_i2l hx hb dX5_hope_24 rfl ?_
        refine lv_aload_n hx hb dX5_hope_25 rfl (lv_at hl 0 rfl) ?_
        refine va_get (D := D) (ci := 5) (v := .ref qn0) (C := RX5) (T := TX5) (N := 11) hx hb hts hi_RX5 hown hK hP 0 rfl rfl 0 (by decide) (hts (.fieldLink RX5 10 "TravelMarks" "now" "LTravelMarks$Port;") (List.mem_of_getElem? (i := 2) rfl)) (fun _ h9 => h9) rfl dX5_hope_26 ?_
        refine va_get (D := D) (ci := 1) (v := .ref qn1) (C := RX1) (T := TX1) (N := 10) hx hb hts hi_RX1 hown hK hP 1 rfl rfl 0 (by decide) (hts (.fieldLink RX5 95 "TravelMarks$Port" "laws" "[I") (List.mem_of_getElem? (i := 3) rfl)) (fun _ h9 => h9) rfl dX5_hope_29 ?_
        refine lv_iconst (v := 3) hx hb dX5_hope_32 rfl ?_
        refine va_iald hx hb hK hP 2 0 rfl rfl (i := 3) (vin (by decide)) dX5_hope_33 ?_
        refine lv_ren (show ((pLaws now) 3) = (pLaws now) (Int32.toNatClampNeg 3) from rfl) ?_
        refine lv_i2l hx hb dX5_hope_34 rfl ?_
        refine lv_lmul hx hb dX5_hope_35 ?_
        refine lv_ldc2 (v := 100) hx hb hown (hts (.constantLong RX5 236 (100)) (List.mem_of_getElem? (i := 4) rfl)) dX5_hope_36 ?_
        refine lv_iload_n hx hb dX5_hope_39 rfl (lv_at hl 2 rfl) ?_
        obtain ⟨r5, h6, hf⟩ := ob1_e hf
        refine kcl (Wx := (oTM q0 qn0 qk0 qr0 qc0 qt0 qd0 qs0 qf0 qw0 rowCount anyKept (oPort C qn0 qn1 qn2 qn3 qn4 qn5 qn6 now []))) (va_runS (As := [.long ((Int32.toInt64 x0) * (Int32.toInt64 ((pLaws now) 3))), .long 100, .int x1]) (rest := []) ⟨hx, hb, hml, hown, hts⟩ (c_X5_partOf l E D C H.size N ((Int32.toInt64 x0) * (Int32.toInt64 ((pLaws now) 3))) 100 x1 r5 h6) (va_cwS 3 hts gX5_hope_X5_partOf rfl rfl rfl hdX5_partOf ⟨Nat.le_of_ble_eq_true rfl, Nat.le_of_ble_eq_true rfl⟩) (kpre hP hD hK hS hE hA [] rfl rfl) rfl rfl hl.1 rfl (lv_room (Nat.le_of_ble_eq_true rfl)) dX5_hope_40 ⟨Nat.zero_le _, Nat.zero_le _⟩) hP hD hS hA [] rfl rfl rfl (fun H locs hP hD hS => ?_)
        cases hf
        exact krl hQ hAe hx hb hr hlocks hP hD hK hS dX5_hope_43
      · replace hf := if_te c4 hf
        refine lv_ldc2 (v := (-1)) hx hb hown (hts (.constantLong RX5 226 (-1)) (List.mem_of_getElem? (i := 1) rfl)) dX5_hope_19 ?_
        cases hf
        exact krl hQ hAe hx hb hr hlocks hP hD hK hS dX5_hope_22
  exact main _ _ hP hD hS

def rmX5_prove : Room := { frames := 4, cells := 0, slots := 0, locals := 91 }
theorem hdX5_prove : yX5_prove.cls = RX5 ∧ yX5_prove.cls ≠ "java/lang/invoke/MethodHandle" ∧ yX5_prove.cls ≠ "java/lang/invoke/VarHandle" ∧ (parseMethodDescriptor yX5_prove.desc).map (fun d => d.parameters.length) = some 2 := by decide +kernel
set_option maxHeartbeats 40000000 in
set_option maxRecDepth 100000 in
theorem c_X5_prove (l : Launch) (E : Nat → Nat) (D : va_G) (C : Nat → ClassId) (q0 qn0 qk0 qr0 qc0 qt0 qd0 qs0 qf0 qw0 qn1 qn2 qn3 qn4 qn5 qn6 qr1 qr2 qr3 qr4 qr5 qr6 : Nat) (sz : Nat) (N : Nat) (rowCount : Int32) (anyKept : Int32) (now : PV) (trial : PV) (rows : Nat → Int32) (x0 : Int32) (x1 : Int32) (r : Int32) (rowCount' : Int32) (trial' : PV) (rows' : Nat → Int32) (hf : f_X5_prove N rowCount now trial rows x0 x1 = some (r, rowCount', trial', rows')) : Met l yX5_prove wsX5_prove rmX5_prove (PC E D C [.ref q0, .int x0, .int x1] (oTM q0 qn0 qk0 qr0 qc0 qt0 qd0 qs0 qf0 qw0 rowCount anyKept (oPort C qn0 qn1 qn2 qn3 qn4 qn5 qn6 now (oPort C qr0 qr1 qr2 qr3 qr4 qr5 qr6 trial (oArrI C qw0 30 rows [])))) sz) (QI D C (oTM q0 qn0 qk0 qr0 qc0 qt0 qd0 qs0 qf0 qw0 rowCount anyKept (oPort C qn0 qn1 qn2 qn3 qn4 qn5 qn6 now (oPort C qr0 qr1 qr2 qr3 qr4 qr5 qr6 trial (oArrI C qw0 30 rows [])))) (oTM q0 qn0 qk0 qr0 qc0 qt0 qd0 qs0 qf0 qw0 (rowCount') anyKept (oPort C qn0 qn1 qn2 qn3 qn4 qn5 qn6 now (oPort C qr0 qr1 qr2 qr3 qr4 qr5 qr6 (trial') (oArrI C qw0 30 (rows') [])))) sz r) 0 0 (va_A (oTM q0 qn0 qk0 qr0 qc0 qt0 qd0 qs0 qf0 qw0 rowCount anyKept (oPort C qn0 qn1 qn2 qn3 qn4 qn5 qn6 now (oPort C qr0 qr1 qr2 qr3 qr4 qr5 qr6 trial (oArrI C qw0 30 rows [])))) sz) := by
  refine Met.ofW (cc := cX5_prove) (maxL := 5) (ret := (some .int)) (by decide) rfl ?_
  intro p e s m args below meth c s₁ B hml hv
  obtain ⟨rfl, hsz, hP, hK, hD0, hE⟩ := hv
  have hx := B.exec
  have hb := B.bytes
  have hr := B.returns
  have hts := atoms_spec (ws := wsX5_prove) B.pre
  have hown : s.vm.findClass RX5 = some m.cls := findClass_of_methodNamed B.named
  have hlocks := B.notSynchronized
  subst hsz
  have hi_RX5 : ∀ w ∈ wsX50, w ∈ wsX5_prove := fun _ h => List.mem_cons_of_mem _ (List.mem_append_left _ (List.mem_append_right _ h))
  have hD := hD0.self (sz := s.heap.size)
  obtain ⟨A, hAe⟩ := nm_ex (va_A (oTM q0 qn0 qk0 qr0 qc0 qt0 qd0 qs0 qf0 qw0 rowCount anyKept (oPort C qn0 qn1 qn2 qn3 qn4 qn5 qn6 now (oPort C qr0 qr1 qr2 qr3 qr4 qr5 qr6 trial (oArrI C qw0 30 rows [])))) s.heap.size)
  rw [← hAe] at hD hE ⊢
  have hA : ∀ q : Nat, s.heap.size ≤ q → A q := fun q h => by rw [hAe]; exact Or.inr h
  have hS : va_S A s.heap s.heap [] := va_S.rf
  have hl := lv_entry ([.ref q0, .int x0, .int x1]) (n := 5) (Nat.le_of_ble_eq_true rfl)
  rw [lg_entry_eq]
  generalize (lg_sl ([.ref q0, .int x0, .int x1]) ++ List.replicate (5 - (lg_sl ([.ref q0, .int x0, .int x1])).length) Slot.unset).toArray = ls at hl ⊢
  have hl : lv_has ls 5 [(0, .ref q0), (1, .int x0), (2, .int x1)] := hl
  obtain ⟨Q, hQ⟩ := nm_ex (MQ below (QI D C (oTM q0 qn0 qk0 qr0 qc0 qt0 qd0 qs0 qf0 qw0 rowCount anyKept (oPort C qn0 qn1 qn2 qn3 qn4 qn5 qn6 now (oPort C qr0 qr1 qr2 qr3 qr4 qr5 qr6 trial (oArrI C qw0 30 rows [])))) (oTM q0 qn0 qk0 qr0 qc0 qt0 qd0 qs0 qf0 qw0 (rowCount') anyKept (oPort C qn0 qn1 qn2 qn3 qn4 qn5 qn6 now (oPort C qr0 qr1 qr2 qr3 qr4 qr5 qr6 (trial') (oArrI C qw0 30 (rows') [])))) s.heap.size r) (List.toArray [Value.ref q0, Value.int x0, Value.int x1]) s 0 0 A)
  show W p l e (headSpec wsX5_prove (rmX5_prove)).room s m (List.toArray [Value.ref q0, Value.int x0, Value.int x1]) below meth c s.heap [] 0 0 (MQ below (QI D C (oTM q0 qn0 qk0 qr0 qc0 qt0 qd0 qs0 qf0 qw0 rowCount anyKept (oPort C qn0 qn1 qn2 qn3 qn4 qn5 qn6 now (oPort C qr0 qr1 qr2 qr3 qr4 qr5 qr6 trial (oArrI C qw0 30 rows [])))) (oTM q0 qn0 qk0 qr0 qc0 qt0 qd0 qs0 qf0 qw0 (rowCount') anyKept (oPort C qn0 qn1 qn2 qn3 qn4 qn5 qn6 now (oPort C qr0 qr1 qr2 qr3 qr4 qr5 qr6 (trial') (oArrI C qw0 30 (rows') [])))) s.heap.size r) (List.toArray [Value.ref q0, Value.int x0, Value.int x1]) s 0 0 A) _
  rw [← hQ]
  unfold f_X5_prove at hf
  have main : ∀ (H : Heap) (locs : List Loc), va_P D vwCl (oTM q0 qn0 qk0 qr0 qc0 qt0 qd0 qs0 qf0 qw0 rowCount anyKept (oPort C qn0 qn1 qn2 qn3 qn4 qn5 qn6 now (oPort C qr0 qr1 qr2 qr3 qr4 qr5 qr6 trial (oArrI C qw0 30 rows [])))) H → va_D A (oTM q0 qn0 qk0 qr0 qc0 qt0 qd0 qs0 qf0 qw0 rowCount anyKept (oPort C qn0 qn1 qn2 qn3 qn4 qn5 qn6 now (oPort C qr0 qr1 qr2 qr3 qr4 qr5 qr6 trial (oArrI C qw0 30 rows [])))) → va_S A s.heap H locs → W p l e (headSpec wsX5_prove (rmX5_prove)).room s m (List.toArray [Value.ref q0, Value.int x0, Value.int x1]) below meth c H locs 0 0 Q (F0 m 0 ls []) := by
    intro H locs hP hD hS
    refine lv_aload_n hx hb dX5_prove_0 rfl (lv_at hl 0 rfl) ?_
    refine lv_iload_n hx hb dX5_prove_1 rfl (lv_at hl 1 rfl) ?_
    refine kcz (Wx := (oTM q0 qn0 qk0 qr0 qc0 qt0 qd0 qs0 qf0 qw0 rowCount anyKept (oPort C qn0 qn1 qn2 qn3 qn4 qn5 qn6 now (oPort C qr0 qr1 qr2 qr3 qr4 qr5 qr6 trial (oArrI C qw0 30 rows []))))) (va_runV (As := [.int x0]) (rest := []) ⟨hx, hb, hml, hown, hts⟩ (c_X5_isMark l E D C q0 qn0 qk0 qr0 qc0 qt0 qd0 qs0 qf0 qw0 qn1 qn2 qn3 qn4 qn5 qn6 H.size rowCount anyKept now x0 _ rfl) (cwV 1 hts gX5_prove_X5_isMark rfl rfl rfl hdX5_isMark ⟨Nat.le_of_ble_eq_true rfl, Nat.le_of_ble_eq_true rfl⟩) (kpreV hP hD hK hS hE hA [0, 1, 2, 3, 4, 5, 6, 7] rfl rfl 0 rfl rfl rfl) rfl rfl hl.1 rfl (lv_room (Nat.le_of_ble_eq_true rfl)) dX5_prove_2 ⟨Nat.zero_le _, Nat.zero_le _⟩) hP hD hS hA [0, 1, 2, 3, 4, 5, 6, 7] rfl rfl rfl (fun H locs hz1 hP hD hS => ?_)
    refine lv_if_eq (tgt := 18) hx hb dX5_prove_5 (by decide) (fun c2 => ?_) (fun c2 => ?_)
    · replace hf := if_te c2 hf
      refine lv_iconst (v := (-1)) hx hb dX5_prove_18 rfl ?_
      cases hf
      exact kri hQ hAe hx hb hr hlocks hP hD hK hS dX5_prove_19
    · replace hf := if_fe c2 hf
      refine lv_iload_n hx hb dX5_prove_8 rfl (lv_at hl 2 rfl) ?_
      refine lv_iconst (v := 1) hx hb dX5_prove_9 rfl ?_
      refine lv_bipush (v := 10) hx hb dX5_prove_10 rfl ?_
      refine kcz (Wx := (oTM q0 qn0 qk0 qr0 qc0 qt0 qd0 qs0 qf0 qw0 rowCount anyKept (oPort C qn0 qn1 qn2 qn3 qn4 qn5 qn6 now (oPort C qr0 qr1 qr2 qr3 qr4 qr5 qr6 trial (oArrI C qw0 30 rows []))))) (va_runS (As := [.int x1, .int 1, .int 10]) (rest := []) ⟨hx, hb, hml, hown, hts⟩ (c_X5_within l E D C H.size x1 1 10 _ rfl) (va_cwS 3 hts gX5_prove_X5_within rfl rfl rfl hdX5_within ⟨Nat.le_of_ble_eq_true rfl, Nat.le_of_ble_eq_true rfl⟩) (kpre hP hD hK hS hE hA [] rfl rfl) rfl rfl hl.1 rfl (lv_room (Nat.le_of_ble_eq_true rfl)) dX5_prove_12 ⟨Nat.zero_le _, Nat.zero_le _⟩) hP hD hS hA [] rfl rfl rfl (fun H locs hz3 hP hD hS => ?_)
      refine lv_if_ne (tgt := 20) hx hb dX5_prove_15 (by decide) (fun c4 => ?_) (fun c4 => ?_)
      · replace hf := if_fe c4 hf
        refine lv_aload_n hx hb dX5_prove_20 rfl (lv_at hl 0 rfl) ?_
        refine va_get (D := D) (ci := 5) (v := .ref qr0) (C := RX5) (T := TX5) (N := 11) hx hb hts hi_RX5 hown hK hP 0 rfl rfl 2 (by decide) (hts (.fieldLink RX5 19 "TravelMarks" "trial" "LTravelMarks$Port;") (List.mem_of_getElem? (i := 1) rfl)) (fun _ h9 => h9) rfl dX5_prove_21 ?_
        refine lv_aload_n hx hb dX5_prove_24 rfl (lv_at hl 0 rfl) ?_
        refine va_get (D := D) (ci := 5) (v := .ref qn0) (C := RX5) (T := TX5) (N := 11) hx hb hts hi_RX5 hown hK hP 0 rfl rfl 0 (by decide) (hts (.fieldLink RX5 10 "TravelMarks" "now" "LTravelMarks$Port;") (List.mem_of_getElem? (i := 2) rfl)) (fun _ h9 => h9) rfl dX5_prove_25 ?_
        obtain ⟨v5, h6, hf⟩ := ob1_e hf
        refine kcv (Wx := (oTM q0 qn0 qk0 qr0 qc0 qt0 qd0 qs0 qf0 qw0 rowCount anyKept (oPort C qn0 qn1 qn2 qn3 qn4 qn5 qn6 now (oPort C qr0 qr1 qr2 qr3 qr4 qr5 qr6 v5 (oArrI C qw0 30 rows []))))) (va_runV (As := [.ref qn0]) (rest := []) ⟨hx, hb, hml, hown, hts⟩ (c_X1_become l E D C qr0 qr1 qr2 qr3 qr4 qr5 qr6 qn0 qn1 qn2 qn3 qn4 qn5 qn6 H.size trial now v5 h6) (cwV 1 hts gX5_prove_X1_become rfl rfl rfl hdX1_become ⟨Nat.le_of_ble_eq_true rfl, Nat.le_of_ble_eq_true rfl⟩) (kpreV hP hD hK hS hE hA [8, 9, 10, 11, 12, 13, 14, 1, 2, 3, 4, 5, 6, 7] rfl rfl 8 rfl rfl rfl) rfl rfl hl.1 rfl (lv_room (Nat.le_of_ble_eq_true rfl)) dX5_prove_28 ⟨Nat.zero_le _, Nat.zero_le _⟩) hP hD hS hA [8, 9, 10, 11, 12, 13, 14, 1, 2, 3, 4, 5, 6, 7] rfl rfl rfl (fun H locs hP hD hS => ?_)
        refine lv_iconst (v := 0) hx hb dX5_prove_31 rfl ?_
        refine lv_istore_n (lv' := [(3, .int 0), (0, .ref q0), (1, .int x0), (2, .int x1)]) hx hb dX5_prove_32 rfl hl (by decide) rfl (fun ls hl => ?_)
        obtain ⟨j9, hj9, hf⟩ := lj_e hf
        have Hj9 : ∀ (v7 : PV) (v8 : Nat → Int32) (H : Heap) (locs : List Loc) (ls : Array Slot), va_P D vwCl (oTM q0 qn0 qk0 qr0 qc0 qt0 qd0 qs0 qf0 qw0 rowCount anyKept (oPort C qn0 qn1 qn2 qn3 qn4 qn5 qn6 now (oPort C qr0 qr1 qr2 qr3 qr4 qr5 qr6 v7 (oArrI C qw0 30 v8 [])))) H → va_D A (oTM q0 qn0 qk0 qr0 qc0 qt0 qd0 qs0 qf0 qw0 rowCount anyKept (oPort C qn0 qn1 qn2 qn3 qn4 qn5 qn6 now (oPort C qr0 qr1 qr2 qr3 qr4 qr5 qr6 v7 (oArrI C qw0 30 v8 [])))) → va_S A s.heap H locs → lv_has ls 5 [(0, .ref q0), (2, .int x1)] → j9 v7 v8 = some (r, rowCount', trial', rows') → W p l e (headSpec wsX5_prove (rmX5_prove)).room s m (List.toArray [Value.ref q0, Value.int x0, Value.int x1]) below meth c H locs 0 0 Q (F0 m 87 ls []) := by
          intro v7 v8 H locs ls hP hD hS hl hf
          rw [hj9] at hf
          refine lv_aload_n hx hb dX5_prove_87 rfl (lv_at hl 0 rfl) ?_
          refine lv_iload_n hx hb dX5_prove_88 rfl (lv_at hl 1 rfl) ?_
          refine va_put (D := D) (ci := 5) (v := .int x1) (ty := .int) (C := RX5) (T := TX5) (N := 11) hx hb hts hi_RX5 tyX5 tyX5_ok nmX5 hown hK hP hD hS 0 rfl rfl 9 (by decide) (hts (.fieldLink RX5 83 "TravelMarks" "rowCount" "I") (List.mem_of_getElem? (i := 4) rfl)) (fun _ h9 => h9) rfl (tyX5_ok 9 (by decide)) rfl rfl (Nat.le_of_ble_eq_true rfl) dX5_prove_89 (fun H locs hP hD hS => ?_)
          have hP : va_P D vwCl (oTM q0 qn0 qk0 qr0 qc0 qt0 qd0 qs0 qf0 qw0 x1 anyKept (oPort C qn0 qn1 qn2 qn3 qn4 qn5 qn6 now (oPort C qr0 qr1 qr2 qr3 qr4 qr5 qr6 v7 (oArrI C qw0 30 v8 [])))) H := hP
          have hD : va_D A (oTM q0 qn0 qk0 qr0 qc0 qt0 qd0 qs0 qf0 qw0 x1 anyKept (oPort C qn0 qn1 qn2 qn3 qn4 qn5 qn6 now (oPort C qr0 qr1 qr2 qr3 qr4 qr5 qr6 v7 (oArrI C qw0 30 v8 [])))) := hD
          refine lv_iload_n hx hb dX5_prove_92 rfl (lv_at hl 1 rfl) ?_
          cases hf
          exact kri hQ hAe hx hb hr hlocks hP hD hK hS dX5_prove_93
        have hL33 : ∀ (n : Nat) (i10 : Int32) (v11 : PV) (v12 : Nat → Int32) (H : Heap) (locs : List Loc) (ls : Array Slot), va_P D vwCl (oTM q0 qn0 qk0 qr0 qc0 qt0 qd0 qs0 qf0 qw0 rowCount anyKept (oPort C qn0 qn1 qn2 qn3 qn4 qn5 qn6 now (oPort C qr0 qr1 qr2 qr3 qr4 qr5 qr6 v11 (oArrI C qw0 30 v12 [])))) H → va_D A (oTM q0 qn0 qk0 qr0 qc0 qt0 qd0 qs0 qf0 qw0 rowCount anyKept (oPort C qn0 qn1 qn2 qn3 qn4 qn5 qn6 now (oPort C qr0 qr1 qr2 qr3 qr4 qr5 qr6 v11 (oArrI C qw0 30 v12 [])))) → va_S A s.heap H locs → lv_has ls 5 [(3, .int i10), (0, .ref q0), (1, .int x0), (2, .int x1)] → f_X5_prove_L33 N x0 x1 j9 n i10 v11 v12 = some (r, rowCount', trial', rows') → W p l e (headSpec wsX5_prove (rmX5_prove)).room s m (List.toArray [Value.ref q0, Value.int x0, Value.int x1]) below meth c H locs 0 0 Q (F0 m 33 ls []) := by
          intro n
          induction n with
          | zero =>
            intro i10 v11 v12 H locs ls hP hD hS hl hf
            exact absurd hf (fun h => by cases h)
          | succ n ih =>
            intro i10 v11 v12 H locs ls hP hD hS hl hf
            rw [f_X5_prove_L33] at hf
            refine lv_iload_n hx hb dX5_prove_33 rfl (lv_at hl 0 rfl) ?_
            refine lv_iload_n hx hb dX5_prove_34 rfl (lv_at hl 3 rfl) ?_
            refine lv_icmp_ge (tgt := 87) hx hb dX5_prove_35 (by decide) (fun c13 => ?_) (fun c13 => ?_)
            · replace hf := if_te c13 hf
              exact Hj9 v11 v12 H locs ls hP hD hS (lv_sub hl [1, 3] rfl) hf
            · replace hf := if_fe c13 hf
              refine lv_aload_n hx hb dX5_prove_38 rfl (lv_at hl 1 rfl) ?_
              refine va_get (D := D) (ci := 5) (v := .ref qr0) (C := RX5) (T := TX5) (N := 11) hx hb hts hi_RX5 hown hK hP 0 rfl rfl 2 (by decide) (hts (.fieldLink RX5 19 "TravelMarks" "trial" "LTravelMarks$Port;") (List.mem_of_getElem? (i := 1) rfl)) (fun _ h9 => h9) rfl dX5_prove_39 ?_
              obtain ⟨v14, h15, hf⟩ := ob1_e hf
              refine kcv (Wx := (oTM q0 qn0 qk0 qr0 qc0 qt0 qd0 qs0 qf0 qw0 rowCount anyKept (oPort C qn0 qn1 qn2 qn3 qn4 qn5 qn6 now (oPort C qr0 qr1 qr2 qr3 qr4 qr5 qr6 v14 (oArrI C qw0 30 v12 []))))) (va_runV (As := []) (rest := []) ⟨hx, hb, hml, hown, hts⟩ (c_X1_passHour l E D C qr0 qr1 qr2 qr3 qr4 qr5 qr6 H.size N v11 v14 h15) (cwV 0 hts gX5_prove_X1_passHour rfl rfl rfl hdX1_passHour ⟨Nat.le_of_ble_eq_true rfl, Nat.le_of_ble_eq_true rfl⟩) (kpreV hP hD hK hS hE hA [8, 9, 10, 11, 12, 13, 14] rfl rfl 8 rfl rfl rfl) rfl rfl hl.1 rfl (lv_room (Nat.le_of_ble_eq_true rfl)) dX5_prove_42 ⟨Nat.zero_le _, Nat.zero_le _⟩) hP hD hS hA [8, 9, 10, 11, 12, 13, 14] rfl rfl rfl (fun H locs hP hD hS => ?_)
              refine lv_iconst (v := 0) hx hb dX5_prove_45 rfl ?_
              refine lv_istore (lv' := [(4, .int 0), (3, .int i10), (0, .ref q0), (1, .int x0), (2, .int x1)]) hx hb dX5_prove_46 hl (by decide) rfl (fun ls hl => ?_)
              obtain ⟨j17, hj17, hf⟩ := lj_e hf
              have Hj17 : ∀ (v16 : Nat → Int32) (H : Heap) (locs : List Loc) (ls : Array Slot), va_P D vwCl (oTM q0 qn0 qk0 qr0 qc0 qt0 qd0 qs0 qf0 qw0 rowCount anyKept (oPort C qn0 qn1 qn2 qn3 qn4 qn5 qn6 now (oPort C qr0 qr1 qr2 qr3 qr4 qr5 qr6 v14 (oArrI C qw0 30 v16 [])))) H → va_D A (oTM q0 qn0 qk0 qr0 qc0 qt0 qd0 qs0 qf0 qw0 rowCount anyKept (oPort C qn0 qn1 qn2 qn3 qn4 qn5 qn6 now (oPort C qr0 qr1 qr2 qr3 qr4 qr5 qr6 v14 (oArrI C qw0 30 v16 [])))) → va_S A s.heap H locs → lv_has ls 5 [(3, .int i10), (0, .ref q0), (1, .int x0), (2, .int x1)] → j17 v16 = some (r, rowCount', trial', rows') → W p l e (headSpec wsX5_prove (rmX5_prove)).room s m (List.toArray [Value.ref q0, Value.int x0, Value.int x1]) below meth c H locs 0 0 Q (F0 m 81 ls []) := by
                intro v16 H locs ls hP hD hS hl hf
                rw [hj17] at hf
                obtain ⟨t18, et18, hf⟩ := lj_e hf
                refine lv_iinc (v := t18) (lv' := [(3, .int t18), (0, .ref q0), (1, .int x0), (2, .int x1)]) hx hb dX5_prove_81 hl (k := 0) rfl (by rw [et18]; rfl) (by decide) rfl (fun ls hl => ?_)
                refine lv_goto (tgt := 33) hx hb dX5_prove_84 (by decide) ?_
                exact ih t18 v14 v16 H locs ls hP hD hS (lv_sub hl [0, 1, 2, 3] rfl) hf
              have hL48 : ∀ (n : Nat) (i19 : Int32) (v20 : Nat → Int32) (H : Heap) (locs : List Loc) (ls : Array Slot), va_P D vwCl (oTM q0 qn0 qk0 qr0 qc0 qt0 qd0 qs0 qf0 qw0 rowCount anyKept (oPort C qn0 qn1 qn2 qn3 qn4 qn5 qn6 now (oPort C qr0 qr1 qr2 qr3 qr4 qr5 qr6 v14 (oArrI C qw0 30 v20 [])))) H → va_D A (oTM q0 qn0 qk0 qr0 qc0 qt0 qd0 qs0 qf0 qw0 rowCount anyKept (oPort C qn0 qn1 qn2 qn3 qn4 qn5 qn6 now (oPort C qr0 qr1 qr2 qr3 qr4 qr5 qr6 v14 (oArrI C qw0 30 v20 [])))) → va_S A s.heap H locs → lv_has ls 5 [(4, .int i19), (3, .int i10), (0, .ref q0), (1, .int x0), (2, .int x1)] → f_X5_prove_L48 x0 i10 v14 j17 n i19 v20 = some (r, rowCount', trial', rows') → W p l e (headSpec wsX5_prove (rmX5_prove)).room s m (List.toArray [Value.ref q0, Value.int x0, Value.int x1]) below meth c H locs 0 0 Q (F0 m 48 ls []) := by
                intro n
                induction n with
                | zero =>
                  intro i19 v20 H locs ls hP hD hS hl hf
                  exact absurd hf (fun h => by cases h)
                | succ n ih =>
                  intro i19 v20 H locs ls hP hD hS hl hf
                  rw [f_X5_prove_L48] at hf
                  refine lv_iload hx hb dX5_prove_48 (lv_at hl 0 rfl) ?_
                  refine lv_iconst (v := 3) hx hb dX5_prove_50 rfl ?_
                  refine lv_icmp_ge (tgt := 81) hx hb dX5_prove_51 (by decide) (fun c21 => ?_) (fun c21 => ?_)
                  · replace hf := if_te c21 hf
                    exact Hj17 v20 H locs ls hP hD hS (lv_sub hl [1, 2, 3, 4] rfl) hf
                  · replace hf := if_fe c21 hf
                    refine lv_aload_n hx hb dX5_prove_54 rfl (lv_at hl 2 rfl) ?_
                    refine va_get (D := D) (ci := 5) (v := .ref qw0) (C := RX5) (T := TX5) (N := 11) hx hb hts hi_RX5 hown hK hP 0 rfl rfl 8 (by decide) (hts (.fieldLink RX5 51 "TravelMarks" "rows" "[I") (List.mem_of_getElem? (i := 3) rfl)) (fun _ h9 => h9) rfl dX5_prove_55 ?_
                    refine lv_iload_n hx hb dX5_prove_58 rfl (lv_at hl 1 rfl) ?_
                    refine lv_iconst (v := 3) hx hb dX5_prove_59 rfl ?_
                    refine lv_imul hx hb dX5_prove_60 ?_
                    refine lv_iload hx hb dX5_prove_61 (lv_at hl 0 rfl) ?_
                    refine lv_iadd hx hb dX5_prove_63 ?_
                    refine lv_aload_n hx hb dX5_prove_64 rfl (lv_at hl 2 rfl) ?_
                    refine va_get (D := D) (ci := 5) (v := .ref qr0) (C := RX5) (T := TX5) (N := 11) hx hb hts hi_RX5 hown hK hP 0 rfl rfl 2 (by decide) (hts (.fieldLink RX5 19 "TravelMarks" "trial" "LTravelMarks$Port;") (List.mem_of_getElem? (i := 1) rfl)) (fun _ h9 => h9) rfl dX5_prove_65 ?_
                    refine lv_iload_n hx hb dX5_prove_68 rfl (lv_at hl 3 rfl) ?_
                    refine lv_iload hx hb dX5_prove_69 (lv_at hl 0 rfl) ?_
                    obtain ⟨r22, h23, hf⟩ := ob1_e hf
                    refine kci (Wx := (oTM q0 qn0 qk0 qr0 qc0 qt0 qd0 qs0 qf0 qw0 rowCount anyKept (oPort C qn0 qn1 qn2 qn3 qn4 qn5 qn6 now (oPort C qr0 qr1 qr2 qr3 qr4 qr5 qr6 v14 (oArrI C qw0 30 v20 []))))) (va_runV (As := [.int x0, .int i19]) (rest := [.int ((i10 * 3) + i19), .ref qw0]) ⟨hx, hb, hml, hown, hts⟩ (c_X1_rowPart l E D C qr0 qr1 qr2 qr3 qr4 qr5 qr6 H.size v14 x0 i19 r22 h23) (cwV 2 hts gX5_prove_X1_rowPart rfl rfl rfl hdX1_rowPart ⟨Nat.le_of_ble_eq_true rfl, Nat.le_of_ble_eq_true rfl⟩) (kpreV hP hD hK hS hE hA [8, 9, 10, 11, 12, 13, 14] rfl rfl 8 rfl rfl rfl) rfl rfl hl.1 rfl (lv_room (Nat.le_of_ble_eq_true rfl)) dX5_prove_71 ⟨Nat.zero_le _, Nat.zero_le _⟩) hP hD hS hA [8, 9, 10, 11, 12, 13, 14] rfl rfl rfl (fun H locs hP hD hS => ?_)
                    obtain ⟨hi24, hf⟩ := ckA_e hf
                    refine va_iast hx hb hK hP hD hS 15 0 rfl rfl hi24 dX5_prove_74 (fun H locs hP hD hS => ?_)
                    obtain ⟨v25, ev25, hf⟩ := lj_e hf
                    have hP : va_P D vwCl (oTM q0 qn0 qk0 qr0 qc0 qt0 qd0 qs0 qf0 qw0 rowCount anyKept (oPort C qn0 qn1 qn2 qn3 qn4 qn5 qn6 now (oPort C qr0 qr1 qr2 qr3 qr4 qr5 qr6 v14 (oArrI C qw0 30 v25 [])))) H := by rw [ev25]; exact hP
                    have hD : va_D A (oTM q0 qn0 qk0 qr0 qc0 qt0 qd0 qs0 qf0 qw0 rowCount anyKept (oPort C qn0 qn1 qn2 qn3 qn4 qn5 qn6 now (oPort C qr0 qr1 qr2 qr3 qr4 qr5 qr6 v14 (oArrI C qw0 30 v25 [])))) := by rw [ev25]; exact hD
                    obtain ⟨t26, et26, hf⟩ := lj_e hf
                    refine lv_iinc (v := t26) (lv' := [(4, .int t26), (3, .int i10), (0, .ref q0), (1, .int x0), (2, .int x1)]) hx hb dX5_prove_75 hl (k := 0) rfl (by rw [et26]; rfl) (by decide) rfl (fun ls hl => ?_)
                    refine lv_goto (tgt := 48) hx hb dX5_prove_78 (by decide) ?_
                    exact ih t26 v25 H locs ls hP hD hS (lv_sub hl [0, 1, 2, 3, 4] rfl) hf
              exact hL48 N 0 v12 H locs ls hP hD hS (lv_sub hl [0, 1, 2, 3, 4] rfl) hf
        exact hL33 N 0 v5 rows H locs ls hP hD hS (lv_sub hl [0, 1, 2, 3] rfl) hf
      · replace hf := if_te c4 hf
        refine lv_iconst (v := (-1)) hx hb dX5_prove_18 rfl ?_
        cases hf
        exact kri hQ hAe hx hb hr hlocks hP hD hK hS dX5_prove_19
  exact main _ _ hP hD hS

def rmX5_isRowPart : Room := { frames := 1, cells := 0, slots := 0, locals := 22 }
theorem hdX5_isRowPart : yX5_isRowPart.cls = RX5 ∧ yX5_isRowPart.cls ≠ "java/lang/invoke/MethodHandle" ∧ yX5_isRowPart.cls ≠ "java/lang/invoke/VarHandle" ∧ (parseMethodDescriptor yX5_isRowPart.desc).map (fun d => d.parameters.length) = some 2 := by decide +kernel
set_option maxHeartbeats 40000000 in
set_option maxRecDepth 100000 in
theorem c_X5_isRowPart (l : Launch) (E : Nat → Nat) (D : va_G) (C : Nat → ClassId) (q0 qn0 qk0 qr0 qc0 qt0 qd0 qs0 qf0 qw0 : Nat) (sz : Nat) (rowCount : Int32) (anyKept : Int32) (x0 : Int32) (x1 : Int32) (r : Int32) (hf : f_X5_isRowPart rowCount x0 x1 = r) : Met l yX5_isRowPart wsX5_isRowPart rmX5_isRowPart (PC E D C [.ref q0, .int x0, .int x1] (oTM q0 qn0 qk0 qr0 qc0 qt0 qd0 qs0 qf0 qw0 rowCount anyKept []) sz) (QZ D C (oTM q0 qn0 qk0 qr0 qc0 qt0 qd0 qs0 qf0 qw0 rowCount anyKept []) (oTM q0 qn0 qk0 qr0 qc0 qt0 qd0 qs0 qf0 qw0 rowCount anyKept []) sz r) 0 0 (va_A (oTM q0 qn0 qk0 qr0 qc0 qt0 qd0 qs0 qf0 qw0 rowCount anyKept []) sz) := by
  refine Met.ofW (cc := cX5_isRowPart) (maxL := 3) (ret := (some .boolean)) (by decide) rfl ?_
  intro p e s m args below meth c s₁ B hml hv
  obtain ⟨rfl, hsz, hP, hK, hD0, hE⟩ := hv
  have hx := B.exec
  have hb := B.bytes
  have hr := B.returns
  have hts := atoms_spec (ws := wsX5_isRowPart) B.pre
  have hown : s.vm.findClass RX5 = some m.cls := findClass_of_methodNamed B.named
  have hlocks := B.notSynchronized
  subst hsz
  have hi_RX5 : ∀ w ∈ wsX50, w ∈ wsX5_isRowPart := fun _ h => List.mem_cons_of_mem _ (List.mem_append_right _ h)
  have hD := hD0.self (sz := s.heap.size)
  obtain ⟨A, hAe⟩ := nm_ex (va_A (oTM q0 qn0 qk0 qr0 qc0 qt0 qd0 qs0 qf0 qw0 rowCount anyKept []) s.heap.size)
  rw [← hAe] at hD hE ⊢
  have hA : ∀ q : Nat, s.heap.size ≤ q → A q := fun q h => by rw [hAe]; exact Or.inr h
  have hS : va_S A s.heap s.heap [] := va_S.rf
  have hl := lv_entry ([.ref q0, .int x0, .int x1]) (n := 3) (Nat.le_of_ble_eq_true rfl)
  rw [lg_entry_eq]
  generalize (lg_sl ([.ref q0, .int x0, .int x1]) ++ List.replicate (3 - (lg_sl ([.ref q0, .int x0, .int x1])).length) Slot.unset).toArray = ls at hl ⊢
  have hl : lv_has ls 3 [(0, .ref q0), (1, .int x0), (2, .int x1)] := hl
  obtain ⟨Q, hQ⟩ := nm_ex (MQ below (QZ D C (oTM q0 qn0 qk0 qr0 qc0 qt0 qd0 qs0 qf0 qw0 rowCount anyKept []) (oTM q0 qn0 qk0 qr0 qc0 qt0 qd0 qs0 qf0 qw0 rowCount anyKept []) s.heap.size r) (List.toArray [Value.ref q0, Value.int x0, Value.int x1]) s 0 0 A)
  show W p l e (headSpec wsX5_isRowPart (rmX5_isRowPart)).room s m (List.toArray [Value.ref q0, Value.int x0, Value.int x1]) below meth c s.heap [] 0 0 (MQ below (QZ D C (oTM q0 qn0 qk0 qr0 qc0 qt0 qd0 qs0 qf0 qw0 rowCount anyKept []) (oTM q0 qn0 qk0 qr0 qc0 qt0 qd0 qs0 qf0 qw0 rowCount anyKept []) s.heap.size r) (List.toArray [Value.ref q0, Value.int x0, Value.int x1]) s 0 0 A) _
  rw [← hQ]
  unfold f_X5_isRowPart at hf
  have main : ∀ (H : Heap) (locs : List Loc), va_P D vwCl (oTM q0 qn0 qk0 qr0 qc0 qt0 qd0 qs0 qf0 qw0 rowCount anyKept []) H → va_D A (oTM q0 qn0 qk0 qr0 qc0 qt0 qd0 qs0 qf0 qw0 rowCount anyKept []) → va_S A s.heap H locs → W p l e (headSpec wsX5_isRowPart (rmX5_isRowPart)).room s m (List.toArray [Value.ref q0, Value.int x0, Value.int x1]) below meth c H locs 0 0 Q (F0 m 0 ls []) := by
    intro H locs hP hD hS
    refine lv_iload_n hx hb dX5_isRowPart_0 rfl (lv_at hl 1 rfl) ?_
    refine lv_iconst (v := 0) hx hb dX5_isRowPart_1 rfl ?_
    refine lv_aload_n hx hb dX5_isRowPart_2 rfl (lv_at hl 0 rfl) ?_
    refine va_get (D := D) (ci := 5) (v := .int rowCount) (C := RX5) (T := TX5) (N := 11) hx hb hts hi_RX5 hown hK hP 0 rfl rfl 9 (by decide) (hts (.fieldLink RX5 83 "TravelMarks" "rowCount" "I") (List.mem_of_getElem? (i := 1) rfl)) (fun _ h9 => h9) rfl dX5_isRowPart_3 ?_
    refine lv_iconst (v := 1) hx hb dX5_isRowPart_6 rfl ?_
    refine lv_isub hx hb dX5_isRowPart_7 ?_
    refine kcz (Wx := (oTM q0 qn0 qk0 qr0 qc0 qt0 qd0 qs0 qf0 qw0 rowCount anyKept [])) (va_runS (As := [.int x0, .int 0, .int (rowCount - 1)]) (rest := []) ⟨hx, hb, hml, hown, hts⟩ (c_X5_within l E D C H.size x0 0 (rowCount - 1) _ rfl) (va_cwS 3 hts gX5_isRowPart_X5_within rfl rfl rfl hdX5_within ⟨Nat.le_of_ble_eq_true rfl, Nat.le_of_ble_eq_true rfl⟩) (kpre hP hD hK hS hE hA [] rfl rfl) rfl rfl hl.1 rfl (lv_room (Nat.le_of_ble_eq_true rfl)) dX5_isRowPart_8 ⟨Nat.zero_le _, Nat.zero_le _⟩) hP hD hS hA [] rfl rfl rfl (fun H locs hz1 hP hD hS => ?_)
    refine lv_if_eq (tgt := 27) hx hb dX5_isRowPart_11 (by decide) (fun c2 => ?_) (fun c2 => ?_)
    · replace hf := if_te c2 hf
      refine lv_iconst (v := 0) hx hb dX5_isRowPart_27 rfl ?_
      cases hf
      exact krz hQ hAe hx hb hr hlocks zb_0 hP hD hK hS dX5_isRowPart_28
    · replace hf := if_fe c2 hf
      refine lv_iload_n hx hb dX5_isRowPart_14 rfl (lv_at hl 2 rfl) ?_
      refine lv_iconst (v := 0) hx hb dX5_isRowPart_15 rfl ?_
      refine lv_iconst (v := 2) hx hb dX5_isRowPart_16 rfl ?_
      refine kcz (Wx := (oTM q0 qn0 qk0 qr0 qc0 qt0 qd0 qs0 qf0 qw0 rowCount anyKept [])) (va_runS (As := [.int x1, .int 0, .int 2]) (rest := []) ⟨hx, hb, hml, hown, hts⟩ (c_X5_within l E D C H.size x1 0 2 _ rfl) (va_cwS 3 hts gX5_isRowPart_X5_within rfl rfl rfl hdX5_within ⟨Nat.le_of_ble_eq_true rfl, Nat.le_of_ble_eq_true rfl⟩) (kpre hP hD hK hS hE hA [] rfl rfl) rfl rfl hl.1 rfl (lv_room (Nat.le_of_ble_eq_true rfl)) dX5_isRowPart_17 ⟨Nat.zero_le _, Nat.zero_le _⟩) hP hD hS hA [] rfl rfl rfl (fun H locs hz3 hP hD hS => ?_)
      refine lv_if_eq (tgt := 27) hx hb dX5_isRowPart_20 (by decide) (fun c4 => ?_) (fun c4 => ?_)
      · replace hf := if_te c4 hf
        refine lv_iconst (v := 0) hx hb dX5_isRowPart_27 rfl ?_
        cases hf
        exact krz hQ hAe hx hb hr hlocks zb_0 hP hD hK hS dX5_isRowPart_28
      · replace hf := if_fe c4 hf
        refine lv_iconst (v := 1) hx hb dX5_isRowPart_23 rfl ?_
        refine lv_goto (tgt := 28) hx hb dX5_isRowPart_24 (by decide) ?_
        cases hf
        exact krz hQ hAe hx hb hr hlocks zb_1 hP hD hK hS dX5_isRowPart_28
  exact main _ _ hP hD hS

def rmX5_row : Room := { frames := 2, cells := 0, slots := 0, locals := 44 }
theorem hdX5_row : yX5_row.cls = RX5 ∧ yX5_row.cls ≠ "java/lang/invoke/MethodHandle" ∧ yX5_row.cls ≠ "java/lang/invoke/VarHandle" ∧ (parseMethodDescriptor yX5_row.desc).map (fun d => d.parameters.length) = some 2 := by decide +kernel
set_option maxHeartbeats 40000000 in
set_option maxRecDepth 100000 in
theorem c_X5_row (l : Launch) (E : Nat → Nat) (D : va_G) (C : Nat → ClassId) (q0 qn0 qk0 qr0 qc0 qt0 qd0 qs0 qf0 qw0 : Nat) (sz : Nat) (rowCount : Int32) (anyKept : Int32) (rows : Nat → Int32) (x0 : Int32) (x1 : Int32) (r : Int32) (hf : f_X5_row rowCount rows x0 x1 = some r) : Met l yX5_row wsX5_row rmX5_row (PC E D C [.ref q0, .int x0, .int x1] (oTM q0 qn0 qk0 qr0 qc0 qt0 qd0 qs0 qf0 qw0 rowCount anyKept (oArrI C qw0 30 rows [])) sz) (QI D C (oTM q0 qn0 qk0 qr0 qc0 qt0 qd0 qs0 qf0 qw0 rowCount anyKept (oArrI C qw0 30 rows [])) (oTM q0 qn0 qk0 qr0 qc0 qt0 qd0 qs0 qf0 qw0 rowCount anyKept (oArrI C qw0 30 rows [])) sz r) 0 0 (va_A (oTM q0 qn0 qk0 qr0 qc0 qt0 qd0 qs0 qf0 qw0 rowCount anyKept (oArrI C qw0 30 rows [])) sz) := by
  refine Met.ofW (cc := cX5_row) (maxL := 3) (ret := (some .int)) (by decide) rfl ?_
  intro p e s m args below meth c s₁ B hml hv
  obtain ⟨rfl, hsz, hP, hK, hD0, hE⟩ := hv
  have hx := B.exec
  have hb := B.bytes
  have hr := B.returns
  have hts := atoms_spec (ws := wsX5_row) B.pre
  have hown : s.vm.findClass RX5 = some m.cls := findClass_of_methodNamed B.named
  have hlocks := B.notSynchronized
  subst hsz
  have hi_RX5 : ∀ w ∈ wsX50, w ∈ wsX5_row := fun _ h => List.mem_cons_of_mem _ (List.mem_append_right _ h)
  have hD := hD0.self (sz := s.heap.size)
  obtain ⟨A, hAe⟩ := nm_ex (va_A (oTM q0 qn0 qk0 qr0 qc0 qt0 qd0 qs0 qf0 qw0 rowCount anyKept (oArrI C qw0 30 rows [])) s.heap.size)
  rw [← hAe] at hD hE ⊢
  have hA : ∀ q : Nat, s.heap.size ≤ q → A q := fun q h => by rw [hAe]; exact Or.inr h
  have hS : va_S A s.heap s.heap [] := va_S.rf
  have hl := lv_entry ([.ref q0, .int x0, .int x1]) (n := 3) (Nat.le_of_ble_eq_true rfl)
  rw [lg_entry_eq]
  generalize (lg_sl ([.ref q0, .int x0, .int x1]) ++ List.replicate (3 - (lg_sl ([.ref q0, .int x0, .int x1])).length) Slot.unset).toArray = ls at hl ⊢
  have hl : lv_has ls 3 [(0, .ref q0), (1, .int x0), (2, .int x1)] := hl
  obtain ⟨Q, hQ⟩ := nm_ex (MQ below (QI D C (oTM q0 qn0 qk0 qr0 qc0 qt0 qd0 qs0 qf0 qw0 rowCount anyKept (oArrI C qw0 30 rows [])) (oTM q0 qn0 qk0 qr0 qc0 qt0 qd0 qs0 qf0 qw0 rowCount anyKept (oArrI C qw0 30 rows [])) s.heap.size r) (List.toArray [Value.ref q0, Value.int x0, Value.int x1]) s 0 0 A)
  show W p l e (headSpec wsX5_row (rmX5_row)).room s m (List.toArray [Value.ref q0, Value.int x0, Value.int x1]) below meth c s.heap [] 0 0 (MQ below (QI D C (oTM q0 qn0 qk0 qr0 qc0 qt0 qd0 qs0 qf0 qw0 rowCount anyKept (oArrI C qw0 30 rows [])) (oTM q0 qn0 qk0 qr0 qc0 qt0 qd0 qs0 qf0 qw0 rowCount anyKept (oArrI C qw0 30 rows [])) s.heap.size r) (List.toArray [Value.ref q0, Value.int x0, Value.int x1]) s 0 0 A) _
  rw [← hQ]
  unfold f_X5_row at hf
  have main : ∀ (H : Heap) (locs : List Loc), va_P D vwCl (oTM q0 qn0 qk0 qr0 qc0 qt0 qd0 qs0 qf0 qw0 rowCount anyKept (oArrI C qw0 30 rows [])) H → va_D A (oTM q0 qn0 qk0 qr0 qc0 qt0 qd0 qs0 qf0 qw0 rowCount anyKept (oArrI C qw0 30 rows [])) → va_S A s.heap H locs → W p l e (headSpec wsX5_row (rmX5_row)).room s m (List.toArray [Value.ref q0, Value.int x0, Value.int x1]) below meth c H locs 0 0 Q (F0 m 0 ls []) := by
    intro H locs hP hD hS
    refine lv_aload_n hx hb dX5_row_0 rfl (lv_at hl 0 rfl) ?_
    refine lv_iload_n hx hb dX5_row_1 rfl (lv_at hl 1 rfl) ?_
    refine lv_iload_n hx hb dX5_row_2 rfl (lv_at hl 2 rfl) ?_
    refine kcz (Wx := (oTM q0 qn0 qk0 qr0 qc0 qt0 qd0 qs0 qf0 qw0 rowCount anyKept (oArrI C qw0 30 rows []))) (va_runV (As := [.int x0, .int x1]) (rest := []) ⟨hx, hb, hml, hown, hts⟩ (c_X5_isRowPart l E D C q0 qn0 qk0 qr0 qc0 qt0 qd0 qs0 qf0 qw0 H.size rowCount anyKept x0 x1 _ rfl) (cwV 2 hts gX5_row_X5_isRowPart rfl rfl rfl hdX5_isRowPart ⟨Nat.le_of_ble_eq_true rfl, Nat.le_of_ble_eq_true rfl⟩) (kpreV hP hD hK hS hE hA [0] rfl rfl 0 rfl rfl rfl) rfl rfl hl.1 rfl (lv_room (Nat.le_of_ble_eq_true rfl)) dX5_row_3 ⟨Nat.zero_le _, Nat.zero_le _⟩) hP hD hS hA [0] rfl rfl rfl (fun H locs hz1 hP hD hS => ?_)
    refine lv_if_eq (tgt := 22) hx hb dX5_row_6 (by decide) (fun c2 => ?_) (fun c2 => ?_)
    · replace hf := if_te c2 hf
      refine lv_bipush (v := (-9)) hx hb dX5_row_22 rfl ?_
      cases hf
      exact kri hQ hAe hx hb hr hlocks hP hD hK hS dX5_row_24
    · replace hf := if_fe c2 hf
      refine lv_aload_n hx hb dX5_row_9 rfl (lv_at hl 0 rfl) ?_
      refine va_get (D := D) (ci := 5) (v := .ref qw0) (C := RX5) (T := TX5) (N := 11) hx hb hts hi_RX5 hown hK hP 0 rfl rfl 8 (by decide) (hts (.fieldLink RX5 51 "TravelMarks" "rows" "[I") (List.mem_of_getElem? (i := 1) rfl)) (fun _ h9 => h9) rfl dX5_row_10 ?_
      refine lv_iload_n hx hb dX5_row_13 rfl (lv_at hl 1 rfl) ?_
      refine lv_iconst (v := 3) hx hb dX5_row_14 rfl ?_
      refine lv_imul hx hb dX5_row_15 ?_
      refine lv_iload_n hx hb dX5_row_16 rfl (lv_at hl 2 rfl) ?_
      refine lv_iadd hx hb dX5_row_17 ?_
      obtain ⟨y4, ey4, hi3, hf⟩ := rdA_x hf
      refine va_iald hx hb hK hP 1 0 rfl rfl hi3 dX5_row_18 ?_
      refine lv_ren ey4 ?_
      refine lv_goto (tgt := 24) hx hb dX5_row_19 (by decide) ?_
      cases hf
      exact kri hQ hAe hx hb hr hlocks hP hD hK hS dX5_row_24
  exact main _ _ hP hD hS

def rmX5_alterRow : Room := { frames := 2, cells := 0, slots := 0, locals := 44 }
theorem hdX5_alterRow : yX5_alterRow.cls = RX5 ∧ yX5_alterRow.cls ≠ "java/lang/invoke/MethodHandle" ∧ yX5_alterRow.cls ≠ "java/lang/invoke/VarHandle" ∧ (parseMethodDescriptor yX5_alterRow.desc).map (fun d => d.parameters.length) = some 3 := by decide +kernel
set_option maxHeartbeats 40000000 in
set_option maxRecDepth 100000 in
theorem c_X5_alterRow (l : Launch) (E : Nat → Nat) (D : va_G) (C : Nat → ClassId) (q0 qn0 qk0 qr0 qc0 qt0 qd0 qs0 qf0 qw0 : Nat) (sz : Nat) (rowCount : Int32) (anyKept : Int32) (rows : Nat → Int32) (x0 : Int32) (x1 : Int32) (x2 : Int32) (r : Int32) (rows' : Nat → Int32) (hf : f_X5_alterRow rowCount rows x0 x1 x2 = some (r, rows')) : Met l yX5_alterRow wsX5_alterRow rmX5_alterRow (PC E D C [.ref q0, .int x0, .int x1, .int x2] (oTM q0 qn0 qk0 qr0 qc0 qt0 qd0 qs0 qf0 qw0 rowCount anyKept (oArrI C qw0 30 rows [])) sz) (QI D C (oTM q0 qn0 qk0 qr0 qc0 qt0 qd0 qs0 qf0 qw0 rowCount anyKept (oArrI C qw0 30 rows [])) (oTM q0 qn0 qk0 qr0 qc0 qt0 qd0 qs0 qf0 qw0 rowCount anyKept (oArrI C qw0 30 (rows') [])) sz r) 0 0 (va_A (oTM q0 qn0 qk0 qr0 qc0 qt0 qd0 qs0 qf0 qw0 rowCount anyKept (oArrI C qw0 30 rows [])) sz) := by
  refine Met.ofW (cc := cX5_alterRow) (maxL := 5) (ret := (some .int)) (by decide) rfl ?_
  intro p e s m args below meth c s₁ B hml hv
  obtain ⟨rfl, hsz, hP, hK, hD0, hE⟩ := hv
  have hx := B.exec
  have hb := B.bytes
  have hr := B.returns
  have hts := atoms_spec (ws := wsX5_alterRow) B.pre
  have hown : s.vm.findClass RX5 = some m.cls := findClass_of_methodNamed B.named
  have hlocks := B.notSynchronized
  subst hsz
  have hi_RX5 : ∀ w ∈ wsX50, w ∈ wsX5_alterRow := fun _ h => List.mem_cons_of_mem _ (List.mem_append_right _ h)
  have hD := hD0.self (sz := s.heap.size)
  obtain ⟨A, hAe⟩ := nm_ex (va_A (oTM q0 qn0 qk0 qr0 qc0 qt0 qd0 qs0 qf0 qw0 rowCount anyKept (oArrI C qw0 30 rows [])) s.heap.size)
  rw [← hAe] at hD hE ⊢
  have hA : ∀ q : Nat, s.heap.size ≤ q → A q := fun q h => by rw [hAe]; exact Or.inr h
  have hS : va_S A s.heap s.heap [] := va_S.rf
  have hl := lv_entry ([.ref q0, .int x0, .int x1, .int x2]) (n := 5) (Nat.le_of_ble_eq_true rfl)
  rw [lg_entry_eq]
  generalize (lg_sl ([.ref q0, .int x0, .int x1, .int x2]) ++ List.replicate (5 - (lg_sl ([.ref q0, .int x0, .int x1, .int x2])).length) Slot.unset).toArray = ls at hl ⊢
  have hl : lv_has ls 5 [(0, .ref q0), (1, .int x0), (2, .int x1), (3, .int x2)] := hl
  obtain ⟨Q, hQ⟩ := nm_ex (MQ below (QI D C (oTM q0 qn0 qk0 qr0 qc0 qt0 qd0 qs0 qf0 qw0 rowCount anyKept (oArrI C qw0 30 rows [])) (oTM q0 qn0 qk0 qr0 qc0 qt0 qd0 qs0 qf0 qw0 rowCount anyKept (oArrI C qw0 30 (rows') [])) s.heap.size r) (List.toArray [Value.ref q0, Value.int x0, Value.int x1, Value.int x2]) s 0 0 A)
  show W p l e (headSpec wsX5_alterRow (rmX5_alterRow)).room s m (List.toArray [Value.ref q0, Value.int x0, Value.int x1, Value.int x2]) below meth c s.heap [] 0 0 (MQ below (QI D C (oTM q0 qn0 qk0 qr0 qc0 qt0 qd0 qs0 qf0 qw0 rowCount anyKept (oArrI C qw0 30 rows [])) (oTM q0 qn0 qk0 qr0 qc0 qt0 qd0 qs0 qf0 qw0 rowCount anyKept (oArrI C qw0 30 (rows') [])) s.heap.size r) (List.toArray [Value.ref q0, Value.int x0, Value.int x1, Value.int x2]) s 0 0 A) _
  rw [← hQ]
  unfold f_X5_alterRow at hf
  have main : ∀ (H : Heap) (locs : List Loc), va_P D vwCl (oTM q0 qn0 qk0 qr0 qc0 qt0 qd0 qs0 qf0 qw0 rowCount anyKept (oArrI C qw0 30 rows [])) H → va_D A (oTM q0 qn0 qk0 qr0 qc0 qt0 qd0 qs0 qf0 qw0 rowCount anyKept (oArrI C qw0 30 rows [])) → va_S A s.heap H locs → W p l e (headSpec wsX5_alterRow (rmX5_alterRow)).room s m (List.toArray [Value.ref q0, Value.int x0, Value.int x1, Value.int x2]) below meth c H locs 0 0 Q (F0 m 0 ls []) := by
    intro H locs hP hD hS
    refine lv_aload_n hx hb dX5_alterRow_0 rfl (lv_at hl 0 rfl) ?_
    refine lv_iload_n hx hb dX5_alterRow_1 rfl (lv_at hl 1 rfl) ?_
    refine lv_iload_n hx hb dX5_alterRow_2 rfl (lv_at hl 2 rfl) ?_
    refine kcz (Wx := (oTM q0 qn0 qk0 qr0 qc0 qt0 qd0 qs0 qf0 qw0 rowCount anyKept (oArrI C qw0 30 rows []))) (va_runV (As := [.int x0, .int x1]) (rest := []) ⟨hx, hb, hml, hown, hts⟩ (c_X5_isRowPart l E D C q0 qn0 qk0 qr0 qc0 qt0 qd0 qs0 qf0 qw0 H.size rowCount anyKept x0 x1 _ rfl) (cwV 2 hts gX5_alterRow_X5_isRowPart rfl rfl rfl hdX5_isRowPart ⟨Nat.le_of_ble_eq_true rfl, Nat.le_of_ble_eq_true rfl⟩) (kpreV hP hD hK hS hE hA [0] rfl rfl 0 rfl rfl rfl) rfl rfl hl.1 rfl (lv_room (Nat.le_of_ble_eq_true rfl)) dX5_alterRow_3 ⟨Nat.zero_le _, Nat.zero_le _⟩) hP hD hS hA [0] rfl rfl rfl (fun H locs hz1 hP hD hS => ?_)
    refine lv_if_ne (tgt := 12) hx hb dX5_alterRow_6 (by decide) (fun c2 => ?_) (fun c2 => ?_)
    · replace hf := if_fe c2 hf
      refine lv_aload_n hx hb dX5_alterRow_12 rfl (lv_at hl 0 rfl) ?_
      refine va_get (D := D) (ci := 5) (v := .ref qw0) (C := RX5) (T := TX5) (N := 11) hx hb hts hi_RX5 hown hK hP 0 rfl rfl 8 (by decide) (hts (.fieldLink RX5 51 "TravelMarks" "rows" "[I") (List.mem_of_getElem? (i := 1) rfl)) (fun _ h9 => h9) rfl dX5_alterRow_13 ?_
      refine lv_iload_n hx hb dX5_alterRow_16 rfl (lv_at hl 1 rfl) ?_
      refine lv_iconst (v := 3) hx hb dX5_alterRow_17 rfl ?_
      refine lv_imul hx hb dX5_alterRow_18 ?_
      refine lv_iload_n hx hb dX5_alterRow_19 rfl (lv_at hl 2 rfl) ?_
      refine lv_iadd hx hb dX5_alterRow_20 ?_
      obtain ⟨y4, ey4, hi3, hf⟩ := rdA_x hf
      refine va_iald hx hb hK hP 1 0 rfl rfl hi3 dX5_alterRow_21 ?_
      refine lv_ren ey4 ?_
      refine lv_istore (lv' := [(4, .int y4), (0, .ref q0), (1, .int x0), (2, .int x1), (3, .int x2)]) hx hb dX5_alterRow_22 hl (by decide) rfl (fun ls hl => ?_)
      refine lv_aload_n hx hb dX5_alterRow_24 rfl (lv_at hl 1 rfl) ?_
      refine va_get (D := D) (ci := 5) (v := .ref qw0) (C := RX5) (T := TX5) (N := 11) hx hb hts hi_RX5 hown hK hP 0 rfl rfl 8 (by decide) (hts (.fieldLink RX5 51 "TravelMarks" "rows" "[I") (List.mem_of_getElem? (i := 1) rfl)) (fun _ h9 => h9) rfl dX5_alterRow_25 ?_
      refine lv_iload_n hx hb dX5_alterRow_28 rfl (lv_at hl 2 rfl) ?_
      refine lv_iconst (v := 3) hx hb dX5_alterRow_29 rfl ?_
      refine lv_imul hx hb dX5_alterRow_30 ?_
      refine lv_iload_n hx hb dX5_alterRow_31 rfl (lv_at hl 3 rfl) ?_
      refine lv_iadd hx hb dX5_alterRow_32 ?_
      refine lv_iload_n hx hb dX5_alterRow_33 rfl (lv_at hl 4 rfl) ?_
      obtain ⟨hi5, hf⟩ := ckA_e hf
      refine va_iast hx hb hK hP hD hS 1 0 rfl rfl hi5 dX5_alterRow_34 (fun H locs hP hD hS => ?_)
      obtain ⟨v6, ev6, hf⟩ := lj_e hf
      have hP : va_P D vwCl (oTM q0 qn0 qk0 qr0 qc0 qt0 qd0 qs0 qf0 qw0 rowCount anyKept (oArrI C qw0 30 v6 [])) H := by rw [ev6]; exact hP
      have hD : va_D A (oTM q0 qn0 qk0 qr0 qc0 qt0 qd0 qs0 qf0 qw0 rowCount anyKept (oArrI C qw0 30 v6 [])) := by rw [ev6]; exact hD
      refine lv_iload hx hb dX5_alterRow_35 (lv_at hl 0 rfl) ?_
      cases hf
      exact kri hQ hAe hx hb hr hlocks hP hD hK hS dX5_alterRow_37
    · replace hf := if_te c2 hf
      refine lv_bipush (v := (-9)) hx hb dX5_alterRow_9 rfl ?_
      cases hf
      exact kri hQ hAe hx hb hr hlocks hP hD hK hS dX5_alterRow_11
  exact main _ _ hP hD hS

def rmX5_judge : Room := { frames := 4, cells := 0, slots := 0, locals := 91 }
theorem hdX5_judge : yX5_judge.cls = RX5 ∧ yX5_judge.cls ≠ "java/lang/invoke/MethodHandle" ∧ yX5_judge.cls ≠ "java/lang/invoke/VarHandle" ∧ (parseMethodDescriptor yX5_judge.desc).map (fun d => d.parameters.length) = some 1 := by decide +kernel
set_option maxHeartbeats 40000000 in
set_option maxRecDepth 100000 in
theorem c_X5_judge (l : Launch) (E : Nat → Nat) (D : va_G) (C : Nat → ClassId) (q0 qn0 qk0 qr0 qc0 qt0 qd0 qs0 qf0 qw0 qn1 qn2 qn3 qn4 qn5 qn6 qr1 qr2 qr3 qr4 qr5 qr6 : Nat) (sz : Nat) (N : Nat) (rowCount : Int32) (anyKept : Int32) (now : PV) (trial : PV) (rows : Nat → Int32) (x0 : Int32) (r : Int32) (trial' : PV) (hf : f_X5_judge N rowCount now trial rows x0 = some (r, trial')) : Met l yX5_judge wsX5_judge rmX5_judge (PC E D C [.ref q0, .int x0] (oTM q0 qn0 qk0 qr0 qc0 qt0 qd0 qs0 qf0 qw0 rowCount anyKept (oPort C qn0 qn1 qn2 qn3 qn4 qn5 qn6 now (oPort C qr0 qr1 qr2 qr3 qr4 qr5 qr6 trial (oArrI C qw0 30 rows [])))) sz) (QI D C (oTM q0 qn0 qk0 qr0 qc0 qt0 qd0 qs0 qf0 qw0 rowCount anyKept (oPort C qn0 qn1 qn2 qn3 qn4 qn5 qn6 now (oPort C qr0 qr1 qr2 qr3 qr4 qr5 qr6 trial (oArrI C qw0 30 rows [])))) (oTM q0 qn0 qk0 qr0 qc0 qt0 qd0 qs0 qf0 qw0 rowCount anyKept (oPort C qn0 qn1 qn2 qn3 qn4 qn5 qn6 now (oPort C qr0 qr1 qr2 qr3 qr4 qr5 qr6 (trial') (oArrI C qw0 30 rows [])))) sz r) 0 0 (va_A (oTM q0 qn0 qk0 qr0 qc0 qt0 qd0 qs0 qf0 qw0 rowCount anyKept (oPort C qn0 qn1 qn2 qn3 qn4 qn5 qn6 now (oPort C qr0 qr1 qr2 qr3 qr4 qr5 qr6 trial (oArrI C qw0 30 rows [])))) sz) := by
  refine Met.ofW (cc := cX5_judge) (maxL := 4) (ret := (some .int)) (by decide) rfl ?_
  intro p e s m args below meth c s₁ B hml hv
  obtain ⟨rfl, hsz, hP, hK, hD0, hE⟩ := hv
  have hx := B.exec
  have hb := B.bytes
  have hr := B.returns
  have hts := atoms_spec (ws := wsX5_judge) B.pre
  have hown : s.vm.findClass RX5 = some m.cls := findClass_of_methodNamed B.named
  have hlocks := B.notSynchronized
  subst hsz
  have hi_RX5 : ∀ w ∈ wsX50, w ∈ wsX5_judge := fun _ h => List.mem_cons_of_mem _ (List.mem_append_left _ (List.mem_append_right _ h))
  have hD := hD0.self (sz := s.heap.size)
  obtain ⟨A, hAe⟩ := nm_ex (va_A (oTM q0 qn0 qk0 qr0 qc0 qt0 qd0 qs0 qf0 qw0 rowCount anyKept (oPort C qn0 qn1 qn2 qn3 qn4 qn5 qn6 now (oPort C qr0 qr1 qr2 qr3 qr4 qr5 qr6 trial (oArrI C qw0 30 rows [])))) s.heap.size)
  rw [← hAe] at hD hE ⊢
  have hA : ∀ q : Nat, s.heap.size ≤ q → A q := fun q h => by rw [hAe]; exact Or.inr h
  have hS : va_S A s.heap s.heap [] := va_S.rf
  have hl := lv_entry ([.ref q0, .int x0]) (n := 4) (Nat.le_of_ble_eq_true rfl)
  rw [lg_entry_eq]
  generalize (lg_sl ([.ref q0, .int x0]) ++ List.replicate (4 - (lg_sl ([.ref q0, .int x0])).length) Slot.unset).toArray = ls at hl ⊢
  have hl : lv_has ls 4 [(0, .ref q0), (1, .int x0)] := hl
  obtain ⟨Q, hQ⟩ := nm_ex (MQ below (QI D C (oTM q0 qn0 qk0 qr0 qc0 qt0 qd0 qs0 qf0 qw0 rowCount anyKept (oPort C qn0 qn1 qn2 qn3 qn4 qn5 qn6 now (oPort C qr0 qr1 qr2 qr3 qr4 qr5 qr6 trial (oArrI C qw0 30 rows [])))) (oTM q0 qn0 qk0 qr0 qc0 qt0 qd0 qs0 qf0 qw0 rowCount anyKept (oPort C qn0 qn1 qn2 qn3 qn4 qn5 qn6 now (oPort C qr0 qr1 qr2 qr3 qr4 qr5 qr6 (trial') (oArrI C qw0 30 rows [])))) s.heap.size r) (List.toArray [Value.ref q0, Value.int x0]) s 0 0 A)
  show W p l e (headSpec wsX5_judge (rmX5_judge)).room s m (List.toArray [Value.ref q0, Value.int x0]) below meth c s.heap [] 0 0 (MQ below (QI D C (oTM q0 qn0 qk0 qr0 qc0 qt0 qd0 qs0 qf0 qw0 rowCount anyKept (oPort C qn0 qn1 qn2 qn3 qn4 qn5 qn6 now (oPort C qr0 qr1 qr2 qr3 qr4 qr5 qr6 trial (oArrI C qw0 30 rows [])))) (oTM q0 qn0 qk0 qr0 qc0 qt0 qd0 qs0 qf0 qw0 rowCount anyKept (oPort C qn0 qn1 qn2 qn3 qn4 qn5 qn6 now (oPort C qr0 qr1 qr2 qr3 qr4 qr5 qr6 (trial') (oArrI C qw0 30 rows [])))) s.heap.size r) (List.toArray [Value.ref q0, Value.int x0]) s 0 0 A) _
  rw [← hQ]
  unfold f_X5_judge at hf
  have main : ∀ (H : Heap) (locs : List Loc), va_P D vwCl (oTM q0 qn0 qk0 qr0 qc0 qt0 qd0 qs0 qf0 qw0 rowCount anyKept (oPort C qn0 qn1 qn2 qn3 qn4 qn5 qn6 now (oPort C qr0 qr1 qr2 qr3 qr4 qr5 qr6 trial (oArrI C qw0 30 rows [])))) H → va_D A (oTM q0 qn0 qk0 qr0 qc0 qt0 qd0 qs0 qf0 qw0 rowCount anyKept (oPort C qn0 qn1 qn2 qn3 qn4 qn5 qn6 now (oPort C qr0 qr1 qr2 qr3 qr4 qr5 qr6 trial (oArrI C qw0 30 rows [])))) → va_S A s.heap H locs → W p l e (headSpec wsX5_judge (rmX5_judge)).room s m (List.toArray [Value.ref q0, Value.int x0]) below meth c H locs 0 0 Q (F0 m 0 ls []) := by
    intro H locs hP hD hS
    refine lv_aload_n hx hb dX5_judge_0 rfl (lv_at hl 0 rfl) ?_
    refine lv_iload_n hx hb dX5_judge_1 rfl (lv_at hl 1 rfl) ?_
    refine kcz (Wx := (oTM q0 qn0 qk0 qr0 qc0 qt0 qd0 qs0 qf0 qw0 rowCount anyKept (oPort C qn0 qn1 qn2 qn3 qn4 qn5 qn6 now (oPort C qr0 qr1 qr2 qr3 qr4 qr5 qr6 trial (oArrI C qw0 30 rows []))))) (va_runV (As := [.int x0]) (rest := []) ⟨hx, hb, hml, hown, hts⟩ (c_X5_isMark l E D C q0 qn0 qk0 qr0 qc0 qt0 qd0 qs0 qf0 qw0 qn1 qn2 qn3 qn4 qn5 qn6 H.size rowCount anyKept now x0 _ rfl) (cwV 1 hts gX5_judge_X5_isMark rfl rfl rfl hdX5_isMark ⟨Nat.le_of_ble_eq_true rfl, Nat.le_of_ble_eq_true rfl⟩) (kpreV hP hD hK hS hE hA [0, 1, 2, 3, 4, 5, 6, 7] rfl rfl 0 rfl rfl rfl) rfl rfl hl.1 rfl (lv_room (Nat.le_of_ble_eq_true rfl)) dX5_judge_2 ⟨Nat.zero_le _, Nat.zero_le _⟩) hP hD hS hA [0, 1, 2, 3, 4, 5, 6, 7] rfl rfl rfl (fun H locs hz1 hP hD hS => ?_)
    refine lv_if_ne (tgt := 10) hx hb dX5_judge_5 (by decide) (fun c2 => ?_) (fun c2 => ?_)
    · replace hf := if_fe c2 hf
      refine lv_aload_n hx hb dX5_judge_10 rfl (lv_at hl 0 rfl) ?_
      refine va_get (D := D) (ci := 5) (v := .ref qr0) (C := RX5) (T := TX5) (N := 11) hx hb hts hi_RX5 hown hK hP 0 rfl rfl 2 (by decide) (hts (.fieldLink RX5 19 "TravelMarks" "trial" "LTravelMarks$Port;") (List.mem_of_getElem? (i := 1) rfl)) (fun _ h9 => h9) rfl dX5_judge_11 ?_
      refine lv_aload_n hx hb dX5_judge_14 rfl (lv_at hl 0 rfl) ?_
      refine va_get (D := D) (ci := 5) (v := .ref qn0) (C := RX5) (T := TX5) (N := 11) hx hb hts hi_RX5 hown hK hP 0 rfl rfl 0 (by decide) (hts (.fieldLink RX5 10 "TravelMarks" "now" "LTravelMarks$Port;") (List.mem_of_getElem? (i := 2) rfl)) (fun _ h9 => h9) rfl dX5_judge_15 ?_
      obtain ⟨v3, h4, hf⟩ := ob1_e hf
      refine kcv (Wx := (oTM q0 qn0 qk0 qr0 qc0 qt0 qd0 qs0 qf0 qw0 rowCount anyKept (oPort C qn0 qn1 qn2 qn3 qn4 qn5 qn6 now (oPort C qr0 qr1 qr2 qr3 qr4 qr5 qr6 v3 (oArrI C qw0 30 rows []))))) (va_runV (As := [.ref qn0]) (rest := []) ⟨hx, hb, hml, hown, hts⟩ (c_X1_become l E D C qr0 qr1 qr2 qr3 qr4 qr5 qr6 qn0 qn1 qn2 qn3 qn4 qn5 qn6 H.size trial now v3 h4) (cwV 1 hts gX5_judge_X1_become rfl rfl rfl hdX1_become ⟨Nat.le_of_ble_eq_true rfl, Nat.le_of_ble_eq_true rfl⟩) (kpreV hP hD hK hS hE hA [8, 9, 10, 11, 12, 13, 14, 1, 2, 3, 4, 5, 6, 7] rfl rfl 8 rfl rfl rfl) rfl rfl hl.1 rfl (lv_room (Nat.le_of_ble_eq_true rfl)) dX5_judge_18 ⟨Nat.zero_le _, Nat.zero_le _⟩) hP hD hS hA [8, 9, 10, 11, 12, 13, 14, 1, 2, 3, 4, 5, 6, 7] rfl rfl rfl (fun H locs hP hD hS => ?_)
      refine lv_iconst (v := 0) hx hb dX5_judge_21 rfl ?_
      refine lv_istore_n (lv' := [(2, .int 0), (0, .ref q0), (1, .int x0)]) hx hb dX5_judge_22 rfl hl (by decide) rfl (fun ls hl => ?_)
      have hL23 : ∀ (n : Nat) (i5 : Int32) (v6 : PV) (H : Heap) (locs : List Loc) (ls : Array Slot), va_P D vwCl (oTM q0 qn0 qk0 qr0 qc0 qt0 qd0 qs0 qf0 qw0 rowCount anyKept (oPort C qn0 qn1 qn2 qn3 qn4 qn5 qn6 now (oPort C qr0 qr1 qr2 qr3 qr4 qr5 qr6 v6 (oArrI C qw0 30 rows [])))) H → va_D A (oTM q0 qn0 qk0 qr0 qc0 qt0 qd0 qs0 qf0 qw0 rowCount anyKept (oPort C qn0 qn1 qn2 qn3 qn4 qn5 qn6 now (oPort C qr0 qr1 qr2 qr3 qr4 qr5 qr6 v6 (oArrI C qw0 30 rows [])))) → va_S A s.heap H locs → lv_has ls 4 [(2, .int i5), (0, .ref q0), (1, .int x0)] → f_X5_judge_L23 N rowCount rows x0 n i5 v6 = some (r, trial') → W p l e (headSpec wsX5_judge (rmX5_judge)).room s m (List.toArray [Value.ref q0, Value.int x0]) below meth c H locs 0 0 Q (F0 m 23 ls []) := by
        intro n
        induction n with
        | zero =>
          intro i5 v6 H locs ls hP hD hS hl hf
          exact absurd hf (fun h => by cases h)
        | succ n ih =>
          intro i5 v6 H locs ls hP hD hS hl hf
          rw [f_X5_judge_L23] at hf
          refine lv_iload_n hx hb dX5_judge_23 rfl (lv_at hl 0 rfl) ?_
          refine lv_aload_n hx hb dX5_judge_24 rfl (lv_at hl 1 rfl) ?_
          refine va_get (D := D) (ci := 5) (v := .int rowCount) (C := RX5) (T := TX5) (N := 11) hx hb hts hi_RX5 hown hK hP 0 rfl rfl 9 (by decide) (hts (.fieldLink RX5 83 "TravelMarks" "rowCount" "I") (List.mem_of_getElem? (i := 3) rfl)) (fun _ h9 => h9) rfl dX5_judge_25 ?_
          refine lv_icmp_ge (tgt := 83) hx hb dX5_judge_28 (by decide) (fun c7 => ?_) (fun c7 => ?_)
          · replace hf := if_te c7 hf
            refine lv_iconst (v := 0) hx hb dX5_judge_83 rfl ?_
            cases hf
            exact kri hQ hAe hx hb hr hlocks hP hD hK hS dX5_judge_84
          · replace hf := if_fe c7 hf
            refine lv_aload_n hx hb dX5_judge_31 rfl (lv_at hl 1 rfl) ?_
            refine va_get (D := D) (ci := 5) (v := .ref qr0) (C := RX5) (T := TX5) (N := 11) hx hb hts hi_RX5 hown hK hP 0 rfl rfl 2 (by decide) (hts (.fieldLink RX5 19 "TravelMarks" "trial" "LTravelMarks$Port;") (List.mem_of_getElem? (i := 1) rfl)) (fun _ h9 => h9) rfl dX5_judge_32 ?_
            obtain ⟨v8, h9, hf⟩ := ob1_e hf
            refine kcv (Wx := (oTM q0 qn0 qk0 qr0 qc0 qt0 qd0 qs0 qf0 qw0 rowCount anyKept (oPort C qn0 qn1 qn2 qn3 qn4 qn5 qn6 now (oPort C qr0 qr1 qr2 qr3 qr4 qr5 qr6 v8 (oArrI C qw0 30 rows []))))) (va_runV (As := []) (rest := []) ⟨hx, hb, hml, hown, hts⟩ (c_X1_passHour l E D C qr0 qr1 qr2 qr3 qr4 qr5 qr6 H.size N v6 v8 h9) (cwV 0 hts gX5_judge_X1_passHour rfl rfl rfl hdX1_passHour ⟨Nat.le_of_ble_eq_true rfl, Nat.le_of_ble_eq_true rfl⟩) (kpreV hP hD hK hS hE hA [8, 9, 10, 11, 12, 13, 14] rfl rfl 8 rfl rfl rfl) rfl rfl hl.1 rfl (lv_room (Nat.le_of_ble_eq_true rfl)) dX5_judge_35 ⟨Nat.zero_le _, Nat.zero_le _⟩) hP hD hS hA [8, 9, 10, 11, 12, 13, 14] rfl rfl rfl (fun H locs hP hD hS => ?_)
            refine lv_iconst (v := 0) hx hb dX5_judge_38 rfl ?_
            refine lv_istore_n (lv' := [(3, .int 0), (2, .int i5), (0, .ref q0), (1, .int x0)]) hx hb dX5_judge_39 rfl hl (by decide) rfl (fun ls hl => ?_)
            obtain ⟨j10, hj10, hf⟩ := lj_e hf
            have Hj10 : ∀ (H : Heap) (locs : List Loc) (ls : Array Slot), va_P D vwCl (oTM q0 qn0 qk0 qr0 qc0 qt0 qd0 qs0 qf0 qw0 rowCount anyKept (oPort C qn0 qn1 qn2 qn3 qn4 qn5 qn6 now (oPort C qr0 qr1 qr2 qr3 qr4 qr5 qr6 v8 (oArrI C qw0 30 rows [])))) H → va_D A (oTM q0 qn0 qk0 qr0 qc0 qt0 qd0 qs0 qf0 qw0 rowCount anyKept (oPort C qn0 qn1 qn2 qn3 qn4 qn5 qn6 now (oPort C qr0 qr1 qr2 qr3 qr4 qr5 qr6 v8 (oArrI C qw0 30 rows [])))) → va_S A s.heap H locs → lv_has ls 4 [(2, .int i5), (0, .ref q0), (1, .int x0)] → j10 = some (r, trial') → W p l e (headSpec wsX5_judge (rmX5_judge)).room s m (List.toArray [Value.ref q0, Value.int x0]) below meth c H locs 0 0 Q (F0 m 77 ls []) := by
              intro H locs ls hP hD hS hl hf
              rw [hj10] at hf
              obtain ⟨t11, et11, hf⟩ := lj_e hf
              refine lv_iinc (v := t11) (lv' := [(2, .int t11), (0, .ref q0), (1, .int x0)]) hx hb dX5_judge_77 hl (k := 0) rfl (by rw [et11]; rfl) (by decide) rfl (fun ls hl => ?_)
              refine lv_goto (tgt := 23) hx hb dX5_judge_80 (by decide) ?_
              exact ih t11 v8 H locs ls hP hD hS (lv_sub hl [0, 1, 2] rfl) hf
            have hL40 : ∀ (n : Nat) (i12 : Int32) (H : Heap) (locs : List Loc) (ls : Array Slot), va_P D vwCl (oTM q0 qn0 qk0 qr0 qc0 qt0 qd0 qs0 qf0 qw0 rowCount anyKept (oPort C qn0 qn1 qn2 qn3 qn4 qn5 qn6 now (oPort C qr0 qr1 qr2 qr3 qr4 qr5 qr6 v8 (oArrI C qw0 30 rows [])))) H → va_D A (oTM q0 qn0 qk0 qr0 qc0 qt0 qd0 qs0 qf0 qw0 rowCount anyKept (oPort C qn0 qn1 qn2 qn3 qn4 qn5 qn6 now (oPort C qr0 qr1 qr2 qr3 qr4 qr5 qr6 v8 (oArrI C qw0 30 rows [])))) → va_S A s.heap H locs → lv_has ls 4 [(3, .int i12), (2, .int i5), (0, .ref q0), (1, .int x0)] → f_X5_judge_L40 rows x0 i5 v8 j10 n i12 = some (r, trial') → W p l e (headSpec wsX5_judge (rmX5_judge)).room s m (List.toArray [Value.ref q0, Value.int x0]) below meth c H locs 0 0 Q (F0 m 40 ls []) := by
              intro n
              induction n with
              | zero =>
                intro i12 H locs ls hP hD hS hl hf
                exact absurd hf (fun h => by cases h)
              | succ n ih =>
                intro i12 H locs ls hP hD hS hl hf
                rw [f_X5_judge_L40] at hf
                refine lv_iload_n hx hb dX5_judge_40 rfl (lv_at hl 0 rfl) ?_
                refine lv_iconst (v := 3) hx hb dX5_judge_41 rfl ?_
                refine lv_icmp_ge (tgt := 77) hx hb dX5_judge_42 (by decide) (fun c13 => ?_) (fun c13 => ?_)
                · replace hf := if_te c13 hf
                  exact Hj10 H locs ls hP hD hS (lv_sub hl [1, 2, 3] rfl) hf
                · replace hf := if_fe c13 hf
                  refine lv_aload_n hx hb dX5_judge_45 rfl (lv_at hl 2 rfl) ?_
                  refine va_get (D := D) (ci := 5) (v := .ref qw0) (C := RX5) (T := TX5) (N := 11) hx hb hts hi_RX5 hown hK hP 0 rfl rfl 8 (by decide) (hts (.fieldLink RX5 51 "TravelMarks" "rows" "[I") (List.mem_of_getElem? (i := 4) rfl)) (fun _ h9 => h9) rfl dX5_judge_46 ?_
                  refine lv_iload_n hx hb dX5_judge_49 rfl (lv_at hl 1 rfl) ?_
                  refine lv_iconst (v := 3) hx hb dX5_judge_50 rfl ?_
                  refine lv_imul hx hb dX5_judge_51 ?_
                  refine lv_iload_n hx hb dX5_judge_52 rfl (lv_at hl 0 rfl) ?_
                  refine lv_iadd hx hb dX5_judge_53 ?_
                  obtain ⟨y15, ey15, hi14, hf⟩ := rdA_x hf
                  refine va_iald hx hb hK hP 15 0 rfl rfl hi14 dX5_judge_54 ?_
                  refine lv_ren ey15 ?_
                  refine lv_aload_n hx hb dX5_judge_55 rfl (lv_at hl 2 rfl) ?_
                  refine va_get (D := D) (ci := 5) (v := .ref qr0) (C := RX5) (T := TX5) (N := 11) hx hb hts hi_RX5 hown hK hP 0 rfl rfl 2 (by decide) (hts (.fieldLink RX5 19 "TravelMarks" "trial" "LTravelMarks$Port;") (List.mem_of_getElem? (i := 1) rfl)) (fun _ h9 => h9) rfl dX5_judge_56 ?_
                  refine lv_iload_n hx hb dX5_judge_59 rfl (lv_at hl 3 rfl) ?_
                  refine lv_iload_n hx hb dX5_judge_60 rfl (lv_at hl 0 rfl) ?_
                  obtain ⟨r16, h17, hf⟩ := ob1_e hf
                  refine kci (Wx := (oTM q0 qn0 qk0 qr0 qc0 qt0 qd0 qs0 qf0 qw0 rowCount anyKept (oPort C qn0 qn1 qn2 qn3 qn4 qn5 qn6 now (oPort C qr0 qr1 qr2 qr3 qr4 qr5 qr6 v8 (oArrI C qw0 30 rows []))))) (va_runV (As := [.int x0, .int i12]) (rest := [.int y15]) ⟨hx, hb, hml, hown, hts⟩ (c_X1_rowPart l E D C qr0 qr1 qr2 qr3 qr4 qr5 qr6 H.size v8 x0 i12 r16 h17) (cwV 2 hts gX5_judge_X1_rowPart rfl rfl rfl hdX1_rowPart ⟨Nat.le_of_ble_eq_true rfl, Nat.le_of_ble_eq_true rfl⟩) (kpreV hP hD hK hS hE hA [8, 9, 10, 11, 12, 13, 14] rfl rfl 8 rfl rfl rfl) rfl rfl hl.1 rfl (lv_room (Nat.le_of_ble_eq_true rfl)) dX5_judge_61 ⟨Nat.zero_le _, Nat.zero_le _⟩) hP hD hS hA [8, 9, 10, 11, 12, 13, 14] rfl rfl rfl (fun H locs hP hD hS => ?_)
                  refine lv_icmp_eq (tgt := 71) hx hb dX5_judge_64 (by decide) (fun c18 => ?_) (fun c18 => ?_)
                  · replace hf := if_te c18 hf
                    obtain ⟨t19, et19, hf⟩ := lj_e hf
                    refine lv_iinc (v := t19) (lv' := [(3, .int t19), (2, .int i5), (0, .ref q0), (1, .int x0)]) hx hb dX5_judge_71 hl (k := 0) rfl (by rw [et19]; rfl) (by decide) rfl (fun ls hl => ?_)
                    refine lv_goto (tgt := 40) hx hb dX5_judge_74 (by decide) ?_
                    exact ih t19 H locs ls hP hD hS (lv_sub hl [0, 1, 2, 3] rfl) hf
                  · replace hf := if_fe c18 hf
                    refine lv_iload_n hx hb dX5_judge_67 rfl (lv_at hl 1 rfl) ?_
                    refine lv_iconst (v := 1) hx hb dX5_judge_68 rfl ?_
                    refine lv_iadd hx hb dX5_judge_69 ?_
                    obtain ⟨t20, et20, hf⟩ := lj_e hf
                    refine lv_ren et20 ?_
                    cases hf
                    exact kri hQ hAe hx hb hr hlocks hP hD hK hS dX5_judge_70
            exact hL40 N 0 H locs ls hP hD hS (lv_sub hl [0, 1, 2, 3] rfl) hf
      exact hL23 N 0 v3 H locs ls hP hD hS (lv_sub hl [0, 1, 2] rfl) hf
    · replace hf := if_te c2 hf
      refine lv_iconst (v := (-1)) hx hb dX5_judge_8 rfl ?_
      cases hf
      exact kri hQ hAe hx hb hr hlocks hP hD hK hS dX5_judge_9
  exact main _ _ hP hD hS

def rmX5_minds : Room := { frames := 2, cells := 0, slots := 0, locals := 43 }
theorem hdX5_minds : yX5_minds.cls = RX5 ∧ yX5_minds.cls ≠ "java/lang/invoke/MethodHandle" ∧ yX5_minds.cls ≠ "java/lang/invoke/VarHandle" ∧ (parseMethodDescriptor yX5_minds.desc).map (fun d => d.parameters.length) = some 4 := by decide +kernel
set_option maxHeartbeats 40000000 in
set_option maxRecDepth 100000 in
theorem c_X5_minds (l : Launch) (E : Nat → Nat) (D : va_G) (C : Nat → ClassId) (q0 qn0 qk0 qr0 qc0 qt0 qd0 qs0 qf0 qw0 qn1 qn2 qn3 qn4 qn5 qn6 qs1 qs2 qs3 qs4 qs5 qs6 qs7 qs8 : Nat) (sz : Nat) (N : Nat) (rowCount : Int32) (anyKept : Int32) (now : PV) (sheets : Nat → HV) (x0 : Int32) (x1 : Int32) (x2 : Int32) (x3 : Int32) (r : Int32) (now' : PV) (hf : f_X5_minds N now sheets x0 x1 x2 x3 = some (r, now')) : Met l yX5_minds wsX5_minds rmX5_minds (PC E D C [.ref q0, .int x0, .int x1, .int x2, .int x3] (oTM q0 qn0 qk0 qr0 qc0 qt0 qd0 qs0 qf0 qw0 rowCount anyKept (oPort C qn0 qn1 qn2 qn3 qn4 qn5 qn6 now (oSheets C qs0 qs1 qs2 qs3 qs4 qs5 qs6 qs7 qs8 sheets []))) sz) (QI D C (oTM q0 qn0 qk0 qr0 qc0 qt0 qd0 qs0 qf0 qw0 rowCount anyKept (oPort C qn0 qn1 qn2 qn3 qn4 qn5 qn6 now (oSheets C qs0 qs1 qs2 qs3 qs4 qs5 qs6 qs7 qs8 sheets []))) (oTM q0 qn0 qk0 qr0 qc0 qt0 qd0 qs0 qf0 qw0 rowCount anyKept (oPort C qn0 qn1 qn2 qn3 qn4 qn5 qn6 (now') (oSheets C qs0 qs1 qs2 qs3 qs4 qs5 qs6 qs7 qs8 sheets []))) sz r) 0 0 (va_A (oTM q0 qn0 qk0 qr0 qc0 qt0 qd0 qs0 qf0 qw0 rowCount anyKept (oPort C qn0 qn1 qn2 qn3 qn4 qn5 qn6 now (oSheets C qs0 qs1 qs2 qs3 qs4 qs5 qs6 qs7 qs8 sheets []))) sz) := by
  refine Met.ofW (cc := cX5_minds) (maxL := 7) (ret := (some .int)) (by decide) rfl ?_
  intro p e s m args below meth c s₁ B hml hv
  obtain ⟨rfl, hsz, hP, hK, hD0, hE⟩ := hv
  have hx := B.exec
  have hb := B.bytes
  have hr := B.returns
  have hts := atoms_spec (ws := wsX5_minds) B.pre
  have hown : s.vm.findClass RX5 = some m.cls := findClass_of_methodNamed B.named
  have hlocks := B.notSynchronized
  subst hsz
  have hi_RX1 : ∀ w ∈ wsX10, w ∈ wsX5_minds := fun _ h => List.mem_cons_of_mem _ (List.mem_append_left _ (List.mem_append_right _ h))
  have hi_RX2 : ∀ w ∈ wsX20, w ∈ wsX5_minds := fun _ h => List.mem_cons_of_mem _ (List.mem_append_right _ h)
  have hi_RX5 : ∀ w ∈ wsX50, w ∈ wsX5_minds := fun _ h => List.mem_cons_of_mem _ (List.mem_append_left _ (List.mem_append_left _ (List.mem_append_right _ h)))
  have hD := hD0.self (sz := s.heap.size)
  obtain ⟨A, hAe⟩ := nm_ex (va_A (oTM q0 qn0 qk0 qr0 qc0 qt0 qd0 qs0 qf0 qw0 rowCount anyKept (oPort C qn0 qn1 qn2 qn3 qn4 qn5 qn6 now (oSheets C qs0 qs1 qs2 qs3 qs4 qs5 qs6 qs7 qs8 sheets []))) s.heap.size)
  rw [← hAe] at hD hE ⊢
  have hA : ∀ q : Nat, s.heap.size ≤ q → A q := fun q h => by rw [hAe]; exact Or.inr h
  have hS : va_S A s.heap s.heap [] := va_S.rf
  have hl := lv_entry ([.ref q0, .int x0, .int x1, .int x2, .int x3]) (n := 7) (Nat.le_of_ble_eq_true rfl)
  rw [lg_entry_eq]
  generalize (lg_sl ([.ref q0, .int x0, .int x1, .int x2, .int x3]) ++ List.replicate (7 - (lg_sl ([.ref q0, .int x0, .int x1, .int x2, .int x3])).length) Slot.unset).toArray = ls at hl ⊢
  have hl : lv_has ls 7 [(0, .ref q0), (1, .int x0), (2, .int x1), (3, .int x2), (4, .int x3)] := hl
  obtain ⟨Q, hQ⟩ := nm_ex (MQ below (QI D C (oTM q0 qn0 qk0 qr0 qc0 qt0 qd0 qs0 qf0 qw0 rowCount anyKept (oPort C qn0 qn1 qn2 qn3 qn4 qn5 qn6 now (oSheets C qs0 qs1 qs2 qs3 qs4 qs5 qs6 qs7 qs8 sheets []))) (oTM q0 qn0 qk0 qr0 qc0 qt0 qd0 qs0 qf0 qw0 rowCount anyKept (oPort C qn0 qn1 qn2 qn3 qn4 qn5 qn6 (now') (oSheets C qs0 qs1 qs2 qs3 qs4 qs5 qs6 qs7 qs8 sheets []))) s.heap.size r) (List.toArray [Value.ref q0, Value.int x0, Value.int x1, Value.int x2, Value.int x3]) s 0 0 A)
  show W p l e (headSpec wsX5_minds (rmX5_minds)).room s m (List.toArray [Value.ref q0, Value.int x0, Value.int x1, Value.int x2, Value.int x3]) below meth c s.heap [] 0 0 (MQ below (QI D C (oTM q0 qn0 qk0 qr0 qc0 qt0 qd0 qs0 qf0 qw0 rowCount anyKept (oPort C qn0 qn1 qn2 qn3 qn4 qn5 qn6 now (oSheets C qs0 qs1 qs2 qs3 qs4 qs5 qs6 qs7 qs8 sheets []))) (oTM q0 qn0 qk0 qr0 qc0 qt0 qd0 qs0 qf0 qw0 rowCount anyKept (oPort C qn0 qn1 qn2 qn3 qn4 qn5 qn6 (now') (oSheets C qs0 qs1 qs2 qs3 qs4 qs5 qs6 qs7 qs8 sheets []))) s.heap.size r) (List.toArray [Value.ref q0, Value.int x0, Value.int x1, Value.int x2, Value.int x3]) s 0 0 A) _
  rw [← hQ]
  unfold f_X5_minds at hf
  have main : ∀ (H : Heap) (locs : List Loc), va_P D vwCl (oTM q0 qn0 qk0 qr0 qc0 qt0 qd0 qs0 qf0 qw0 rowCount anyKept (oPort C qn0 qn1 qn2 qn3 qn4 qn5 qn6 now (oSheets C qs0 qs1 qs2 qs3 qs4 qs5 qs6 qs7 qs8 sheets []))) H → va_D A (oTM q0 qn0 qk0 qr0 qc0 qt0 qd0 qs0 qf0 qw0 rowCount anyKept (oPort C qn0 qn1 qn2 qn3 qn4 qn5 qn6 now (oSheets C qs0 qs1 qs2 qs3 qs4 qs5 qs6 qs7 qs8 sheets []))) → va_S A s.heap H locs → W p l e (headSpec wsX5_minds (rmX5_minds)).room s m (List.toArray [Value.ref q0, Value.int x0, Value.int x1, Value.int x2, Value.int x3]) below meth c H locs 0 0 Q (F0 m 0 ls []) := by
    intro H locs hP hD hS
    refine lv_iload_n hx hb dX5_minds_0 rfl (lv_at hl 1 rfl) ?_
    refine kcz (Wx := (oTM q0 qn0 qk0 qr0 qc0 qt0 qd0 qs0 qf0 qw0 rowCount anyKept (oPort C qn0 qn1 qn2 qn3 qn4 qn5 qn6 now (oSheets C qs0 qs1 qs2 qs3 qs4 qs5 qs6 qs7 qs8 sheets [])))) (va_runS (As := [.int x0]) (rest := []) ⟨hx, hb, hml, hown, hts⟩ (c_X5_isSheet l E D C H.size x0 _ rfl) (va_cwS 1 hts gX5_minds_X5_isSheet rfl rfl rfl hdX5_isSheet ⟨Nat.le_of_ble_eq_true rfl, Nat.le_of_ble_eq_true rfl⟩) (kpre hP hD hK hS hE hA [] rfl rfl) rfl rfl hl.1 rfl (lv_room (Nat.le_of_ble_eq_true rfl)) dX5_minds_1 ⟨Nat.zero_le _, Nat.zero_le _⟩) hP hD hS hA [] rfl rfl rfl (fun H locs hz1 hP hD hS => ?_)
    refine lv_if_eq (tgt := 40) hx hb dX5_minds_4 (by decide) (fun c2 => ?_) (fun c2 => ?_)
    · replace hf := if_te c2 hf
      refine lv_iconst (v := (-1)) hx hb dX5_minds_40 rfl ?_
      cases hf
      exact kri hQ hAe hx hb hr hlocks hP hD hK hS dX5_minds_41
    · replace hf := if_fe c2 hf
      refine lv_aload_n hx hb dX5_minds_7 rfl (lv_at hl 0 rfl) ?_
      refine lv_iload_n hx hb dX5_minds_8 rfl (lv_at hl 3 rfl) ?_
      refine kcz (Wx := (oTM q0 qn0 qk0 qr0 qc0 qt0 qd0 qs0 qf0 qw0 rowCount anyKept (oPort C qn0 qn1 qn2 qn3 qn4 qn5 qn6 now (oSheets C qs0 qs1 qs2 qs3 qs4 qs5 qs6 qs7 qs8 sheets [])))) (va_runV (As := [.int x2]) (rest := []) ⟨hx, hb, hml, hown, hts⟩ (c_X5_isMark l E D C q0 qn0 qk0 qr0 qc0 qt0 qd0 qs0 qf0 qw0 qn1 qn2 qn3 qn4 qn5 qn6 H.size rowCount anyKept now x2 _ rfl) (cwV 1 hts gX5_minds_X5_isMark rfl rfl rfl hdX5_isMark ⟨Nat.le_of_ble_eq_true rfl, Nat.le_of_ble_eq_true rfl⟩) (kpreV hP hD hK hS hE hA [0, 1, 2, 3, 4, 5, 6, 7] rfl rfl 0 rfl rfl rfl) rfl rfl hl.1 rfl (lv_room (Nat.le_of_ble_eq_true rfl)) dX5_minds_9 ⟨Nat.zero_le _, Nat.zero_le _⟩) hP hD hS hA [0, 1, 2, 3, 4, 5, 6, 7] rfl rfl rfl (fun H locs hz3 hP hD hS => ?_)
      refine lv_if_eq (tgt := 40) hx hb dX5_minds_12 (by decide) (fun c4 => ?_) (fun c4 => ?_)
      · replace hf := if_te c4 hf
        refine lv_iconst (v := (-1)) hx hb dX5_minds_40 rfl ?_
        cases hf
        exact kri hQ hAe hx hb hr hlocks hP hD hK hS dX5_minds_41
      · replace hf := if_fe c4 hf
        refine lv_iload hx hb dX5_minds_15 (lv_at hl 4 rfl) ?_
        refine lv_iconst (v := 0) hx hb dX5_minds_17 rfl ?_
        refine lv_bipush (v := 8) hx hb dX5_minds_18 rfl ?_
        refine kcz (Wx := (oTM q0 qn0 qk0 qr0 qc0 qt0 qd0 qs0 qf0 qw0 rowCount anyKept (oPort C qn0 qn1 qn2 qn3 qn4 qn5 qn6 now (oSheets C qs0 qs1 qs2 qs3 qs4 qs5 qs6 qs7 qs8 sheets [])))) (va_runS (As := [.int x3, .int 0, .int 8]) (rest := []) ⟨hx, hb, hml, hown, hts⟩ (c_X5_within l E D C H.size x3 0 8 _ rfl) (va_cwS 3 hts gX5_minds_X5_within rfl rfl rfl hdX5_within ⟨Nat.le_of_ble_eq_true rfl, Nat.le_of_ble_eq_true rfl⟩) (kpre hP hD hK hS hE hA [] rfl rfl) rfl rfl hl.1 rfl (lv_room (Nat.le_of_ble_eq_true rfl)) dX5_minds_20 ⟨Nat.zero_le _, Nat.zero_le _⟩) hP hD hS hA [] rfl rfl rfl (fun H locs hz5 hP hD hS => ?_)
        refine lv_if_eq (tgt := 40) hx hb dX5_minds_23 (by decide) (fun c6 => ?_) (fun c6 => ?_)
        · replace hf := if_te c6 hf
          refine lv_iconst (v := (-1)) hx hb dX5_minds_40 rfl ?_
          cases hf
          exact kri hQ hAe hx hb hr hlocks hP hD hK hS dX5_minds_41
        · replace hf := if_fe c6 hf
          refine lv_iload_n hx hb dX5_minds_26 rfl (lv_at hl 3 rfl) ?_
          refine lv_iload hx hb dX5_minds_27 (lv_at hl 4 rfl) ?_
          refine lv_iadd hx hb dX5_minds_29 ?_
          refine lv_aload_n hx hb dX5_minds_30 rfl (lv_at hl 0 rfl) ?_
          refine va_get (D := D) (ci := 5) (v := .ref qn0) (C := RX5) (T := TX5) (N := 11) hx hb hts hi_RX5 hown hK hP 0 rfl rfl 0 (by decide) (hts (.fieldLink RX5 10 "TravelMarks" "now" "LTravelMarks$Port;") (List.mem_of_getElem? (i := 1) rfl)) (fun _ h9 => h9) rfl dX5_minds_31 ?_
          refine va_get (D := D) (ci := 1) (v := .int (pCount now)) (C := RX1) (T := TX1) (N := 10) hx hb hts hi_RX1 hown hK hP 1 rfl rfl 6 (by decide) (hts (.fieldLink RX5 86 "TravelMarks$Port" "count" "I") (List.mem_of_getElem? (i := 2) rfl)) (fun _ h9 => h9) rfl dX5_minds_34 ?_
          refine lv_icmp_le (tgt := 42) hx hb dX5_minds_37 (by decide) (fun c7 => ?_) (fun c7 => ?_)
          · replace hf := if_te c7 hf
            refine lv_aload_n hx hb dX5_minds_42 rfl (lv_at hl 0 rfl) ?_
            refine va_get (D := D) (ci := 5) (v := .ref qs0) (C := RX5) (T := TX5) (N := 11) hx hb hts hi_RX5 hown hK hP 0 rfl rfl 6 (by decide) (hts (.fieldLink RX5 41 "TravelMarks" "sheets" "[LTravelMarks$Sheet;") (List.mem_of_getElem? (i := 3) rfl)) (fun _ h9 => h9) rfl dX5_minds_43 ?_
            refine lv_iload_n hx hb dX5_minds_46 rfl (lv_at hl 1 rfl) ?_
            obtain ⟨hi8, hf⟩ := ckA_e hf
            obtain ⟨o9, eo9, hf⟩ := lj_e hf
            rcases four hi8 with e4_10 | e4_10 | e4_10 | e4_10
            · rw [e4_10] at eo9
              subst eo9
              try rw [e4_10] at hf
              refine va_aldq hx hb hK hP 8 3 rfl rfl hi8 dX5_minds_47 ?_
              rw [e4_10]
              refine lv_renV (v := .ref qs1) rfl ?_
              refine lv_astore (lv' := [(5, .ref qs1), (0, .ref q0), (1, .int x0), (2, .int x1), (3, .int x2), (4, .int x3)]) hx hb dX5_minds_48 hl (by decide) rfl (fun ls hl => ?_)
              refine lv_aload hx hb dX5_minds_50 (lv_at hl 0 rfl) ?_
              refine va_get (D := D) (ci := 2) (v := .int (shSort (sheets 0))) (C := RX2) (T := TX2) (N := 3) hx hb hts hi_RX2 hown hK hP 9 rfl rfl 1 (by decide) (hts (.fieldLink RX5 212 "TravelMarks$Sheet" "sort" "I") (List.mem_of_getElem? (i := 4) rfl)) (fun _ h9 => h9) rfl dX5_minds_52 ?_
              refine lv_iconst (v := (-1)) hx hb dX5_minds_55 rfl ?_
              refine lv_icmp_ne (tgt := 62) hx hb dX5_minds_56 (by decide) (fun c11 => ?_) (fun c11 => ?_)
              · replace hf := if_fe c11 hf
                refine lv_aload hx hb dX5_minds_62 (lv_at hl 0 rfl) ?_
                refine va_get (D := D) (ci := 2) (v := .int (shSort (sheets 0))) (C := RX2) (T := TX2) (N := 3) hx hb hts hi_RX2 hown hK hP 9 rfl rfl 1 (by decide) (hts (.fieldLink RX5 212 "TravelMarks$Sheet" "sort" "I") (List.mem_of_getElem? (i := 4) rfl)) (fun _ h9 => h9) rfl dX5_minds_64 ?_
                refine lv_if_eq (tgt := 73) hx hb dX5_minds_67 (by decide) (fun c12 => ?_) (fun c12 => ?_)
                · replace hf := if_te c12 hf
                  refine lv_iload_n hx hb dX5_minds_73 rfl (lv_at hl 3 rfl) ?_
                  refine lv_iconst (v := 0) hx hb dX5_minds_74 rfl ?_
                  refine lv_aload hx hb dX5_minds_75 (lv_at hl 0 rfl) ?_
                  refine va_get (D := D) (ci := 2) (v := .int (shSize (sheets 0))) (C := RX2) (T := TX2) (N := 3) hx hb hts hi_RX2 hown hK hP 9 rfl rfl 2 (by decide) (hts (.fieldLink RX5 219 "TravelMarks$Sheet" "size" "I") (List.mem_of_getElem? (i := 5) rfl)) (fun _ h9 => h9) rfl dX5_minds_77 ?_
                  refine kcz (Wx := (oTM q0 qn0 qk0 qr0 qc0 qt0 qd0 qs0 qf0 qw0 rowCount anyKept (oPort C qn0 qn1 qn2 qn3 qn4 qn5 qn6 now (oSheets C qs0 qs1 qs2 qs3 qs4 qs5 qs6 qs7 qs8 sheets [])))) (va_runS (As := [.int x1, .int 0, .int (shSize (sheets 0))]) (rest := []) ⟨hx, hb, hml, hown, hts⟩ (c_X5_within l E D C H.size x1 0 (shSize (sheets 0)) _ rfl) (va_cwS 3 hts gX5_minds_X5_within rfl rfl rfl hdX5_within ⟨Nat.le_of_ble_eq_true rfl, Nat.le_of_ble_eq_true rfl⟩) (kpre hP hD hK hS hE hA [] rfl rfl) rfl rfl hl.1 rfl (lv_room (Nat.le_of_ble_eq_true rfl)) dX5_minds_80 ⟨Nat.zero_le _, Nat.zero_le _⟩) hP hD hS hA [] rfl rfl rfl (fun H locs hz13 hP hD hS => ?_)
                  refine lv_if_eq (tgt := 98) hx hb dX5_minds_83 (by decide) (fun c14 => ?_) (fun c14 => ?_)
                  · replace hf := if_te c14 hf
                    refine lv_bipush (v := (-12)) hx hb dX5_minds_98 rfl ?_
                    cases hf
                    exact kri hQ hAe hx hb hr hlocks hP hD hK hS dX5_minds_100
                  · replace hf := if_fe c14 hf
                    refine lv_iload hx hb dX5_minds_86 (lv_at hl 5 rfl) ?_
                    refine lv_aload hx hb dX5_minds_88 (lv_at hl 0 rfl) ?_
                    refine va_get (D := D) (ci := 2) (v := .int (shSize (sheets 0))) (C := RX2) (T := TX2) (N := 3) hx hb hts hi_RX2 hown hK hP 9 rfl rfl 2 (by decide) (hts (.fieldLink RX5 219 "TravelMarks$Sheet" "size" "I") (List.mem_of_getElem? (i := 5) rfl)) (fun _ h9 => h9) rfl dX5_minds_90 ?_
                    refine lv_iload_n hx hb dX5_minds_93 rfl (lv_at hl 3 rfl) ?_
                    refine lv_isub hx hb dX5_minds_94 ?_
                    refine lv_icmp_le (tgt := 101) hx hb dX5_minds_95 (by decide) (fun c15 => ?_) (fun c15 => ?_)
                    · replace hf := if_te c15 hf
                      refine lv_iconst (v := 0) hx hb dX5_minds_101 rfl ?_
                      refine lv_istore (lv' := [(6, .int 0), (5, .ref qs1), (0, .ref q0), (1, .int x0), (2, .int x1), (3, .int x2), (4, .int x3)]) hx hb dX5_minds_102 hl (by decide) rfl (fun ls hl => ?_)
                      have hL104 : ∀ (n : Nat) (i16 : Int32) (v17 : PV) (H : Heap) (locs : List Loc) (ls : Array Slot), va_P D vwCl (oTM q0 qn0 qk0 qr0 qc0 qt0 qd0 qs0 qf0 qw0 rowCount anyKept (oPort C qn0 qn1 qn2 qn3 qn4 qn5 qn6 v17 (oSheets C qs0 qs1 qs2 qs3 qs4 qs5 qs6 qs7 qs8 sheets []))) H → va_D A (oTM q0 qn0 qk0 qr0 qc0 qt0 qd0 qs0 qf0 qw0 rowCount anyKept (oPort C qn0 qn1 qn2 qn3 qn4 qn5 qn6 v17 (oSheets C qs0 qs1 qs2 qs3 qs4 qs5 qs6 qs7 qs8 sheets []))) → va_S A s.heap H locs → lv_has ls 7 [(6, .int i16), (5, .ref qs1), (0, .ref q0), (2, .int x1), (3, .int x2), (4, .int x3)] → f_X5_minds_L104 x1 x2 x3 (sheets 0) n i16 v17 = some (r, now') → W p l e (headSpec wsX5_minds (rmX5_minds)).room s m (List.toArray [Value.ref q0, Value.int x0, Value.int x1, Value.int x2, Value.int x3]) below meth c H locs 0 0 Q (F0 m 104 ls []) := by
                        intro n
                        induction n with
                        | zero =>
                          intro i16 v17 H locs ls hP hD hS hl hf
                          exact absurd hf (fun h => by cases h)
                        | succ n ih =>
                          intro i16 v17 H locs ls hP hD hS hl hf
                          rw [f_X5_minds_L104] at hf
                          refine lv_iload hx hb dX5_minds_104 (lv_at hl 0 rfl) ?_
                          refine lv_iload hx hb dX5_minds_106 (lv_at hl 5 rfl) ?_
                          refine lv_icmp_ge (tgt := 143) hx hb dX5_minds_108 (by decide) (fun c18 => ?_) (fun c18 => ?_)
                          · replace hf := if_te c18 hf
                            refine lv_iload hx hb dX5_minds_143 (lv_at hl 5 rfl) ?_
                            cases hf
                            exact kri hQ hAe hx hb hr hlocks hP hD hK hS dX5_minds_145
                          · replace hf := if_fe c18 hf
                            refine lv_aload_n hx hb dX5_minds_111 rfl (lv_at hl 2 rfl) ?_
                            refine va_get (D := D) (ci := 5) (v := .ref qn0) (C := RX5) (T := TX5) (N := 11) hx hb hts hi_RX5 hown hK hP 0 rfl rfl 0 (by decide) (hts (.fieldLink RX5 10 "TravelMarks" "now" "LTravelMarks$Port;") (List.mem_of_getElem? (i := 1) rfl)) (fun _ h9 => h9) rfl dX5_minds_112 ?_
                            refine va_get (D := D) (ci := 1) (v := .ref qn3) (C := RX1) (T := TX1) (N := 10) hx hb hts hi_RX1 hown hK hP 1 rfl rfl 2 (by decide) (hts (.fieldLink RX5 117 "TravelMarks$Port" "ink" "[I") (List.mem_of_getElem? (i := 6) rfl)) (fun _ h9 => h9) rfl dX5_minds_115 ?_
                            refine lv_iload_n hx hb dX5_minds_118 rfl (lv_at hl 4 rfl) ?_
                            refine lv_iload hx hb dX5_minds_119 (lv_at hl 0 rfl) ?_
                            refine lv_iadd hx hb dX5_minds_121 ?_
                            refine lv_aload hx hb dX5_minds_122 (lv_at hl 1 rfl) ?_
                            refine va_get (D := D) (ci := 2) (v := .ref qs2) (C := RX2) (T := TX2) (N := 3) hx hb hts hi_RX2 hown hK hP 9 rfl rfl 0 (by decide) (hts (.fieldLink RX5 222 "TravelMarks$Sheet" "items" "[J") (List.mem_of_getElem? (i := 7) rfl)) (fun _ h9 => h9) rfl dX5_minds_124 ?_
                            refine lv_iload_n hx hb dX5_minds_127 rfl (lv_at hl 3 rfl) ?_
                            refine lv_iload hx hb dX5_minds_128 (lv_at hl 0 rfl) ?_
                            refine lv_iadd hx hb dX5_minds_130 ?_
                            obtain ⟨y20, ey20, hi19, hf⟩ := rdA_x hf
                            refine va_lald hx hb hK hP 10 2 rfl rfl hi19 dX5_minds_131 ?_
                            refine lv_renL ey20 ?_
                            refine lv_l2i hx hb dX5_minds_132 rfl ?_
                            refine kci (Wx := (oTM q0 qn0 qk0 qr0 qc0 qt0 qd0 qs0 qf0 qw0 rowCount anyKept (oPort C qn0 qn1 qn2 qn3 qn4 qn5 qn6 v17 (oSheets C qs0 qs1 qs2 qs3 qs4 qs5 qs6 qs7 qs8 sheets [])))) (va_runS (As := [.int (Int64.toInt32 y20)]) (rest := [.int (x2 + i16), .ref qn3]) ⟨hx, hb, hml, hown, hts⟩ (c_X5_heldInk l E D C H.size (Int64.toInt32 y20) _ rfl) (va_cwS 1 hts gX5_minds_X5_heldInk rfl rfl rfl hdX5_heldInk ⟨Nat.le_of_ble_eq_true rfl, Nat.le_of_ble_eq_true rfl⟩) (kpre hP hD hK hS hE hA [] rfl rfl) rfl rfl hl.1 rfl (lv_room (Nat.le_of_ble_eq_true rfl)) dX5_minds_133 ⟨Nat.zero_le _, Nat.zero_le _⟩) hP hD hS hA [] rfl rfl rfl (fun H locs hP hD hS => ?_)
                            obtain ⟨t21, et21, hf⟩ := lj_e hf
                            refine lv_ren et21 ?_
                            obtain ⟨hi22, hf⟩ := ckA_e hf
                            refine va_iast hx hb hK hP hD hS 4 0 rfl rfl hi22 dX5_minds_136 (fun H locs hP hD hS => ?_)
                            obtain ⟨v23, ev23, hf⟩ := lj_e hf
                            have hP : va_P D vwCl (oTM q0 qn0 qk0 qr0 qc0 qt0 qd0 qs0 qf0 qw0 rowCount anyKept (oPort C qn0 qn1 qn2 qn3 qn4 qn5 qn6 v23 (oSheets C qs0 qs1 qs2 qs3 qs4 qs5 qs6 qs7 qs8 sheets []))) H := by rw [ev23]; exact hP
                            have hD : va_D A (oTM q0 qn0 qk0 qr0 qc0 qt0 qd0 qs0 qf0 qw0 rowCount anyKept (oPort C qn0 qn1 qn2 qn3 qn4 qn5 qn6 v23 (oSheets C qs0 qs1 qs2 qs3 qs4 qs5 qs6 qs7 qs8 sheets []))) := by rw [ev23]; exact hD
                            obtain ⟨t24, et24, hf⟩ := lj_e hf
                            refine lv_iinc (v := t24) (lv' := [(6, .int t24), (5, .ref qs1), (0, .ref q0), (2, .int x1), (3, .int x2), (4, .int x3)]) hx hb dX5_minds_137 hl (k := 0) rfl (by rw [et24]; rfl) (by decide) rfl (fun ls hl => ?_)
                            refine lv_goto (tgt := 104) hx hb dX5_minds_140 (by decide) ?_
                            exact ih t24 v23 H locs ls hP hD hS (lv_sub hl [0, 1, 2, 3, 4, 5] rfl) hf
                      exact hL104 N 0 now H locs ls hP hD hS (lv_sub hl [0, 1, 2, 4, 5, 6] rfl) hf
                    · replace hf := if_fe c15 hf
                      refine lv_bipush (v := (-12)) hx hb dX5_minds_98 rfl ?_
                      cases hf
                      exact kri hQ hAe hx hb hr hlocks hP hD hK hS dX5_minds_100
                · replace hf := if_fe c12 hf
                  refine lv_bipush (v := (-13)) hx hb dX5_minds_70 rfl ?_
                  cases hf
                  exact kri hQ hAe hx hb hr hlocks hP hD hK hS dX5_minds_72
              · replace hf := if_te c11 hf
                refine lv_bipush (v := (-11)) hx hb dX5_minds_59 rfl ?_
                cases hf
                exact kri hQ hAe hx hb hr hlocks hP hD hK hS dX5_minds_61
            · rw [e4_10] at eo9
              subst eo9
              try rw [e4_10] at hf
              refine va_aldq hx hb hK hP 8 3 rfl rfl hi8 dX5_minds_47 ?_
              rw [e4_10]
              refine lv_renV (v := .ref qs3) rfl ?_
              refine lv_astore (lv' := [(5, .ref qs3), (0, .ref q0), (1, .int x0), (2, .int x1), (3, .int x2), (4, .int x3)]) hx hb dX5_minds_48 hl (by decide) rfl (fun ls hl => ?_)
              refine lv_aload hx hb dX5_minds_50 (lv_at hl 0 rfl) ?_
              refine va_get (D := D) (ci := 2) (v := .int (shSort (sheets 1))) (C := RX2) (T := TX2) (N := 3) hx hb hts hi_RX2 hown hK hP 11 rfl rfl 1 (by decide) (hts (.fieldLink RX5 212 "TravelMarks$Sheet" "sort" "I") (List.mem_of_getElem? (i := 4) rfl)) (fun _ h9 => h9) rfl dX5_minds_52 ?_
              refine lv_iconst (v := (-1)) hx hb dX5_minds_55 rfl ?_
              refine lv_icmp_ne (tgt := 62) hx hb dX5_minds_56 (by decide) (fun c11 => ?_) (fun c11 => ?_)
              · replace hf := if_fe c11 hf
                refine lv_aload hx hb dX5_minds_62 (lv_at hl 0 rfl) ?_
                refine va_get (D := D) (ci := 2) (v := .int (shSort (sheets 1))) (C := RX2) (T := TX2) (N := 3) hx hb hts hi_RX2 hown hK hP 11 rfl rfl 1 (by decide) (hts (.fieldLink RX5 212 "TravelMarks$Sheet" "sort" "I") (List.mem_of_getElem? (i := 4) rfl)) (fun _ h9 => h9) rfl dX5_minds_64 ?_
                refine lv_if_eq (tgt := 73) hx hb dX5_minds_67 (by decide) (fun c12 => ?_) (fun c12 => ?_)
                · replace hf := if_te c12 hf
                  refine lv_iload_n hx hb dX5_minds_73 rfl (lv_at hl 3 rfl) ?_
                  refine lv_iconst (v := 0) hx hb dX5_minds_74 rfl ?_
                  refine lv_aload hx hb dX5_minds_75 (lv_at hl 0 rfl) ?_
                  refine va_get (D := D) (ci := 2) (v := .int (shSize (sheets 1))) (C := RX2) (T := TX2) (N := 3) hx hb hts hi_RX2 hown hK hP 11 rfl rfl 2 (by decide) (hts (.fieldLink RX5 219 "TravelMarks$Sheet" "size" "I") (List.mem_of_getElem? (i := 5) rfl)) (fun _ h9 => h9) rfl dX5_minds_77 ?_
                  refine kcz (Wx := (oTM q0 qn0 qk0 qr0 qc0 qt0 qd0 qs0 qf0 qw0 rowCount anyKept (oPort C qn0 qn1 qn2 qn3 qn4 qn5 qn6 now (oSheets C qs0 qs1 qs2 qs3 qs4 qs5 qs6 qs7 qs8 sheets [])))) (va_runS (As := [.int x1, .int 0, .int (shSize (sheets 1))]) (rest := []) ⟨hx, hb, hml, hown, hts⟩ (c_X5_within l E D C H.size x1 0 (shSize (sheets 1)) _ rfl) (va_cwS 3 hts gX5_minds_X5_within rfl rfl rfl hdX5_within ⟨Nat.le_of_ble_eq_true rfl, Nat.le_of_ble_eq_true rfl⟩) (kpre hP hD hK hS hE hA [] rfl rfl) rfl rfl hl.1 rfl (lv_room (Nat.le_of_ble_eq_true rfl)) dX5_minds_80 ⟨Nat.zero_le _, Nat.zero_le _⟩) hP hD hS hA [] rfl rfl rfl (fun H locs hz13 hP hD hS => ?_)
                  refine lv_if_eq (tgt := 98) hx hb dX5_minds_83 (by decide) (fun c14 => ?_) (fun c14 => ?_)
                  · replace hf := if_te c14 hf
                    refine lv_bipush (v := (-12)) hx hb dX5_minds_98 rfl ?_
                    cases hf
                    exact kri hQ hAe hx hb hr hlocks hP hD hK hS dX5_minds_100
                  · replace hf := if_fe c14 hf
                    refine lv_iload hx hb dX5_minds_86 (lv_at hl 5 rfl) ?_
                    refine lv_aload hx hb dX5_minds_88 (lv_at hl 0 rfl) ?_
                    refine va_get (D := D) (ci := 2) (v := .int (shSize (sheets 1))) (C := RX2) (T := TX2) (N := 3) hx hb hts hi_RX2 hown hK hP 11 rfl rfl 2 (by decide) (hts (.fieldLink RX5 219 "TravelMarks$Sheet" "size" "I") (List.mem_of_getElem? (i := 5) rfl)) (fun _ h9 => h9) rfl dX5_minds_90 ?_
                    refine lv_iload_n hx hb dX5_minds_93 rfl (lv_at hl 3 rfl) ?_
                    refine lv_isub hx hb dX5_minds_94 ?_
                    refine lv_icmp_le (tgt := 101) hx hb dX5_minds_95 (by decide) (fun c15 => ?_) (fun c15 => ?_)
                    · replace hf := if_te c15 hf
                      refine lv_iconst (v := 0) hx hb dX5_minds_101 rfl ?_
                      refine lv_istore (lv' := [(6, .int 0), (5, .ref qs3), (0, .ref q0), (1, .int x0), (2, .int x1), (3, .int x2), (4, .int x3)]) hx hb dX5_minds_102 hl (by decide) rfl (fun ls hl => ?_)
                      have hL104 : ∀ (n : Nat) (i16 : Int32) (v17 : PV) (H : Heap) (locs : List Loc) (ls : Array Slot), va_P D vwCl (oTM q0 qn0 qk0 qr0 qc0 qt0 qd0 qs0 qf0 qw0 rowCount anyKept (oPort C qn0 qn1 qn2 qn3 qn4 qn5 qn6 v17 (oSheets C qs0 qs1 qs2 qs3 qs4 qs5 qs6 qs7 qs8 sheets []))) H → va_D A (oTM q0 qn0 qk0 qr0 qc0 qt0 qd0 qs0 qf0 qw0 rowCount anyKept (oPort C qn0 qn1 qn2 qn3 qn4 qn5 qn6 v17 (oSheets C qs0 qs1 qs2 qs3 qs4 qs5 qs6 qs7 qs8 sheets []))) → va_S A s.heap H locs → lv_has ls 7 [(6, .int i16), (5, .ref qs3), (0, .ref q0), (2, .int x1), (3, .int x2), (4, .int x3)] → f_X5_minds_L104 x1 x2 x3 (sheets 1) n i16 v17 = some (r, now') → W p l e (headSpec wsX5_minds (rmX5_minds)).room s m (List.toArray [Value.ref q0, Value.int x0, Value.int x1, Value.int x2, Value.int x3]) below meth c H locs 0 0 Q (F0 m 104 ls []) := by
                        intro n
                        induction n with
                        | zero =>
                          intro i16 v17 H locs ls hP hD hS hl hf
                          exact absurd hf (fun h => by cases h)
                        | succ n ih =>
                          intro i16 v17 H locs ls hP hD hS hl hf
                          rw [f_X5_minds_L104] at hf
                          refine lv_iload hx hb dX5_minds_104 (lv_at hl 0 rfl) ?_
                          refine lv_iload hx hb dX5_minds_106 (lv_at hl 5 rfl) ?_
                          refine lv_icmp_ge (tgt := 143) hx hb dX5_minds_108 (by decide) (fun c18 => ?_) (fun c18 => ?_)
                          · replace hf := if_te c18 hf
                            refine lv_iload hx hb dX5_minds_143 (lv_at hl 5 rfl) ?_
                            cases hf
                            exact kri hQ hAe hx hb hr hlocks hP hD hK hS dX5_minds_145
                          · replace hf := if_fe c18 hf
                            refine lv_aload_n hx hb dX5_minds_111 rfl (lv_at hl 2 rfl) ?_
                            refine va_get (D := D) (ci := 5) (v := .ref qn0) (C := RX5) (T := TX5) (N := 11) hx hb hts hi_RX5 hown hK hP 0 rfl rfl 0 (by decide) (hts (.fieldLink RX5 10 "TravelMarks" "now" "LTravelMarks$Port;") (List.mem_of_getElem? (i := 1) rfl)) (fun _ h9 => h9) rfl dX5_minds_112 ?_
                            refine va_get (D := D) (ci := 1) (v := .ref qn3) (C := RX1) (T := TX1) (N := 10) hx hb hts hi_RX1 hown hK hP 1 rfl rfl 2 (by decide) (hts (.fieldLink RX5 117 "TravelMarks$Port" "ink" "[I") (List.mem_of_getElem? (i := 6) rfl)) (fun _ h9 => h9) rfl dX5_minds_115 ?_
                            refine lv_iload_n hx hb dX5_minds_118 rfl (lv_at hl 4 rfl) ?_
                            refine lv_iload hx hb dX5_minds_119 (lv_at hl 0 rfl) ?_
                            refine lv_iadd hx hb dX5_minds_121 ?_
                            refine lv_aload hx hb dX5_minds_122 (lv_at hl 1 rfl) ?_
                            refine va_get (D := D) (ci := 2) (v := .ref qs4) (C := RX2) (T := TX2) (N := 3) hx hb hts hi_RX2 hown hK hP 11 rfl rfl 0 (by decide) (hts (.fieldLink RX5 222 "TravelMarks$Sheet" "items" "[J") (List.mem_of_getElem? (i := 7) rfl)) (fun _ h9 => h9) rfl dX5_minds_124 ?_
                            refine lv_iload_n hx hb dX5_minds_127 rfl (lv_at hl 3 rfl) ?_
                            refine lv_iload hx hb dX5_minds_128 (lv_at hl 0 rfl) ?_
                            refine lv_iadd hx hb dX5_minds_130 ?_
                            obtain ⟨y20, ey20, hi19, hf⟩ := rdA_x hf
                            refine va_lald hx hb hK hP 12 2 rfl rfl hi19 dX5_minds_131 ?_
                            refine lv_renL ey20 ?_
                            refine lv_l2i hx hb dX5_minds_132 rfl ?_
                            refine kci (Wx := (oTM q0 qn0 qk0 qr0 qc0 qt0 qd0 qs0 qf0 qw0 rowCount anyKept (oPort C qn0 qn1 qn2 qn3 qn4 qn5 qn6 v17 (oSheets C qs0 qs1 qs2 qs3 qs4 qs5 qs6 qs7 qs8 sheets [])))) (va_runS (As := [.int (Int64.toInt32 y20)]) (rest := [.int (x2 + i16), .ref qn3]) ⟨hx, hb, hml, hown, hts⟩ (c_X5_heldInk l E D C H.size (Int64.toInt32 y20) _ rfl) (va_cwS 1 hts gX5_minds_X5_heldInk rfl rfl rfl hdX5_heldInk ⟨Nat.le_of_ble_eq_true rfl, Nat.le_of_ble_eq_true rfl⟩) (kpre hP hD hK hS hE hA [] rfl rfl) rfl rfl hl.1 rfl (lv_room (Nat.le_of_ble_eq_true rfl)) dX5_minds_133 ⟨Nat.zero_le _, Nat.zero_le _⟩) hP hD hS hA [] rfl rfl rfl (fun H locs hP hD hS => ?_)
                            obtain ⟨t21, et21, hf⟩ := lj_e hf
                            refine lv_ren et21 ?_
                            obtain ⟨hi22, hf⟩ := ckA_e hf
                            refine va_iast hx hb hK hP hD hS 4 0 rfl rfl hi22 dX5_minds_136 (fun H locs hP hD hS => ?_)
                            obtain ⟨v23, ev23, hf⟩ := lj_e hf
                            have hP : va_P D vwCl (oTM q0 qn0 qk0 qr0 qc0 qt0 qd0 qs0 qf0 qw0 rowCount anyKept (oPort C qn0 qn1 qn2 qn3 qn4 qn5 qn6 v23 (oSheets C qs0 qs1 qs2 qs3 qs4 qs5 qs6 qs7 qs8 sheets []))) H := by rw [ev23]; exact hP
                            have hD : va_D A (oTM q0 qn0 qk0 qr0 qc0 qt0 qd0 qs0 qf0 qw0 rowCount anyKept (oPort C qn0 qn1 qn2 qn3 qn4 qn5 qn6 v23 (oSheets C qs0 qs1 qs2 qs3 qs4 qs5 qs6 qs7 qs8 sheets []))) := by rw [ev23]; exact hD
                            obtain ⟨t24, et24, hf⟩ := lj_e hf
                            refine lv_iinc (v := t24) (lv' := [(6, .int t24), (5, .ref qs3), (0, .ref q0), (2, .int x1), (3, .int x2), (4, .int x3)]) hx hb dX5_minds_137 hl (k := 0) rfl (by rw [et24]; rfl) (by decide) rfl (fun ls hl => ?_)
                            refine lv_goto (tgt := 104) hx hb dX5_minds_140 (by decide) ?_
                            exact ih t24 v23 H locs ls hP hD hS (lv_sub hl [0, 1, 2, 3, 4, 5] rfl) hf
                      exact hL104 N 0 now H locs ls hP hD hS (lv_sub hl [0, 1, 2, 4, 5, 6] rfl) hf
                    · replace hf := if_fe c15 hf
                      refine lv_bipush (v := (-12)) hx hb dX5_minds_98 rfl ?_
                      cases hf
                      exact kri hQ hAe hx hb hr hlocks hP hD hK hS dX5_minds_100
                · replace hf := if_fe c12 hf
                  refine lv_bipush (v := (-13)) hx hb dX5_minds_70 rfl ?_
                  cases hf
                  exact kri hQ hAe hx hb hr hlocks hP hD hK hS dX5_minds_72
              · replace hf := if_te c11 hf
                refine lv_bipush (v := (-11)) hx hb dX5_minds_59 rfl ?_
                cases hf
                exact kri hQ hAe hx hb hr hlocks hP hD hK hS dX5_minds_61
            · rw [e4_10] at eo9
              subst eo9
              try rw [e4_10] at hf
              refine va_aldq hx hb hK hP 8 3 rfl rfl hi8 dX5_minds_47 ?_
              rw [e4_10]
              refine lv_renV (v := .ref qs5) rfl ?_
              refine lv_astore (lv' := [(5, .ref qs5), (0, .ref q0), (1, .int x0), (2, .int x1), (3, .int x2), (4, .int x3)]) hx hb dX5_minds_48 hl (by decide) rfl (fun ls hl => ?_)
              refine lv_aload hx hb dX5_minds_50 (lv_at hl 0 rfl) ?_
              refine va_get (D := D) (ci := 2) (v := .int (shSort (sheets 2))) (C := RX2) (T := TX2) (N := 3) hx hb hts hi_RX2 hown hK hP 13 rfl rfl 1 (by decide) (hts (.fieldLink RX5 212 "TravelMarks$Sheet" "sort" "I") (List.mem_of_getElem? (i := 4) rfl)) (fun _ h9 => h9) rfl dX5_minds_52 ?_
              refine lv_iconst (v := (-1)) hx hb dX5_minds_55 rfl ?_
              refine lv_icmp_ne (tgt := 62) hx hb dX5_minds_56 (by decide) (fun c11 => ?_) (fun c11 => ?_)
              · replace hf := if_fe c11 hf
                refine lv_aload hx hb dX5_minds_62 (lv_at hl 0 rfl) ?_
                refine va_get (D := D) (ci := 2) (v := .int (shSort (sheets 2))) (C := RX2) (T := TX2) (N := 3) hx hb hts hi_RX2 hown hK hP 13 rfl rfl 1 (by decide) (hts (.fieldLink RX5 212 "TravelMarks$Sheet" "sort" "I") (List.mem_of_getElem? (i := 4) rfl)) (fun _ h9 => h9) rfl dX5_minds_64 ?_
                refine lv_if_eq (tgt := 73) hx hb dX5_minds_67 (by decide) (fun c12 => ?_) (fun c12 => ?_)
                · replace hf := if_te c12 hf
                  refine lv_iload_n hx hb dX5_minds_73 rfl (lv_at hl 3 rfl) ?_
                  refine lv_iconst (v := 0) hx hb dX5_minds_74 rfl ?_
                  refine lv_aload hx hb dX5_minds_75 (lv_at hl 0 rfl) ?_
                  refine va_get (D := D) (ci := 2) (v := .int (shSize (sheets 2))) (C := RX2) (T := TX2) (N := 3) hx hb hts hi_RX2 hown hK hP 13 rfl rfl 2 (by decide) (hts (.fieldLink RX5 219 "TravelMarks$Sheet" "size" "I") (List.mem_of_getElem? (i := 5) rfl)) (fun _ h9 => h9) rfl dX5_minds_77 ?_
                  refine kcz (Wx := (oTM q0 qn0 qk0 qr0 qc0 qt0 qd0 qs0 qf0 qw0 rowCount anyKept (oPort C qn0 qn1 qn2 qn3 qn4 qn5 qn6 now (oSheets C qs0 qs1 qs2 qs3 qs4 qs5 qs6 qs7 qs8 sheets [])))) (va_runS (As := [.int x1, .int 0, .int (shSize (sheets 2))]) (rest := []) ⟨hx, hb, hml, hown, hts⟩ (c_X5_within l E D C H.size x1 0 (shSize (sheets 2)) _ rfl) (va_cwS 3 hts gX5_minds_X5_within rfl rfl rfl hdX5_within ⟨Nat.le_of_ble_eq_true rfl, Nat.le_of_ble_eq_true rfl⟩) (kpre hP hD hK hS hE hA [] rfl rfl) rfl rfl hl.1 rfl (lv_room (Nat.le_of_ble_eq_true rfl)) dX5_minds_80 ⟨Nat.zero_le _, Nat.zero_le _⟩) hP hD hS hA [] rfl rfl rfl (fun H locs hz13 hP hD hS => ?_)
                  refine lv_if_eq (tgt := 98) hx hb dX5_minds_83 (by decide) (fun c14 => ?_) (fun c14 => ?_)
                  · replace hf := if_te c14 hf
                    refine lv_bipush (v := (-12)) hx hb dX5_minds_98 rfl ?_
                    cases hf
                    exact kri hQ hAe hx hb hr hlocks hP hD hK hS dX5_minds_100
                  · replace hf := if_fe c14 hf
                    refine lv_iload hx hb dX5_minds_86 (lv_at hl 5 rfl) ?_
                    refine lv_aload hx hb dX5_minds_88 (lv_at hl 0 rfl) ?_
                    refine va_get (D := D) (ci := 2) (v := .int (shSize (sheets 2))) (C := RX2) (T := TX2) (N := 3) hx hb hts hi_RX2 hown hK hP 13 rfl rfl 2 (by decide) (hts (.fieldLink RX5 219 "TravelMarks$Sheet" "size" "I") (List.mem_of_getElem? (i := 5) rfl)) (fun _ h9 => h9) rfl dX5_minds_90 ?_
                    refine lv_iload_n hx hb dX5_minds_93 rfl (lv_at hl 3 rfl) ?_
                    refine lv_isub hx hb dX5_minds_94 ?_
                    refine lv_icmp_le (tgt := 101) hx hb dX5_minds_95 (by decide) (fun c15 => ?_) (fun c15 => ?_)
                    · replace hf := if_te c15 hf
                      refine lv_iconst (v := 0) hx hb dX5_minds_101 rfl ?_
                      refine lv_istore (lv' := [(6, .int 0), (5, .ref qs5), (0, .ref q0), (1, .int x0), (2, .int x1), (3, .int x2), (4, .int x3)]) hx hb dX5_minds_102 hl (by decide) rfl (fun ls hl => ?_)
                      have hL104 : ∀ (n : Nat) (i16 : Int32) (v17 : PV) (H : Heap) (locs : List Loc) (ls : Array Slot), va_P D vwCl (oTM q0 qn0 qk0 qr0 qc0 qt0 qd0 qs0 qf0 qw0 rowCount anyKept (oPort C qn0 qn1 qn2 qn3 qn4 qn5 qn6 v17 (oSheets C qs0 qs1 qs2 qs3 qs4 qs5 qs6 qs7 qs8 sheets []))) H → va_D A (oTM q0 qn0 qk0 qr0 qc0 qt0 qd0 qs0 qf0 qw0 rowCount anyKept (oPort C qn0 qn1 qn2 qn3 qn4 qn5 qn6 v17 (oSheets C qs0 qs1 qs2 qs3 qs4 qs5 qs6 qs7 qs8 sheets []))) → va_S A s.heap H locs → lv_has ls 7 [(6, .int i16), (5, .ref qs5), (0, .ref q0), (2, .int x1), (3, .int x2), (4, .int x3)] → f_X5_minds_L104 x1 x2 x3 (sheets 2) n i16 v17 = some (r, now') → W p l e (headSpec wsX5_minds (rmX5_minds)).room s m (List.toArray [Value.ref q0, Value.int x0, Value.int x1, Value.int x2, Value.int x3]) below meth c H locs 0 0 Q (F0 m 104 ls []) := by
                        intro n
                        induction n with
                        | zero =>
                          intro i16 v17 H locs ls hP hD hS hl hf
                          exact absurd hf (fun h => by cases h)
                        | succ n ih =>
                          intro i16 v17 H locs ls hP hD hS hl hf
                          rw [f_X5_minds_L104] at hf
                          refine lv_iload hx hb dX5_minds_104 (lv_at hl 0 rfl) ?_
                          refine lv_iload hx hb dX5_minds_106 (lv_at hl 5 rfl) ?_
                          refine lv_icmp_ge (tgt := 143) hx hb dX5_minds_108 (by decide) (fun c18 => ?_) (fun c18 => ?_)
                          · replace hf := if_te c18 hf
                            refine lv_iload hx hb dX5_minds_143 (lv_at hl 5 rfl) ?_
                            cases hf
                            exact kri hQ hAe hx hb hr hlocks hP hD hK hS dX5_minds_145
                          · replace hf := if_fe c18 hf
                            refine lv_aload_n hx hb dX5_minds_111 rfl (lv_at hl 2 rfl) ?_
                            refine va_get (D := D) (ci := 5) (v := .ref qn0) (C := RX5) (T := TX5) (N := 11) hx hb hts hi_RX5 hown hK hP 0 rfl rfl 0 (by decide) (hts (.fieldLink RX5 10 "TravelMarks" "now" "LTravelMarks$Port;") (List.mem_of_getElem? (i := 1) rfl)) (fun _ h9 => h9) rfl dX5_minds_112 ?_
                            refine va_get (D := D) (ci := 1) (v := .ref qn3) (C := RX1) (T := TX1) (N := 10) hx hb hts hi_RX1 hown hK hP 1 rfl rfl 2 (by decide) (hts (.fieldLink RX5 117 "TravelMarks$Port" "ink" "[I") (List.mem_of_getElem? (i := 6) rfl)) (fun _ h9 => h9) rfl dX5_minds_115 ?_
                            refine lv_iload_n hx hb dX5_minds_118 rfl (lv_at hl 4 rfl) ?_
                            refine lv_iload hx hb dX5_minds_119 (lv_at hl 0 rfl) ?_
                            refine lv_iadd hx hb dX5_minds_121 ?_
                            refine lv_aload hx hb dX5_minds_122 (lv_at hl 1 rfl) ?_
                            refine va_get (D := D) (ci := 2) (v := .ref qs6) (C := RX2) (T := TX2) (N := 3) hx hb hts hi_RX2 hown hK hP 13 rfl rfl 0 (by decide) (hts (.fieldLink RX5 222 "TravelMarks$Sheet" "items" "[J") (List.mem_of_getElem? (i := 7) rfl)) (fun _ h9 => h9) rfl dX5_minds_124 ?_
                            refine lv_iload_n hx hb dX5_minds_127 rfl (lv_at hl 3 rfl) ?_
                            refine lv_iload hx hb dX5_minds_128 (lv_at hl 0 rfl) ?_
                            refine lv_iadd hx hb dX5_minds_130 ?_
                            obtain ⟨y20, ey20, hi19, hf⟩ := rdA_x hf
                            refine va_lald hx hb hK hP 14 2 rfl rfl hi19 dX5_minds_131 ?_
                            refine lv_renL ey20 ?_
                            refine lv_l2i hx hb dX5_minds_132 rfl ?_
                            refine kci (Wx := (oTM q0 qn0 qk0 qr0 qc0 qt0 qd0 qs0 qf0 qw0 rowCount anyKept (oPort C qn0 qn1 qn2 qn3 qn4 qn5 qn6 v17 (oSheets C qs0 qs1 qs2 qs3 qs4 qs5 qs6 qs7 qs8 sheets [])))) (va_runS (As := [.int (Int64.toInt32 y20)]) (rest := [.int (x2 + i16), .ref qn3]) ⟨hx, hb, hml, hown, hts⟩ (c_X5_heldInk l E D C H.size (Int64.toInt32 y20) _ rfl) (va_cwS 1 hts gX5_minds_X5_heldInk rfl rfl rfl hdX5_heldInk ⟨Nat.le_of_ble_eq_true rfl, Nat.le_of_ble_eq_true rfl⟩) (kpre hP hD hK hS hE hA [] rfl rfl) rfl rfl hl.1 rfl (lv_room (Nat.le_of_ble_eq_true rfl)) dX5_minds_133 ⟨Nat.zero_le _, Nat.zero_le _⟩) hP hD hS hA [] rfl rfl rfl (fun H locs hP hD hS => ?_)
                            obtain ⟨t21, et21, hf⟩ := lj_e hf
                            refine lv_ren et21 ?_
                            obtain ⟨hi22, hf⟩ := ckA_e hf
                            refine va_iast hx hb hK hP hD hS 4 0 rfl rfl hi22 dX5_minds_136 (fun H locs hP hD hS => ?_)
                            obtain ⟨v23, ev23, hf⟩ := lj_e hf
                            have hP : va_P D vwCl (oTM q0 qn0 qk0 qr0 qc0 qt0 qd0 qs0 qf0 qw0 rowCount anyKept (oPort C qn0 qn1 qn2 qn3 qn4 qn5 qn6 v23 (oSheets C qs0 qs1 qs2 qs3 qs4 qs5 qs6 qs7 qs8 sheets []))) H := by rw [ev23]; exact hP
                            have hD : va_D A (oTM q0 qn0 qk0 qr0 qc0 qt0 qd0 qs0 qf0 qw0 rowCount anyKept (oPort C qn0 qn1 qn2 qn3 qn4 qn5 qn6 v23 (oSheets C qs0 qs1 qs2 qs3 qs4 qs5 qs6 qs7 qs8 sheets []))) := by rw [ev23]; exact hD
                            obtain ⟨t24, et24, hf⟩ := lj_e hf
                            refine lv_iinc (v := t24) (lv' := [(6, .int t24), (5, .ref qs5), (0, .ref q0), (2, .int x1), (3, .int x2), (4, .int x3)]) hx hb dX5_minds_137 hl (k := 0) rfl (by rw [et24]; rfl) (by decide) rfl (fun ls hl => ?_)
                            refine lv_goto (tgt := 104) hx hb dX5_minds_140 (by decide) ?_
                            exact ih t24 v23 H locs ls hP hD hS (lv_sub hl [0, 1, 2, 3, 4, 5] rfl) hf
                      exact hL104 N 0 now H locs ls hP hD hS (lv_sub hl [0, 1, 2, 4, 5, 6] rfl) hf
                    · replace hf := if_fe c15 hf
                      refine lv_bipush (v := (-12)) hx hb dX5_minds_98 rfl ?_
                      cases hf
                      exact kri hQ hAe hx hb hr hlocks hP hD hK hS dX5_minds_100
                · replace hf := if_fe c12 hf
                  refine lv_bipush (v := (-13)) hx hb dX5_minds_70 rfl ?_
                  cases hf
                  exact kri hQ hAe hx hb hr hlocks hP hD hK hS dX5_minds_72
              · replace hf := if_te c11 hf
                refine lv_bipush (v := (-11)) hx hb dX5_minds_59 rfl ?_
                cases hf
                exact kri hQ hAe hx hb hr hlocks hP hD hK hS dX5_minds_61
            · rw [e4_10] at eo9
              subst eo9
              try rw [e4_10] at hf
              refine va_aldq hx hb hK hP 8 3 rfl rfl hi8 dX5_minds_47 ?_
              rw [e4_10]
              refine lv_renV (v := .ref qs7) rfl ?_
              refine lv_astore (lv' := [(5, .ref qs7), (0, .ref q0), (1, .int x0), (2, .int x1), (3, .int x2), (4, .int x3)]) hx hb dX5_minds_48 hl (by decide) rfl (fun ls hl => ?_)
              refine lv_aload hx hb dX5_minds_50 (lv_at hl 0 rfl) ?_
              refine va_get (D := D) (ci := 2) (v := .int (shSort (sheets 3))) (C := RX2) (T := TX2) (N := 3) hx hb hts hi_RX2 hown hK hP 15 rfl rfl 1 (by decide) (hts (.fieldLink RX5 212 "TravelMarks$Sheet" "sort" "I") (List.mem_of_getElem? (i := 4) rfl)) (fun _ h9 => h9) rfl dX5_minds_52 ?_
              refine lv_iconst (v := (-1)) hx hb dX5_minds_55 rfl ?_
              refine lv_icmp_ne (tgt := 62) hx hb dX5_minds_56 (by decide) (fun c11 => ?_) (fun c11 => ?_)
              · replace hf := if_fe c11 hf
                refine lv_aload hx hb dX5_minds_62 (lv_at hl 0 rfl) ?_
                refine va_get (D := D) (ci := 2) (v := .int (shSort (sheets 3))) (C := RX2) (T := TX2) (N := 3) hx hb hts hi_RX2 hown hK hP 15 rfl rfl 1 (by decide) (hts (.fieldLink RX5 212 "TravelMarks$Sheet" "sort" "I") (List.mem_of_getElem? (i := 4) rfl)) (fun _ h9 => h9) rfl dX5_minds_64 ?_
                refine lv_if_eq (tgt := 73) hx hb dX5_minds_67 (by decide) (fun c12 => ?_) (fun c12 => ?_)
                · replace hf := if_te c12 hf
                  refine lv_iload_n hx hb dX5_minds_73 rfl (lv_at hl 3 rfl) ?_
                  refine lv_iconst (v := 0) hx hb dX5_minds_74 rfl ?_
                  refine lv_aload hx hb dX5_minds_75 (lv_at hl 0 rfl) ?_
                  refine va_get (D := D) (ci := 2) (v := .int (shSize (sheets 3))) (C := RX2) (T := TX2) (N := 3) hx hb hts hi_RX2 hown hK hP 15 rfl rfl 2 (by decide) (hts (.fieldLink RX5 219 "TravelMarks$Sheet" "size" "I") (List.mem_of_getElem? (i := 5) rfl)) (fun _ h9 => h9) rfl dX5_minds_77 ?_
                  refine kcz (Wx := (oTM q0 qn0 qk0 qr0 qc0 qt0 qd0 qs0 qf0 qw0 rowCount anyKept (oPort C qn0 qn1 qn2 qn3 qn4 qn5 qn6 now (oSheets C qs0 qs1 qs2 qs3 qs4 qs5 qs6 qs7 qs8 sheets [])))) (va_runS (As := [.int x1, .int 0, .int (shSize (sheets 3))]) (rest := []) ⟨hx, hb, hml, hown, hts⟩ (c_X5_within l E D C H.size x1 0 (shSize (sheets 3)) _ rfl) (va_cwS 3 hts gX5_minds_X5_within rfl rfl rfl hdX5_within ⟨Nat.le_of_ble_eq_true rfl, Nat.le_of_ble_eq_true rfl⟩) (kpre hP hD hK hS hE hA [] rfl rfl) rfl rfl hl.1 rfl (lv_room (Nat.le_of_ble_eq_true rfl)) dX5_minds_80 ⟨Nat.zero_le _, Nat.zero_le _⟩) hP hD hS hA [] rfl rfl rfl (fun H locs hz13 hP hD hS => ?_)
                  refine lv_if_eq (tgt := 98) hx hb dX5_minds_83 (by decide) (fun c14 => ?_) (fun c14 => ?_)
                  · replace hf := if_te c14 hf
                    refine lv_bipush (v := (-12)) hx hb dX5_minds_98 rfl ?_
                    cases hf
                    exact kri hQ hAe hx hb hr hlocks hP hD hK hS dX5_minds_100
                  · replace hf := if_fe c14 hf
                    refine lv_iload hx hb dX5_minds_86 (lv_at hl 5 rfl) ?_
                    refine lv_aload hx hb dX5_minds_88 (lv_at hl 0 rfl) ?_
                    refine va_get (D := D) (ci := 2) (v := .int (shSize (sheets 3))) (C := RX2) (T := TX2) (N := 3) hx hb hts hi_RX2 hown hK hP 15 rfl rfl 2 (by decide) (hts (.fieldLink RX5 219 "TravelMarks$Sheet" "size" "I") (List.mem_of_getElem? (i := 5) rfl)) (fun _ h9 => h9) rfl dX5_minds_90 ?_
                    refine lv_iload_n hx hb dX5_minds_93 rfl (lv_at hl 3 rfl) ?_
                    refine lv_isub hx hb dX5_minds_94 ?_
                    refine lv_icmp_le (tgt := 101) hx hb dX5_minds_95 (by decide) (fun c15 => ?_) (fun c15 => ?_)
                    · replace hf := if_te c15 hf
                      refine lv_iconst (v := 0) hx hb dX5_minds_101 rfl ?_
                      refine lv_istore (lv' := [(6, .int 0), (5, .ref qs7), (0, .ref q0), (1, .int x0), (2, .int x1), (3, .int x2), (4, .int x3)]) hx hb dX5_minds_102 hl (by decide) rfl (fun ls hl => ?_)
                      have hL104 : ∀ (n : Nat) (i16 : Int32) (v17 : PV) (H : Heap) (locs : List Loc) (ls : Array Slot), va_P D vwCl (oTM q0 qn0 qk0 qr0 qc0 qt0 qd0 qs0 qf0 qw0 rowCount anyKept (oPort C qn0 qn1 qn2 qn3 qn4 qn5 qn6 v17 (oSheets C qs0 qs1 qs2 qs3 qs4 qs5 qs6 qs7 qs8 sheets []))) H → va_D A (oTM q0 qn0 qk0 qr0 qc0 qt0 qd0 qs0 qf0 qw0 rowCount anyKept (oPort C qn0 qn1 qn2 qn3 qn4 qn5 qn6 v17 (oSheets C qs0 qs1 qs2 qs3 qs4 qs5 qs6 qs7 qs8 sheets []))) → va_S A s.heap H locs → lv_has ls 7 [(6, .int i16), (5, .ref qs7), (0, .ref q0), (2, .int x1), (3, .int x2), (4, .int x3)] → f_X5_minds_L104 x1 x2 x3 (sheets 3) n i16 v17 = some (r, now') → W p l e (headSpec wsX5_minds (rmX5_minds)).room s m (List.toArray [Value.ref q0, Value.int x0, Value.int x1, Value.int x2, Value.int x3]) below meth c H locs 0 0 Q (F0 m 104 ls []) := by
                        intro n
                        induction n with
                        | zero =>
                          intro i16 v17 H locs ls hP hD hS hl hf
                          exact absurd hf (fun h => by cases h)
                        | succ n ih =>
                          intro i16 v17 H locs ls hP hD hS hl hf
                          rw [f_X5_minds_L104] at hf
                          refine lv_iload hx hb dX5_minds_104 (lv_at hl 0 rfl) ?_
                          refine lv_iload hx hb dX5_minds_106 (lv_at hl 5 rfl) ?_
                          refine lv_icmp_ge (tgt := 143) hx hb dX5_minds_108 (by decide) (fun c18 => ?_) (fun c18 => ?_)
                          · replace hf := if_te c18 hf
                            refine lv_iload hx hb dX5_minds_143 (lv_at hl 5 rfl) ?_
                            cases hf
                            exact kri hQ hAe hx hb hr hlocks hP hD hK hS dX5_minds_145
                          · replace hf := if_fe c18 hf
                            refine lv_aload_n hx hb dX5_minds_111 rfl (lv_at hl 2 rfl) ?_
                            refine va_get (D := D) (ci := 5) (v := .ref qn0) (C := RX5) (T := TX5) (N := 11) hx hb hts hi_RX5 hown hK hP 0 rfl rfl 0 (by decide) (hts (.fieldLink RX5 10 "TravelMarks" "now" "LTravelMarks$Port;") (List.mem_of_getElem? (i := 1) rfl)) (fun _ h9 => h9) rfl dX5_minds_112 ?_
                            refine va_get (D := D) (ci := 1) (v := .ref qn3) (C := RX1) (T := TX1) (N := 10) hx hb hts hi_RX1 hown hK hP 1 rfl rfl 2 (by decide) (hts (.fieldLink RX5 117 "TravelMarks$Port" "ink" "[I") (List.mem_of_getElem? (i := 6) rfl)) (fun _ h9 => h9) rfl dX5_minds_115 ?_
                            refine lv_iload_n hx hb dX5_minds_118 rfl (lv_at hl 4 rfl) ?_
                            refine lv_iload hx hb dX5_minds_119 (lv_at hl 0 rfl) ?_
                            refine lv_iadd hx hb dX5_minds_121 ?_
                            refine lv_aload hx hb dX5_minds_122 (lv_at hl 1 rfl) ?_
                            refine va_get (D := D) (ci := 2) (v := .ref qs8) (C := RX2) (T := TX2) (N := 3) hx hb hts hi_RX2 hown hK hP 15 rfl rfl 0 (by decide) (hts (.fieldLink RX5 222 "TravelMarks$Sheet" "items" "[J") (List.mem_of_getElem? (i := 7) rfl)) (fun _ h9 => h9) rfl dX5_minds_124 ?_
                            refine lv_iload_n hx hb dX5_minds_127 rfl (lv_at hl 3 rfl) ?_
                            refine lv_iload hx hb dX5_minds_128 (lv_at hl 0 rfl) ?_
                            refine lv_iadd hx hb dX5_minds_130 ?_
                            obtain ⟨y20, ey20, hi19, hf⟩ := rdA_x hf
                            refine va_lald hx hb hK hP 16 2 rfl rfl hi19 dX5_minds_131 ?_
                            refine lv_renL ey20 ?_
                            refine lv_l2i hx hb dX5_minds_132 rfl ?_
                            refine kci (Wx := (oTM q0 qn0 qk0 qr0 qc0 qt0 qd0 qs0 qf0 qw0 rowCount anyKept (oPort C qn0 qn1 qn2 qn3 qn4 qn5 qn6 v17 (oSheets C qs0 qs1 qs2 qs3 qs4 qs5 qs6 qs7 qs8 sheets [])))) (va_runS (As := [.int (Int64.toInt32 y20)]) (rest := [.int (x2 + i16), .ref qn3]) ⟨hx, hb, hml, hown, hts⟩ (c_X5_heldInk l E D C H.size (Int64.toInt32 y20) _ rfl) (va_cwS 1 hts gX5_minds_X5_heldInk rfl rfl rfl hdX5_heldInk ⟨Nat.le_of_ble_eq_true rfl, Nat.le_of_ble_eq_true rfl⟩) (kpre hP hD hK hS hE hA [] rfl rfl) rfl rfl hl.1 rfl (lv_room (Nat.le_of_ble_eq_true rfl)) dX5_minds_133 ⟨Nat.zero_le _, Nat.zero_le _⟩) hP hD hS hA [] rfl rfl rfl (fun H locs hP hD hS => ?_)
                            obtain ⟨t21, et21, hf⟩ := lj_e hf
                            refine lv_ren et21 ?_
                            obtain ⟨hi22, hf⟩ := ckA_e hf
                            refine va_iast hx hb hK hP hD hS 4 0 rfl rfl hi22 dX5_minds_136 (fun H locs hP hD hS => ?_)
                            obtain ⟨v23, ev23, hf⟩ := lj_e hf
                            have hP : va_P D vwCl (oTM q0 qn0 qk0 qr0 qc0 qt0 qd0 qs0 qf0 qw0 rowCount anyKept (oPort C qn0 qn1 qn2 qn3 qn4 qn5 qn6 v23 (oSheets C qs0 qs1 qs2 qs3 qs4 qs5 qs6 qs7 qs8 sheets []))) H := by rw [ev23]; exact hP
                            have hD : va_D A (oTM q0 qn0 qk0 qr0 qc0 qt0 qd0 qs0 qf0 qw0 rowCount anyKept (oPort C qn0 qn1 qn2 qn3 qn4 qn5 qn6 v23 (oSheets C qs0 qs1 qs2 qs3 qs4 qs5 qs6 qs7 qs8 sheets []))) := by rw [ev23]; exact hD
                            obtain ⟨t24, et24, hf⟩ := lj_e hf
                            refine lv_iinc (v := t24) (lv' := [(6, .int t24), (5, .ref qs7), (0, .ref q0), (2, .int x1), (3, .int x2), (4, .int x3)]) hx hb dX5_minds_137 hl (k := 0) rfl (by rw [et24]; rfl) (by decide) rfl (fun ls hl => ?_)
                            refine lv_goto (tgt := 104) hx hb dX5_minds_140 (by decide) ?_
                            exact ih t24 v23 H locs ls hP hD hS (lv_sub hl [0, 1, 2, 3, 4, 5] rfl) hf
                      exact hL104 N 0 now H locs ls hP hD hS (lv_sub hl [0, 1, 2, 4, 5, 6] rfl) hf
                    · replace hf := if_fe c15 hf
                      refine lv_bipush (v := (-12)) hx hb dX5_minds_98 rfl ?_
                      cases hf
                      exact kri hQ hAe hx hb hr hlocks hP hD hK hS dX5_minds_100
                · replace hf := if_fe c12 hf
                  refine lv_bipush (v := (-13)) hx hb dX5_minds_70 rfl ?_
                  cases hf
                  exact kri hQ hAe hx hb hr hlocks hP hD hK hS dX5_minds_72
              · replace hf := if_te c11 hf
                refine lv_bipush (v := (-11)) hx hb dX5_minds_59 rfl ?_
                cases hf
                exact kri hQ hAe hx hb hr hlocks hP hD hK hS dX5_minds_61
          · replace hf := if_fe c7 hf
            refine lv_iconst (v := (-1)) hx hb dX5_minds_40 rfl ?_
            cases hf
            exact kri hQ hAe hx hb hr hlocks hP hD hK hS dX5_minds_41
  exact main _ _ hP hD hS

def rmX5_sheet : Room := { frames := 2, cells := 0, slots := 0, locals := 42 }
theorem hdX5_sheet : yX5_sheet.cls = RX5 ∧ yX5_sheet.cls ≠ "java/lang/invoke/MethodHandle" ∧ yX5_sheet.cls ≠ "java/lang/invoke/VarHandle" ∧ (parseMethodDescriptor yX5_sheet.desc).map (fun d => d.parameters.length) = some 3 := by decide +kernel
set_option maxHeartbeats 40000000 in
set_option maxRecDepth 100000 in
theorem c_X5_sheet (l : Launch) (E : Nat → Nat) (D : va_G) (C : Nat → ClassId) (q0 qn0 qk0 qr0 qc0 qt0 qd0 qs0 qf0 qw0 qs1 qs2 qs3 qs4 qs5 qs6 qs7 qs8 : Nat) (sz : Nat) (N : Nat) (rowCount : Int32) (anyKept : Int32) (sheets : Nat → HV) (x0 : Int32) (x1 : Int32) (x2 : Int32) (r : Int32) (sheets' : Nat → HV) (hf : f_X5_sheet N sheets x0 x1 x2 = some (r, sheets')) : Met l yX5_sheet wsX5_sheet rmX5_sheet (PC E D C [.ref q0, .int x0, .int x1, .int x2] (oTM q0 qn0 qk0 qr0 qc0 qt0 qd0 qs0 qf0 qw0 rowCount anyKept (oSheets C qs0 qs1 qs2 qs3 qs4 qs5 qs6 qs7 qs8 sheets [])) sz) (QI D C (oTM q0 qn0 qk0 qr0 qc0 qt0 qd0 qs0 qf0 qw0 rowCount anyKept (oSheets C qs0 qs1 qs2 qs3 qs4 qs5 qs6 qs7 qs8 sheets [])) (oTM q0 qn0 qk0 qr0 qc0 qt0 qd0 qs0 qf0 qw0 rowCount anyKept (oSheets C qs0 qs1 qs2 qs3 qs4 qs5 qs6 qs7 qs8 (sheets') [])) sz r) 0 0 (va_A (oTM q0 qn0 qk0 qr0 qc0 qt0 qd0 qs0 qf0 qw0 rowCount anyKept (oSheets C qs0 qs1 qs2 qs3 qs4 qs5 qs6 qs7 qs8 sheets [])) sz) := by
  refine Met.ofW (cc := cX5_sheet) (maxL := 4) (ret := (some .int)) (by decide) rfl ?_
  intro p e s m args below meth c s₁ B hml hv
  obtain ⟨rfl, hsz, hP, hK, hD0, hE⟩ := hv
  have hx := B.exec
  have hb := B.bytes
  have hr := B.returns
  have hts := atoms_spec (ws := wsX5_sheet) B.pre
  have hown : s.vm.findClass RX5 = some m.cls := findClass_of_methodNamed B.named
  have hlocks := B.notSynchronized
  subst hsz
  have hi_RX5 : ∀ w ∈ wsX50, w ∈ wsX5_sheet := fun _ h => List.mem_cons_of_mem _ (List.mem_append_left _ (List.mem_append_right _ h))
  have hD := hD0.self (sz := s.heap.size)
  obtain ⟨A, hAe⟩ := nm_ex (va_A (oTM q0 qn0 qk0 qr0 qc0 qt0 qd0 qs0 qf0 qw0 rowCount anyKept (oSheets C qs0 qs1 qs2 qs3 qs4 qs5 qs6 qs7 qs8 sheets [])) s.heap.size)
  rw [← hAe] at hD hE ⊢
  have hA : ∀ q : Nat, s.heap.size ≤ q → A q := fun q h => by rw [hAe]; exact Or.inr h
  have hS : va_S A s.heap s.heap [] := va_S.rf
  have hl := lv_entry ([.ref q0, .int x0, .int x1, .int x2]) (n := 4) (Nat.le_of_ble_eq_true rfl)
  rw [lg_entry_eq]
  generalize (lg_sl ([.ref q0, .int x0, .int x1, .int x2]) ++ List.replicate (4 - (lg_sl ([.ref q0, .int x0, .int x1, .int x2])).length) Slot.unset).toArray = ls at hl ⊢
  have hl : lv_has ls 4 [(0, .ref q0), (1, .int x0), (2, .int x1), (3, .int x2)] := hl
  obtain ⟨Q, hQ⟩ := nm_ex (MQ below (QI D C (oTM q0 qn0 qk0 qr0 qc0 qt0 qd0 qs0 qf0 qw0 rowCount anyKept (oSheets C qs0 qs1 qs2 qs3 qs4 qs5 qs6 qs7 qs8 sheets [])) (oTM q0 qn0 qk0 qr0 qc0 qt0 qd0 qs0 qf0 qw0 rowCount anyKept (oSheets C qs0 qs1 qs2 qs3 qs4 qs5 qs6 qs7 qs8 (sheets') [])) s.heap.size r) (List.toArray [Value.ref q0, Value.int x0, Value.int x1, Value.int x2]) s 0 0 A)
  show W p l e (headSpec wsX5_sheet (rmX5_sheet)).room s m (List.toArray [Value.ref q0, Value.int x0, Value.int x1, Value.int x2]) below meth c s.heap [] 0 0 (MQ below (QI D C (oTM q0 qn0 qk0 qr0 qc0 qt0 qd0 qs0 qf0 qw0 rowCount anyKept (oSheets C qs0 qs1 qs2 qs3 qs4 qs5 qs6 qs7 qs8 sheets [])) (oTM q0 qn0 qk0 qr0 qc0 qt0 qd0 qs0 qf0 qw0 rowCount anyKept (oSheets C qs0 qs1 qs2 qs3 qs4 qs5 qs6 qs7 qs8 (sheets') [])) s.heap.size r) (List.toArray [Value.ref q0, Value.int x0, Value.int x1, Value.int x2]) s 0 0 A) _
  rw [← hQ]
  unfold f_X5_sheet at hf
  have main : ∀ (H : Heap) (locs : List Loc), va_P D vwCl (oTM q0 qn0 qk0 qr0 qc0 qt0 qd0 qs0 qf0 qw0 rowCount anyKept (oSheets C qs0 qs1 qs2 qs3 qs4 qs5 qs6 qs7 qs8 sheets [])) H → va_D A (oTM q0 qn0 qk0 qr0 qc0 qt0 qd0 qs0 qf0 qw0 rowCount anyKept (oSheets C qs0 qs1 qs2 qs3 qs4 qs5 qs6 qs7 qs8 sheets [])) → va_S A s.heap H locs → W p l e (headSpec wsX5_sheet (rmX5_sheet)).room s m (List.toArray [Value.ref q0, Value.int x0, Value.int x1, Value.int x2]) below meth c H locs 0 0 Q (F0 m 0 ls []) := by
    intro H locs hP hD hS
    refine lv_iload_n hx hb dX5_sheet_0 rfl (lv_at hl 1 rfl) ?_
    refine kcz (Wx := (oTM q0 qn0 qk0 qr0 qc0 qt0 qd0 qs0 qf0 qw0 rowCount anyKept (oSheets C qs0 qs1 qs2 qs3 qs4 qs5 qs6 qs7 qs8 sheets []))) (va_runS (As := [.int x0]) (rest := []) ⟨hx, hb, hml, hown, hts⟩ (c_X5_isSheet l E D C H.size x0 _ rfl) (va_cwS 1 hts gX5_sheet_X5_isSheet rfl rfl rfl hdX5_isSheet ⟨Nat.le_of_ble_eq_true rfl, Nat.le_of_ble_eq_true rfl⟩) (kpre hP hD hK hS hE hA [] rfl rfl) rfl rfl hl.1 rfl (lv_room (Nat.le_of_ble_eq_true rfl)) dX5_sheet_1 ⟨Nat.zero_le _, Nat.zero_le _⟩) hP hD hS hA [] rfl rfl rfl (fun H locs hz1 hP hD hS => ?_)
    refine lv_if_eq (tgt := 16) hx hb dX5_sheet_4 (by decide) (fun c2 => ?_) (fun c2 => ?_)
    · replace hf := if_te c2 hf
      refine lv_iconst (v := (-1)) hx hb dX5_sheet_16 rfl ?_
      cases hf
      exact kri hQ hAe hx hb hr hlocks hP hD hK hS dX5_sheet_17
    · replace hf := if_fe c2 hf
      refine lv_iload_n hx hb dX5_sheet_7 rfl (lv_at hl 2 rfl) ?_
      refine lv_iconst (v := (-1)) hx hb dX5_sheet_8 rfl ?_
      refine lv_iconst (v := 3) hx hb dX5_sheet_9 rfl ?_
      refine kcz (Wx := (oTM q0 qn0 qk0 qr0 qc0 qt0 qd0 qs0 qf0 qw0 rowCount anyKept (oSheets C qs0 qs1 qs2 qs3 qs4 qs5 qs6 qs7 qs8 sheets []))) (va_runS (As := [.int x1, .int (-1), .int 3]) (rest := []) ⟨hx, hb, hml, hown, hts⟩ (c_X5_within l E D C H.size x1 (-1) 3 _ rfl) (va_cwS 3 hts gX5_sheet_X5_within rfl rfl rfl hdX5_within ⟨Nat.le_of_ble_eq_true rfl, Nat.le_of_ble_eq_true rfl⟩) (kpre hP hD hK hS hE hA [] rfl rfl) rfl rfl hl.1 rfl (lv_room (Nat.le_of_ble_eq_true rfl)) dX5_sheet_10 ⟨Nat.zero_le _, Nat.zero_le _⟩) hP hD hS hA [] rfl rfl rfl (fun H locs hz3 hP hD hS => ?_)
      refine lv_if_ne (tgt := 18) hx hb dX5_sheet_13 (by decide) (fun c4 => ?_) (fun c4 => ?_)
      · replace hf := if_fe c4 hf
        refine lv_iload_n hx hb dX5_sheet_18 rfl (lv_at hl 2 rfl) ?_
        refine lv_iconst (v := (-1)) hx hb dX5_sheet_19 rfl ?_
        refine lv_icmp_ne (tgt := 36) hx hb dX5_sheet_20 (by decide) (fun c5 => ?_) (fun c5 => ?_)
        · replace hf := if_fe c5 hf
          refine lv_iload_n hx hb dX5_sheet_36 rfl (lv_at hl 3 rfl) ?_
          refine lv_bipush (v := 40) hx hb dX5_sheet_37 rfl ?_
          refine lv_icmp_le (tgt := 44) hx hb dX5_sheet_39 (by decide) (fun c6 => ?_) (fun c6 => ?_)
          · replace hf := if_te c6 hf
            refine lv_iload_n hx hb dX5_sheet_44 rfl (lv_at hl 3 rfl) ?_
            refine lv_if_ge (tgt := 51) hx hb dX5_sheet_45 (by decide) (fun c7 => ?_) (fun c7 => ?_)
            · replace hf := if_te c7 hf
              refine lv_aload_n hx hb dX5_sheet_51 rfl (lv_at hl 0 rfl) ?_
              refine va_get (D := D) (ci := 5) (v := .ref qs0) (C := RX5) (T := TX5) (N := 11) hx hb hts hi_RX5 hown hK hP 0 rfl rfl 6 (by decide) (hts (.fieldLink RX5 41 "TravelMarks" "sheets" "[LTravelMarks$Sheet;") (List.mem_of_getElem? (i := 1) rfl)) (fun _ h9 => h9) rfl dX5_sheet_52 ?_
              refine lv_iload_n hx hb dX5_sheet_55 rfl (lv_at hl 1 rfl) ?_
              obtain ⟨hi8, hf⟩ := ckA_e hf
              obtain ⟨o9, eo9, hf⟩ := lj_e hf
              rcases four hi8 with e4_10 | e4_10 | e4_10 | e4_10
              · rw [e4_10] at eo9
                subst eo9
                try rw [e4_10] at hf
                refine va_aldq hx hb hK hP 1 3 rfl rfl hi8 dX5_sheet_56 ?_
                rw [e4_10]
                refine lv_renV (v := .ref qs1) rfl ?_
                refine lv_iload_n hx hb dX5_sheet_57 rfl (lv_at hl 2 rfl) ?_
                refine lv_iload_n hx hb dX5_sheet_58 rfl (lv_at hl 3 rfl) ?_
                obtain ⟨v11, h12, hf⟩ := ob1_e hf
                refine kcv (Wx := (oTM q0 qn0 qk0 qr0 qc0 qt0 qd0 qs0 qf0 qw0 rowCount anyKept (oSheets C qs0 qs1 qs2 qs3 qs4 qs5 qs6 qs7 qs8 (va_up sheets 0 v11) []))) (va_runV (As := [.int x1, .int x2]) (rest := []) ⟨hx, hb, hml, hown, hts⟩ (c_X2_become l E D C qs1 qs2 H.size N (sheets 0) x1 x2 v11 h12) (cwV 2 hts gX5_sheet_X2_become rfl rfl rfl hdX2_become ⟨Nat.le_of_ble_eq_true rfl, Nat.le_of_ble_eq_true rfl⟩) (kpreV hP hD hK hS hE hA [2, 3] rfl rfl 2 rfl rfl rfl) rfl rfl hl.1 rfl (lv_room (Nat.le_of_ble_eq_true rfl)) dX5_sheet_59 ⟨Nat.zero_le _, Nat.zero_le _⟩) hP hD hS hA [2, 3] rfl rfl rfl (fun H locs hP hD hS => ?_)
                refine lv_iconst (v := 1) hx hb dX5_sheet_62 rfl ?_
                cases hf
                exact kri hQ hAe hx hb hr hlocks hP hD hK hS dX5_sheet_63
              · rw [e4_10] at eo9
                subst eo9
                try rw [e4_10] at hf
                refine va_aldq hx hb hK hP 1 3 rfl rfl hi8 dX5_sheet_56 ?_
                rw [e4_10]
                refine lv_renV (v := .ref qs3) rfl ?_
                refine lv_iload_n hx hb dX5_sheet_57 rfl (lv_at hl 2 rfl) ?_
                refine lv_iload_n hx hb dX5_sheet_58 rfl (lv_at hl 3 rfl) ?_
                obtain ⟨v11, h12, hf⟩ := ob1_e hf
                refine kcv (Wx := (oTM q0 qn0 qk0 qr0 qc0 qt0 qd0 qs0 qf0 qw0 rowCount anyKept (oSheets C qs0 qs1 qs2 qs3 qs4 qs5 qs6 qs7 qs8 (va_up sheets 1 v11) []))) (va_runV (As := [.int x1, .int x2]) (rest := []) ⟨hx, hb, hml, hown, hts⟩ (c_X2_become l E D C qs3 qs4 H.size N (sheets 1) x1 x2 v11 h12) (cwV 2 hts gX5_sheet_X2_become rfl rfl rfl hdX2_become ⟨Nat.le_of_ble_eq_true rfl, Nat.le_of_ble_eq_true rfl⟩) (kpreV hP hD hK hS hE hA [4, 5] rfl rfl 4 rfl rfl rfl) rfl rfl hl.1 rfl (lv_room (Nat.le_of_ble_eq_true rfl)) dX5_sheet_59 ⟨Nat.zero_le _, Nat.zero_le _⟩) hP hD hS hA [4, 5] rfl rfl rfl (fun H locs hP hD hS => ?_)
                refine lv_iconst (v := 1) hx hb dX5_sheet_62 rfl ?_
                cases hf
                exact kri hQ hAe hx hb hr hlocks hP hD hK hS dX5_sheet_63
              · rw [e4_10] at eo9
                subst eo9
                try rw [e4_10] at hf
                refine va_aldq hx hb hK hP 1 3 rfl rfl hi8 dX5_sheet_56 ?_
                rw [e4_10]
                refine lv_renV (v := .ref qs5) rfl ?_
                refine lv_iload_n hx hb dX5_sheet_57 rfl (lv_at hl 2 rfl) ?_
                refine lv_iload_n hx hb dX5_sheet_58 rfl (lv_at hl 3 rfl) ?_
                obtain ⟨v11, h12, hf⟩ := ob1_e hf
                refine kcv (Wx := (oTM q0 qn0 qk0 qr0 qc0 qt0 qd0 qs0 qf0 qw0 rowCount anyKept (oSheets C qs0 qs1 qs2 qs3 qs4 qs5 qs6 qs7 qs8 (va_up sheets 2 v11) []))) (va_runV (As := [.int x1, .int x2]) (rest := []) ⟨hx, hb, hml, hown, hts⟩ (c_X2_become l E D C qs5 qs6 H.size N (sheets 2) x1 x2 v11 h12) (cwV 2 hts gX5_sheet_X2_become rfl rfl rfl hdX2_become ⟨Nat.le_of_ble_eq_true rfl, Nat.le_of_ble_eq_true rfl⟩) (kpreV hP hD hK hS hE hA [6, 7] rfl rfl 6 rfl rfl rfl) rfl rfl hl.1 rfl (lv_room (Nat.le_of_ble_eq_true rfl)) dX5_sheet_59 ⟨Nat.zero_le _, Nat.zero_le _⟩) hP hD hS hA [6, 7] rfl rfl rfl (fun H locs hP hD hS => ?_)
                refine lv_iconst (v := 1) hx hb dX5_sheet_62 rfl ?_
                cases hf
                exact kri hQ hAe hx hb hr hlocks hP hD hK hS dX5_sheet_63
              · rw [e4_10] at eo9
                subst eo9
                try rw [e4_10] at hf
                refine va_aldq hx hb hK hP 1 3 rfl rfl hi8 dX5_sheet_56 ?_
                rw [e4_10]
                refine lv_renV (v := .ref qs7) rfl ?_
                refine lv_iload_n hx hb dX5_sheet_57 rfl (lv_at hl 2 rfl) ?_
                refine lv_iload_n hx hb dX5_sheet_58 rfl (lv_at hl 3 rfl) ?_
                obtain ⟨v11, h12, hf⟩ := ob1_e hf
                refine kcv (Wx := (oTM q0 qn0 qk0 qr0 qc0 qt0 qd0 qs0 qf0 qw0 rowCount anyKept (oSheets C qs0 qs1 qs2 qs3 qs4 qs5 qs6 qs7 qs8 (va_up sheets 3 v11) []))) (va_runV (As := [.int x1, .int x2]) (rest := []) ⟨hx, hb, hml, hown, hts⟩ (c_X2_become l E D C qs7 qs8 H.size N (sheets 3) x1 x2 v11 h12) (cwV 2 hts gX5_sheet_X2_become rfl rfl rfl hdX2_become ⟨Nat.le_of_ble_eq_true rfl, Nat.le_of_ble_eq_true rfl⟩) (kpreV hP hD hK hS hE hA [8, 9] rfl rfl 8 rfl rfl rfl) rfl rfl hl.1 rfl (lv_room (Nat.le_of_ble_eq_true rfl)) dX5_sheet_59 ⟨Nat.zero_le _, Nat.zero_le _⟩) hP hD hS hA [8, 9] rfl rfl rfl (fun H locs hP hD hS => ?_)
                refine lv_iconst (v := 1) hx hb dX5_sheet_62 rfl ?_
                cases hf
                exact kri hQ hAe hx hb hr hlocks hP hD hK hS dX5_sheet_63
            · replace hf := if_fe c7 hf
              refine lv_bipush (v := (-14)) hx hb dX5_sheet_48 rfl ?_
              cases hf
              exact kri hQ hAe hx hb hr hlocks hP hD hK hS dX5_sheet_50
          · replace hf := if_fe c6 hf
            refine lv_iconst (v := (-1)) hx hb dX5_sheet_42 rfl ?_
            cases hf
            exact kri hQ hAe hx hb hr hlocks hP hD hK hS dX5_sheet_43
        · replace hf := if_te c5 hf
          refine lv_aload_n hx hb dX5_sheet_23 rfl (lv_at hl 0 rfl) ?_
          refine va_get (D := D) (ci := 5) (v := .ref qs0) (C := RX5) (T := TX5) (N := 11) hx hb hts hi_RX5 hown hK hP 0 rfl rfl 6 (by decide) (hts (.fieldLink RX5 41 "TravelMarks" "sheets" "[LTravelMarks$Sheet;") (List.mem_of_getElem? (i := 1) rfl)) (fun _ h9 => h9) rfl dX5_sheet_24 ?_
          refine lv_iload_n hx hb dX5_sheet_27 rfl (lv_at hl 1 rfl) ?_
          obtain ⟨hi13, hf⟩ := ckA_e hf
          obtain ⟨o14, eo14, hf⟩ := lj_e hf
          rcases four hi13 with e4_15 | e4_15 | e4_15 | e4_15
          · rw [e4_15] at eo14
            subst eo14
            try rw [e4_15] at hf
            refine va_aldq hx hb hK hP 1 3 rfl rfl hi13 dX5_sheet_28 ?_
            rw [e4_15]
            refine lv_renV (v := .ref qs1) rfl ?_
            refine lv_iconst (v := (-1)) hx hb dX5_sheet_29 rfl ?_
            refine lv_iconst (v := 0) hx hb dX5_sheet_30 rfl ?_
            obtain ⟨v16, h17, hf⟩ := ob1_e hf
            refine kcv (Wx := (oTM q0 qn0 qk0 qr0 qc0 qt0 qd0 qs0 qf0 qw0 rowCount anyKept (oSheets C qs0 qs1 qs2 qs3 qs4 qs5 qs6 qs7 qs8 (va_up sheets 0 v16) []))) (va_runV (As := [.int (-1), .int 0]) (rest := []) ⟨hx, hb, hml, hown, hts⟩ (c_X2_become l E D C qs1 qs2 H.size N (sheets 0) (-1) 0 v16 h17) (cwV 2 hts gX5_sheet_X2_become rfl rfl rfl hdX2_become ⟨Nat.le_of_ble_eq_true rfl, Nat.le_of_ble_eq_true rfl⟩) (kpreV hP hD hK hS hE hA [2, 3] rfl rfl 2 rfl rfl rfl) rfl rfl hl.1 rfl (lv_room (Nat.le_of_ble_eq_true rfl)) dX5_sheet_31 ⟨Nat.zero_le _, Nat.zero_le _⟩) hP hD hS hA [2, 3] rfl rfl rfl (fun H locs hP hD hS => ?_)
            refine lv_iconst (v := 1) hx hb dX5_sheet_34 rfl ?_
            cases hf
            exact kri hQ hAe hx hb hr hlocks hP hD hK hS dX5_sheet_35
          · rw [e4_15] at eo14
            subst eo14
            try rw [e4_15] at hf
            refine va_aldq hx hb hK hP 1 3 rfl rfl hi13 dX5_sheet_28 ?_
            rw [e4_15]
            refine lv_renV (v := .ref qs3) rfl ?_
            refine lv_iconst (v := (-1)) hx hb dX5_sheet_29 rfl ?_
            refine lv_iconst (v := 0) hx hb dX5_sheet_30 rfl ?_
            obtain ⟨v16, h17, hf⟩ := ob1_e hf
            refine kcv (Wx := (oTM q0 qn0 qk0 qr0 qc0 qt0 qd0 qs0 qf0 qw0 rowCount anyKept (oSheets C qs0 qs1 qs2 qs3 qs4 qs5 qs6 qs7 qs8 (va_up sheets 1 v16) []))) (va_runV (As := [.int (-1), .int 0]) (rest := []) ⟨hx, hb, hml, hown, hts⟩ (c_X2_become l E D C qs3 qs4 H.size N (sheets 1) (-1) 0 v16 h17) (cwV 2 hts gX5_sheet_X2_become rfl rfl rfl hdX2_become ⟨Nat.le_of_ble_eq_true rfl, Nat.le_of_ble_eq_true rfl⟩) (kpreV hP hD hK hS hE hA [4, 5] rfl rfl 4 rfl rfl rfl) rfl rfl hl.1 rfl (lv_room (Nat.le_of_ble_eq_true rfl)) dX5_sheet_31 ⟨Nat.zero_le _, Nat.zero_le _⟩) hP hD hS hA [4, 5] rfl rfl rfl (fun H locs hP hD hS => ?_)
            refine lv_iconst (v := 1) hx hb dX5_sheet_34 rfl ?_
            cases hf
            exact kri hQ hAe hx hb hr hlocks hP hD hK hS dX5_sheet_35
          · rw [e4_15] at eo14
            subst eo14
            try rw [e4_15] at hf
            refine va_aldq hx hb hK hP 1 3 rfl rfl hi13 dX5_sheet_28 ?_
            rw [e4_15]
            refine lv_renV (v := .ref qs5) rfl ?_
            refine lv_iconst (v := (-1)) hx hb dX5_sheet_29 rfl ?_
            refine lv_iconst (v := 0) hx hb dX5_sheet_30 rfl ?_
            obtain ⟨v16, h17, hf⟩ := ob1_e hf
            refine kcv (Wx := (oTM q0 qn0 qk0 qr0 qc0 qt0 qd0 qs0 qf0 qw0 rowCount anyKept (oSheets C qs0 qs1 qs2 qs3 qs4 qs5 qs6 qs7 qs8 (va_up sheets 2 v16) []))) (va_runV (As := [.int (-1), .int 0]) (rest := []) ⟨hx, hb, hml, hown, hts⟩ (c_X2_become l E D C qs5 qs6 H.size N (sheets 2) (-1) 0 v16 h17) (cwV 2 hts gX5_sheet_X2_become rfl rfl rfl hdX2_become ⟨Nat.le_of_ble_eq_true rfl, Nat.le_of_ble_eq_true rfl⟩) (kpreV hP hD hK hS hE hA [6, 7] rfl rfl 6 rfl rfl rfl) rfl rfl hl.1 rfl (lv_room (Nat.le_of_ble_eq_true rfl)) dX5_sheet_31 ⟨Nat.zero_le _, Nat.zero_le _⟩) hP hD hS hA [6, 7] rfl rfl rfl (fun H locs hP hD hS => ?_)
            refine lv_iconst (v := 1) hx hb dX5_sheet_34 rfl ?_
            cases hf
            exact kri hQ hAe hx hb hr hlocks hP hD hK hS dX5_sheet_35
          · rw [e4_15] at eo14
            subst eo14
            try rw [e4_15] at hf
            refine va_aldq hx hb hK hP 1 3 rfl rfl hi13 dX5_sheet_28 ?_
            rw [e4_15]
            refine lv_renV (v := .ref qs7) rfl ?_
            refine lv_iconst (v := (-1)) hx hb dX5_sheet_29 rfl ?_
            refine lv_iconst (v := 0) hx hb dX5_sheet_30 rfl ?_
            obtain ⟨v16, h17, hf⟩ := ob1_e hf
            refine kcv (Wx := (oTM q0 qn0 qk0 qr0 qc0 qt0 qd0 qs0 qf0 qw0 rowCount anyKept (oSheets C qs0 qs1 qs2 qs3 qs4 qs5 qs6 qs7 qs8 (va_up sheets 3 v16) []))) (va_runV (As := [.int (-1), .int 0]) (rest := []) ⟨hx, hb, hml, hown, hts⟩ (c_X2_become l E D C qs7 qs8 H.size N (sheets 3) (-1) 0 v16 h17) (cwV 2 hts gX5_sheet_X2_become rfl rfl rfl hdX2_become ⟨Nat.le_of_ble_eq_true rfl, Nat.le_of_ble_eq_true rfl⟩) (kpreV hP hD hK hS hE hA [8, 9] rfl rfl 8 rfl rfl rfl) rfl rfl hl.1 rfl (lv_room (Nat.le_of_ble_eq_true rfl)) dX5_sheet_31 ⟨Nat.zero_le _, Nat.zero_le _⟩) hP hD hS hA [8, 9] rfl rfl rfl (fun H locs hP hD hS => ?_)
            refine lv_iconst (v := 1) hx hb dX5_sheet_34 rfl ?_
            cases hf
            exact kri hQ hAe hx hb hr hlocks hP hD hK hS dX5_sheet_35
      · replace hf := if_te c4 hf
        refine lv_iconst (v := (-1)) hx hb dX5_sheet_16 rfl ?_
        cases hf
        exact kri hQ hAe hx hb hr hlocks hP hD hK hS dX5_sheet_17
  exact main _ _ hP hD hS

def rmX5_put : Room := { frames := 2, cells := 0, slots := 0, locals := 42 }
theorem hdX5_put : yX5_put.cls = RX5 ∧ yX5_put.cls ≠ "java/lang/invoke/MethodHandle" ∧ yX5_put.cls ≠ "java/lang/invoke/VarHandle" ∧ (parseMethodDescriptor yX5_put.desc).map (fun d => d.parameters.length) = some 3 := by decide +kernel
set_option maxHeartbeats 40000000 in
set_option maxRecDepth 100000 in
theorem c_X5_put (l : Launch) (E : Nat → Nat) (D : va_G) (C : Nat → ClassId) (q0 qn0 qk0 qr0 qc0 qt0 qd0 qs0 qf0 qw0 qs1 qs2 qs3 qs4 qs5 qs6 qs7 qs8 : Nat) (sz : Nat) (rowCount : Int32) (anyKept : Int32) (sheets : Nat → HV) (x0 : Int32) (x1 : Int32) (x2 : Int32) (r : Int32) (sheets' : Nat → HV) (hf : f_X5_put sheets x0 x1 x2 = some (r, sheets')) : Met l yX5_put wsX5_put rmX5_put (PC E D C [.ref q0, .int x0, .int x1, .int x2] (oTM q0 qn0 qk0 qr0 qc0 qt0 qd0 qs0 qf0 qw0 rowCount anyKept (oSheets C qs0 qs1 qs2 qs3 qs4 qs5 qs6 qs7 qs8 sheets [])) sz) (QI D C (oTM q0 qn0 qk0 qr0 qc0 qt0 qd0 qs0 qf0 qw0 rowCount anyKept (oSheets C qs0 qs1 qs2 qs3 qs4 qs5 qs6 qs7 qs8 sheets [])) (oTM q0 qn0 qk0 qr0 qc0 qt0 qd0 qs0 qf0 qw0 rowCount anyKept (oSheets C qs0 qs1 qs2 qs3 qs4 qs5 qs6 qs7 qs8 (sheets') [])) sz r) 0 0 (va_A (oTM q0 qn0 qk0 qr0 qc0 qt0 qd0 qs0 qf0 qw0 rowCount anyKept (oSheets C qs0 qs1 qs2 qs3 qs4 qs5 qs6 qs7 qs8 sheets [])) sz) := by
  refine Met.ofW (cc := cX5_put) (maxL := 5) (ret := (some .int)) (by decide) rfl ?_
  intro p e s m args below meth c s₁ B hml hv
  obtain ⟨rfl, hsz, hP, hK, hD0, hE⟩ := hv
  have hx := B.exec
  have hb := B.bytes
  have hr := B.returns
  have hts := atoms_spec (ws := wsX5_put) B.pre
  have hown : s.vm.findClass RX5 = some m.cls := findClass_of_methodNamed B.named
  have hlocks := B.notSynchronized
  subst hsz
  have hi_RX2 : ∀ w ∈ wsX20, w ∈ wsX5_put := fun _ h => List.mem_cons_of_mem _ (List.mem_append_right _ h)
  have hi_RX5 : ∀ w ∈ wsX50, w ∈ wsX5_put := fun _ h => List.mem_cons_of_mem _ (List.mem_append_left _ (List.mem_append_right _ h))
  have hD := hD0.self (sz := s.heap.size)
  obtain ⟨A, hAe⟩ := nm_ex (va_A (oTM q0 qn0 qk0 qr0 qc0 qt0 qd0 qs0 qf0 qw0 rowCount anyKept (oSheets C qs0 qs1 qs2 qs3 qs4 qs5 qs6 qs7 qs8 sheets [])) s.heap.size)
  rw [← hAe] at hD hE ⊢
  have hA : ∀ q : Nat, s.heap.size ≤ q → A q := fun q h => by rw [hAe]; exact Or.inr h
  have hS : va_S A s.heap s.heap [] := va_S.rf
  have hl := lv_entry ([.ref q0, .int x0, .int x1, .int x2]) (n := 5) (Nat.le_of_ble_eq_true rfl)
  rw [lg_entry_eq]
  generalize (lg_sl ([.ref q0, .int x0, .int x1, .int x2]) ++ List.replicate (5 - (lg_sl ([.ref q0, .int x0, .int x1, .int x2])).length) Slot.unset).toArray = ls at hl ⊢
  have hl : lv_has ls 5 [(0, .ref q0), (1, .int x0), (2, .int x1), (3, .int x2)] := hl
  obtain ⟨Q, hQ⟩ := nm_ex (MQ below (QI D C (oTM q0 qn0 qk0 qr0 qc0 qt0 qd0 qs0 qf0 qw0 rowCount anyKept (oSheets C qs0 qs1 qs2 qs3 qs4 qs5 qs6 qs7 qs8 sheets [])) (oTM q0 qn0 qk0 qr0 qc0 qt0 qd0 qs0 qf0 qw0 rowCount anyKept (oSheets C qs0 qs1 qs2 qs3 qs4 qs5 qs6 qs7 qs8 (sheets') [])) s.heap.size r) (List.toArray [Value.ref q0, Value.int x0, Value.int x1, Value.int x2]) s 0 0 A)
  show W p l e (headSpec wsX5_put (rmX5_put)).room s m (List.toArray [Value.ref q0, Value.int x0, Value.int x1, Value.int x2]) below meth c s.heap [] 0 0 (MQ below (QI D C (oTM q0 qn0 qk0 qr0 qc0 qt0 qd0 qs0 qf0 qw0 rowCount anyKept (oSheets C qs0 qs1 qs2 qs3 qs4 qs5 qs6 qs7 qs8 sheets [])) (oTM q0 qn0 qk0 qr0 qc0 qt0 qd0 qs0 qf0 qw0 rowCount anyKept (oSheets C qs0 qs1 qs2 qs3 qs4 qs5 qs6 qs7 qs8 (sheets') [])) s.heap.size r) (List.toArray [Value.ref q0, Value.int x0, Value.int x1, Value.int x2]) s 0 0 A) _
  rw [← hQ]
  unfold f_X5_put at hf
  have main : ∀ (H : Heap) (locs : List Loc), va_P D vwCl (oTM q0 qn0 qk0 qr0 qc0 qt0 qd0 qs0 qf0 qw0 rowCount anyKept (oSheets C qs0 qs1 qs2 qs3 qs4 qs5 qs6 qs7 qs8 sheets [])) H → va_D A (oTM q0 qn0 qk0 qr0 qc0 qt0 qd0 qs0 qf0 qw0 rowCount anyKept (oSheets C qs0 qs1 qs2 qs3 qs4 qs5 qs6 qs7 qs8 sheets [])) → va_S A s.heap H locs → W p l e (headSpec wsX5_put (rmX5_put)).room s m (List.toArray [Value.ref q0, Value.int x0, Value.int x1, Value.int x2]) below meth c H locs 0 0 Q (F0 m 0 ls []) := by
    intro H locs hP hD hS
    refine lv_iload_n hx hb dX5_put_0 rfl (lv_at hl 1 rfl) ?_
    refine kcz (Wx := (oTM q0 qn0 qk0 qr0 qc0 qt0 qd0 qs0 qf0 qw0 rowCount anyKept (oSheets C qs0 qs1 qs2 qs3 qs4 qs5 qs6 qs7 qs8 sheets []))) (va_runS (As := [.int x0]) (rest := []) ⟨hx, hb, hml, hown, hts⟩ (c_X5_isSheet l E D C H.size x0 _ rfl) (va_cwS 1 hts gX5_put_X5_isSheet rfl rfl rfl hdX5_isSheet ⟨Nat.le_of_ble_eq_true rfl, Nat.le_of_ble_eq_true rfl⟩) (kpre hP hD hK hS hE hA [] rfl rfl) rfl rfl hl.1 rfl (lv_room (Nat.le_of_ble_eq_true rfl)) dX5_put_1 ⟨Nat.zero_le _, Nat.zero_le _⟩) hP hD hS hA [] rfl rfl rfl (fun H locs hz1 hP hD hS => ?_)
    refine lv_if_ne (tgt := 9) hx hb dX5_put_4 (by decide) (fun c2 => ?_) (fun c2 => ?_)
    · replace hf := if_fe c2 hf
      refine lv_aload_n hx hb dX5_put_9 rfl (lv_at hl 0 rfl) ?_
      refine va_get (D := D) (ci := 5) (v := .ref qs0) (C := RX5) (T := TX5) (N := 11) hx hb hts hi_RX5 hown hK hP 0 rfl rfl 6 (by decide) (hts (.fieldLink RX5 41 "TravelMarks" "sheets" "[LTravelMarks$Sheet;") (List.mem_of_getElem? (i := 1) rfl)) (fun _ h9 => h9) rfl dX5_put_10 ?_
      refine lv_iload_n hx hb dX5_put_13 rfl (lv_at hl 1 rfl) ?_
      obtain ⟨hi3, hf⟩ := ckA_e hf
      obtain ⟨o4, eo4, hf⟩ := lj_e hf
      rcases four hi3 with e4_5 | e4_5 | e4_5 | e4_5
      · rw [e4_5] at eo4
        subst eo4
        try rw [e4_5] at hf
        refine va_aldq hx hb hK hP 1 3 rfl rfl hi3 dX5_put_14 ?_
        rw [e4_5]
        refine lv_renV (v := .ref qs1) rfl ?_
        refine lv_astore (lv' := [(4, .ref qs1), (0, .ref q0), (1, .int x0), (2, .int x1), (3, .int x2)]) hx hb dX5_put_15 hl (by decide) rfl (fun ls hl => ?_)
        refine lv_aload hx hb dX5_put_17 (lv_at hl 0 rfl) ?_
        refine va_get (D := D) (ci := 2) (v := .int (shSort (sheets 0))) (C := RX2) (T := TX2) (N := 3) hx hb hts hi_RX2 hown hK hP 2 rfl rfl 1 (by decide) (hts (.fieldLink RX5 212 "TravelMarks$Sheet" "sort" "I") (List.mem_of_getElem? (i := 2) rfl)) (fun _ h9 => h9) rfl dX5_put_19 ?_
        refine lv_iconst (v := (-1)) hx hb dX5_put_22 rfl ?_
        refine lv_icmp_ne (tgt := 29) hx hb dX5_put_23 (by decide) (fun c6 => ?_) (fun c6 => ?_)
        · replace hf := if_fe c6 hf
          refine lv_iload_n hx hb dX5_put_29 rfl (lv_at hl 3 rfl) ?_
          refine lv_iconst (v := 0) hx hb dX5_put_30 rfl ?_
          refine lv_aload hx hb dX5_put_31 (lv_at hl 0 rfl) ?_
          refine va_get (D := D) (ci := 2) (v := .int (shSize (sheets 0))) (C := RX2) (T := TX2) (N := 3) hx hb hts hi_RX2 hown hK hP 2 rfl rfl 2 (by decide) (hts (.fieldLink RX5 219 "TravelMarks$Sheet" "size" "I") (List.mem_of_getElem? (i := 3) rfl)) (fun _ h9 => h9) rfl dX5_put_33 ?_
          refine lv_iconst (v := 1) hx hb dX5_put_36 rfl ?_
          refine lv_isub hx hb dX5_put_37 ?_
          refine kcz (Wx := (oTM q0 qn0 qk0 qr0 qc0 qt0 qd0 qs0 qf0 qw0 rowCount anyKept (oSheets C qs0 qs1 qs2 qs3 qs4 qs5 qs6 qs7 qs8 sheets []))) (va_runS (As := [.int x1, .int 0, .int ((shSize (sheets 0)) - 1)]) (rest := []) ⟨hx, hb, hml, hown, hts⟩ (c_X5_within l E D C H.size x1 0 ((shSize (sheets 0)) - 1) _ rfl) (va_cwS 3 hts gX5_put_X5_within rfl rfl rfl hdX5_within ⟨Nat.le_of_ble_eq_true rfl, Nat.le_of_ble_eq_true rfl⟩) (kpre hP hD hK hS hE hA [] rfl rfl) rfl rfl hl.1 rfl (lv_room (Nat.le_of_ble_eq_true rfl)) dX5_put_38 ⟨Nat.zero_le _, Nat.zero_le _⟩) hP hD hS hA [] rfl rfl rfl (fun H locs hz7 hP hD hS => ?_)
          refine lv_if_ne (tgt := 47) hx hb dX5_put_41 (by decide) (fun c8 => ?_) (fun c8 => ?_)
          · replace hf := if_fe c8 hf
            refine lv_aload hx hb dX5_put_47 (lv_at hl 0 rfl) ?_
            refine va_get (D := D) (ci := 2) (v := .ref qs2) (C := RX2) (T := TX2) (N := 3) hx hb hts hi_RX2 hown hK hP 2 rfl rfl 0 (by decide) (hts (.fieldLink RX5 222 "TravelMarks$Sheet" "items" "[J") (List.mem_of_getElem? (i := 4) rfl)) (fun _ h9 => h9) rfl dX5_put_49 ?_
            refine lv_iload_n hx hb dX5_put_52 rfl (lv_at hl 3 rfl) ?_
            refine lv_aload hx hb dX5_put_53 (lv_at hl 0 rfl) ?_
            refine lv_iload_n hx hb dX5_put_55 rfl (lv_at hl 4 rfl) ?_
            refine kcl (Wx := (oTM q0 qn0 qk0 qr0 qc0 qt0 qd0 qs0 qf0 qw0 rowCount anyKept (oSheets C qs0 qs1 qs2 qs3 qs4 qs5 qs6 qs7 qs8 sheets []))) (va_runV (As := [.int x2]) (rest := [.int x1, .ref qs2]) ⟨hx, hb, hml, hown, hts⟩ (c_X2_narrowed l E D C qs1 qs2 H.size (sheets 0) x2 _ rfl) (cwV 1 hts gX5_put_X2_narrowed rfl rfl rfl hdX2_narrowed ⟨Nat.le_of_ble_eq_true rfl, Nat.le_of_ble_eq_true rfl⟩) (kpreV hP hD hK hS hE hA [2, 3] rfl rfl 2 rfl rfl rfl) rfl rfl hl.1 rfl (lv_room (Nat.le_of_ble_eq_true rfl)) dX5_put_56 ⟨Nat.zero_le _, Nat.zero_le _⟩) hP hD hS hA [2, 3] rfl rfl rfl (fun H locs hP hD hS => ?_)
            obtain ⟨t9, et9, hf⟩ := lj_e hf
            refine lv_renL et9 ?_
            obtain ⟨hi10, hf⟩ := ckA_e hf
            refine va_last hx hb hK hP hD hS 3 2 rfl rfl hi10 dX5_put_59 (fun H locs hP hD hS => ?_)
            have hP : va_P D vwCl (oTM q0 qn0 qk0 qr0 qc0 qt0 qd0 qs0 qf0 qw0 rowCount anyKept (oSheets C qs0 qs1 qs2 qs3 qs4 qs5 qs6 qs7 qs8 (va_up sheets 0 (shSetItems (sheets 0) (vp_updL (shItems (sheets 0)) (Int32.toNatClampNeg x1) t9))) [])) H := hP
            have hD : va_D A (oTM q0 qn0 qk0 qr0 qc0 qt0 qd0 qs0 qf0 qw0 rowCount anyKept (oSheets C qs0 qs1 qs2 qs3 qs4 qs5 qs6 qs7 qs8 (va_up sheets 0 (shSetItems (sheets 0) (vp_updL (shItems (sheets 0)) (Int32.toNatClampNeg x1) t9))) [])) := hD
            refine lv_iconst (v := 1) hx hb dX5_put_60 rfl ?_
            cases hf
            exact kri hQ hAe hx hb hr hlocks hP hD hK hS dX5_put_61
          · replace hf := if_te c8 hf
            refine lv_bipush (v := (-12)) hx hb dX5_put_44 rfl ?_
            cases hf
            exact kri hQ hAe hx hb hr hlocks hP hD hK hS dX5_put_46
        · replace hf := if_te c6 hf
          refine lv_bipush (v := (-11)) hx hb dX5_put_26 rfl ?_
          cases hf
          exact kri hQ hAe hx hb hr hlocks hP hD hK hS dX5_put_28
      · rw [e4_5] at eo4
        subst eo4
        try rw [e4_5] at hf
        refine va_aldq hx hb hK hP 1 3 rfl rfl hi3 dX5_put_14 ?_
        rw [e4_5]
        refine lv_renV (v := .ref qs3) rfl ?_
        refine lv_astore (lv' := [(4, .ref qs3), (0, .ref q0), (1, .int x0), (2, .int x1), (3, .int x2)]) hx hb dX5_put_15 hl (by decide) rfl (fun ls hl => ?_)
        refine lv_aload hx hb dX5_put_17 (lv_at hl 0 rfl) ?_
        refine va_get (D := D) (ci := 2) (v := .int (shSort (sheets 1))) (C := RX2) (T := TX2) (N := 3) hx hb hts hi_RX2 hown hK hP 4 rfl rfl 1 (by decide) (hts (.fieldLink RX5 212 "TravelMarks$Sheet" "sort" "I") (List.mem_of_getElem? (i := 2) rfl)) (fun _ h9 => h9) rfl dX5_put_19 ?_
        refine lv_iconst (v := (-1)) hx hb dX5_put_22 rfl ?_
        refine lv_icmp_ne (tgt := 29) hx hb dX5_put_23 (by decide) (fun c6 => ?_) (fun c6 => ?_)
        · replace hf := if_fe c6 hf
          refine lv_iload_n hx hb dX5_put_29 rfl (lv_at hl 3 rfl) ?_
          refine lv_iconst (v := 0) hx hb dX5_put_30 rfl ?_
          refine lv_aload hx hb dX5_put_31 (lv_at hl 0 rfl) ?_
          refine va_get (D := D) (ci := 2) (v := .int (shSize (sheets 1))) (C := RX2) (T := TX2) (N := 3) hx hb hts hi_RX2 hown hK hP 4 rfl rfl 2 (by decide) (hts (.fieldLink RX5 219 "TravelMarks$Sheet" "size" "I") (List.mem_of_getElem? (i := 3) rfl)) (fun _ h9 => h9) rfl dX5_put_33 ?_
          refine lv_iconst (v := 1) hx hb dX5_put_36 rfl ?_
          refine lv_isub hx hb dX5_put_37 ?_
          refine kcz (Wx := (oTM q0 qn0 qk0 qr0 qc0 qt0 qd0 qs0 qf0 qw0 rowCount anyKept (oSheets C qs0 qs1 qs2 qs3 qs4 qs5 qs6 qs7 qs8 sheets []))) (va_runS (As := [.int x1, .int 0, .int ((shSize (sheets 1)) - 1)]) (rest := []) ⟨hx, hb, hml, hown, hts⟩ (c_X5_within l E D C H.size x1 0 ((shSize (sheets 1)) - 1) _ rfl) (va_cwS 3 hts gX5_put_X5_within rfl rfl rfl hdX5_within ⟨Nat.le_of_ble_eq_true rfl, Nat.le_of_ble_eq_true rfl⟩) (kpre hP hD hK hS hE hA [] rfl rfl) rfl rfl hl.1 rfl (lv_room (Nat.le_of_ble_eq_true rfl)) dX5_put_38 ⟨Nat.zero_le _, Nat.zero_le _⟩) hP hD hS hA [] rfl rfl rfl (fun H locs hz7 hP hD hS => ?_)
          refine lv_if_ne (tgt := 47) hx hb dX5_put_41 (by decide) (fun c8 => ?_) (fun c8 => ?_)
          · replace hf := if_fe c8 hf
            refine lv_aload hx hb dX5_put_47 (lv_at hl 0 rfl) ?_
            refine va_get (D := D) (ci := 2) (v := .ref qs4) (C := RX2) (T := TX2) (N := 3) hx hb hts hi_RX2 hown hK hP 4 rfl rfl 0 (by decide) (hts (.fieldLink RX5 222 "TravelMarks$Sheet" "items" "[J") (List.mem_of_getElem? (i := 4) rfl)) (fun _ h9 => h9) rfl dX5_put_49 ?_
            refine lv_iload_n hx hb dX5_put_52 rfl (lv_at hl 3 rfl) ?_
            refine lv_aload hx hb dX5_put_53 (lv_at hl 0 rfl) ?_
            refine lv_iload_n hx hb dX5_put_55 rfl (lv_at hl 4 rfl) ?_
            refine kcl (Wx := (oTM q0 qn0 qk0 qr0 qc0 qt0 qd0 qs0 qf0 qw0 rowCount anyKept (oSheets C qs0 qs1 qs2 qs3 qs4 qs5 qs6 qs7 qs8 sheets []))) (va_runV (As := [.int x2]) (rest := [.int x1, .ref qs4]) ⟨hx, hb, hml, hown, hts⟩ (c_X2_narrowed l E D C qs3 qs4 H.size (sheets 1) x2 _ rfl) (cwV 1 hts gX5_put_X2_narrowed rfl rfl rfl hdX2_narrowed ⟨Nat.le_of_ble_eq_true rfl, Nat.le_of_ble_eq_true rfl⟩) (kpreV hP hD hK hS hE hA [4, 5] rfl rfl 4 rfl rfl rfl) rfl rfl hl.1 rfl (lv_room (Nat.le_of_ble_eq_true rfl)) dX5_put_56 ⟨Nat.zero_le _, Nat.zero_le _⟩) hP hD hS hA [4, 5] rfl rfl rfl (fun H locs hP hD hS => ?_)
            obtain ⟨t9, et9, hf⟩ := lj_e hf
            refine lv_renL et9 ?_
            obtain ⟨hi10, hf⟩ := ckA_e hf
            refine va_last hx hb hK hP hD hS 5 2 rfl rfl hi10 dX5_put_59 (fun H locs hP hD hS => ?_)
            have hP : va_P D vwCl (oTM q0 qn0 qk0 qr0 qc0 qt0 qd0 qs0 qf0 qw0 rowCount anyKept (oSheets C qs0 qs1 qs2 qs3 qs4 qs5 qs6 qs7 qs8 (va_up sheets 1 (shSetItems (sheets 1) (vp_updL (shItems (sheets 1)) (Int32.toNatClampNeg x1) t9))) [])) H := hP
            have hD : va_D A (oTM q0 qn0 qk0 qr0 qc0 qt0 qd0 qs0 qf0 qw0 rowCount anyKept (oSheets C qs0 qs1 qs2 qs3 qs4 qs5 qs6 qs7 qs8 (va_up sheets 1 (shSetItems (sheets 1) (vp_updL (shItems (sheets 1)) (Int32.toNatClampNeg x1) t9))) [])) := hD
            refine lv_iconst (v := 1) hx hb dX5_put_60 rfl ?_
            cases hf
            exact kri hQ hAe hx hb hr hlocks hP hD hK hS dX5_put_61
          · replace hf := if_te c8 hf
            refine lv_bipush (v := (-12)) hx hb dX5_put_44 rfl ?_
            cases hf
            exact kri hQ hAe hx hb hr hlocks hP hD hK hS dX5_put_46
        · replace hf := if_te c6 hf
          refine lv_bipush (v := (-11)) hx hb dX5_put_26 rfl ?_
          cases hf
          exact kri hQ hAe hx hb hr hlocks hP hD hK hS dX5_put_28
      · rw [e4_5] at eo4
        subst eo4
        try rw [e4_5] at hf
        refine va_aldq hx hb hK hP 1 3 rfl rfl hi3 dX5_put_14 ?_
        rw [e4_5]
        refine lv_renV (v := .ref qs5) rfl ?_
        refine lv_astore (lv' := [(4, .ref qs5), (0, .ref q0), (1, .int x0), (2, .int x1), (3, .int x2)]) hx hb dX5_put_15 hl (by decide) rfl (fun ls hl => ?_)
        refine lv_aload hx hb dX5_put_17 (lv_at hl 0 rfl) ?_
        refine va_get (D := D) (ci := 2) (v := .int (shSort (sheets 2))) (C := RX2) (T := TX2) (N := 3) hx hb hts hi_RX2 hown hK hP 6 rfl rfl 1 (by decide) (hts (.fieldLink RX5 212 "TravelMarks$Sheet" "sort" "I") (List.mem_of_getElem? (i := 2) rfl)) (fun _ h9 => h9) rfl dX5_put_19 ?_
        refine lv_iconst (v := (-1)) hx hb dX5_put_22 rfl ?_
        refine lv_icmp_ne (tgt := 29) hx hb dX5_put_23 (by decide) (fun c6 => ?_) (fun c6 => ?_)
        · replace hf := if_fe c6 hf
          refine lv_iload_n hx hb dX5_put_29 rfl (lv_at hl 3 rfl) ?_
          refine lv_iconst (v := 0) hx hb dX5_put_30 rfl ?_
          refine lv_aload hx hb dX5_put_31 (lv_at hl 0 rfl) ?_
          refine va_get (D := D) (ci := 2) (v := .int (shSize (sheets 2))) (C := RX2) (T := TX2) (N := 3) hx hb hts hi_RX2 hown hK hP 6 rfl rfl 2 (by decide) (hts (.fieldLink RX5 219 "TravelMarks$Sheet" "size" "I") (List.mem_of_getElem? (i := 3) rfl)) (fun _ h9 => h9) rfl dX5_put_33 ?_
          refine lv_iconst (v := 1) hx hb dX5_put_36 rfl ?_
          refine lv_isub hx hb dX5_put_37 ?_
          refine kcz (Wx := (oTM q0 qn0 qk0 qr0 qc0 qt0 qd0 qs0 qf0 qw0 rowCount anyKept (oSheets C qs0 qs1 qs2 qs3 qs4 qs5 qs6 qs7 qs8 sheets []))) (va_runS (As := [.int x1, .int 0, .int ((shSize (sheets 2)) - 1)]) (rest := []) ⟨hx, hb, hml, hown, hts⟩ (c_X5_within l E D C H.size x1 0 ((shSize (sheets 2)) - 1) _ rfl) (va_cwS 3 hts gX5_put_X5_within rfl rfl rfl hdX5_within ⟨Nat.le_of_ble_eq_true rfl, Nat.le_of_ble_eq_true rfl⟩) (kpre hP hD hK hS hE hA [] rfl rfl) rfl rfl hl.1 rfl (lv_room (Nat.le_of_ble_eq_true rfl)) dX5_put_38 ⟨Nat.zero_le _, Nat.zero_le _⟩) hP hD hS hA [] rfl rfl rfl (fun H locs hz7 hP hD hS => ?_)
          refine lv_if_ne (tgt := 47) hx hb dX5_put_41 (by decide) (fun c8 => ?_) (fun c8 => ?_)
          · replace hf := if_fe c8 hf
            refine lv_aload hx hb dX5_put_47 (lv_at hl 0 rfl) ?_
            refine va_get (D := D) (ci := 2) (v := .ref qs6) (C := RX2) (T := TX2) (N := 3) hx hb hts hi_RX2 hown hK hP 6 rfl rfl 0 (by decide) (hts (.fieldLink RX5 222 "TravelMarks$Sheet" "items" "[J") (List.mem_of_getElem? (i := 4) rfl)) (fun _ h9 => h9) rfl dX5_put_49 ?_
            refine lv_iload_n hx hb dX5_put_52 rfl (lv_at hl 3 rfl) ?_
            refine lv_aload hx hb dX5_put_53 (lv_at hl 0 rfl) ?_
            refine lv_iload_n hx hb dX5_put_55 rfl (lv_at hl 4 rfl) ?_
            refine kcl (Wx := (oTM q0 qn0 qk0 qr0 qc0 qt0 qd0 qs0 qf0 qw0 rowCount anyKept (oSheets C qs0 qs1 qs2 qs3 qs4 qs5 qs6 qs7 qs8 sheets []))) (va_runV (As := [.int x2]) (rest := [.int x1, .ref qs6]) ⟨hx, hb, hml, hown, hts⟩ (c_X2_narrowed l E D C qs5 qs6 H.size (sheets 2) x2 _ rfl) (cwV 1 hts gX5_put_X2_narrowed rfl rfl rfl hdX2_narrowed ⟨Nat.le_of_ble_eq_true rfl, Nat.le_of_ble_eq_true rfl⟩) (kpreV hP hD hK hS hE hA [6, 7] rfl rfl 6 rfl rfl rfl) rfl rfl hl.1 rfl (lv_room (Nat.le_of_ble_eq_true rfl)) dX5_put_56 ⟨Nat.zero_le _, Nat.zero_le _⟩) hP hD hS hA [6, 7] rfl rfl rfl (fun H locs hP hD hS => ?_)
            obtain ⟨t9, et9, hf⟩ := lj_e hf
            refine lv_renL et9 ?_
            obtain ⟨hi10, hf⟩ := ckA_e hf
            refine va_last hx hb hK hP hD hS 7 2 rfl rfl hi10 dX5_put_59 (fun H locs hP hD hS => ?_)
            have hP : va_P D vwCl (oTM q0 qn0 qk0 qr0 qc0 qt0 qd0 qs0 qf0 qw0 rowCount anyKept (oSheets C qs0 qs1 qs2 qs3 qs4 qs5 qs6 qs7 qs8 (va_up sheets 2 (shSetItems (sheets 2) (vp_updL (shItems (sheets 2)) (Int32.toNatClampNeg x1) t9))) [])) H := hP
            have hD : va_D A (oTM q0 qn0 qk0 qr0 qc0 qt0 qd0 qs0 qf0 qw0 rowCount anyKept (oSheets C qs0 qs1 qs2 qs3 qs4 qs5 qs6 qs7 qs8 (va_up sheets 2 (shSetItems (sheets 2) (vp_updL (shItems (sheets 2)) (Int32.toNatClampNeg x1) t9))) [])) := hD
            refine lv_iconst (v := 1) hx hb dX5_put_60 rfl ?_
            cases hf
            exact kri hQ hAe hx hb hr hlocks hP hD hK hS dX5_put_61
          · replace hf := if_te c8 hf
            refine lv_bipush (v := (-12)) hx hb dX5_put_44 rfl ?_
            cases hf
            exact kri hQ hAe hx hb hr hlocks hP hD hK hS dX5_put_46
        · replace hf := if_te c6 hf
          refine lv_bipush (v := (-11)) hx hb dX5_put_26 rfl ?_
          cases hf
          exact kri hQ hAe hx hb hr hlocks hP hD hK hS dX5_put_28
      · rw [e4_5] at eo4
        subst eo4
        try rw [e4_5] at hf
        refine va_aldq hx hb hK hP 1 3 rfl rfl hi3 dX5_put_14 ?_
        rw [e4_5]
        refine lv_renV (v := .ref qs7) rfl ?_
        refine lv_astore (lv' := [(4, .ref qs7), (0, .ref q0), (1, .int x0), (2, .int x1), (3, .int x2)]) hx hb dX5_put_15 hl (by decide) rfl (fun ls hl => ?_)
        refine lv_aload hx hb dX5_put_17 (lv_at hl 0 rfl) ?_
        refine va_get (D := D) (ci := 2) (v := .int (shSort (sheets 3))) (C := RX2) (T := TX2) (N := 3) hx hb hts hi_RX2 hown hK hP 8 rfl rfl 1 (by decide) (hts (.fieldLink RX5 212 "TravelMarks$Sheet" "sort" "I") (List.mem_of_getElem? (i := 2) rfl)) (fun _ h9 => h9) rfl dX5_put_19 ?_
        refine lv_iconst (v := (-1)) hx hb dX5_put_22 rfl ?_
        refine lv_icmp_ne (tgt := 29) hx hb dX5_put_23 (by decide) (fun c6 => ?_) (fun c6 => ?_)
        · replace hf := if_fe c6 hf
          refine lv_iload_n hx hb dX5_put_29 rfl (lv_at hl 3 rfl) ?_
          refine lv_iconst (v := 0) hx hb dX5_put_30 rfl ?_
          refine lv_aload hx hb dX5_put_31 (lv_at hl 0 rfl) ?_
          refine va_get (D := D) (ci := 2) (v := .int (shSize (sheets 3))) (C := RX2) (T := TX2) (N := 3) hx hb hts hi_RX2 hown hK hP 8 rfl rfl 2 (by decide) (hts (.fieldLink RX5 219 "TravelMarks$Sheet" "size" "I") (List.mem_of_getElem? (i := 3) rfl)) (fun _ h9 => h9) rfl dX5_put_33 ?_
          refine lv_iconst (v := 1) hx hb dX5_put_36 rfl ?_
          refine lv_isub hx hb dX5_put_37 ?_
          refine kcz (Wx := (oTM q0 qn0 qk0 qr0 qc0 qt0 qd0 qs0 qf0 qw0 rowCount anyKept (oSheets C qs0 qs1 qs2 qs3 qs4 qs5 qs6 qs7 qs8 sheets []))) (va_runS (As := [.int x1, .int 0, .int ((shSize (sheets 3)) - 1)]) (rest := []) ⟨hx, hb, hml, hown, hts⟩ (c_X5_within l E D C H.size x1 0 ((shSize (sheets 3)) - 1) _ rfl) (va_cwS 3 hts gX5_put_X5_within rfl rfl rfl hdX5_within ⟨Nat.le_of_ble_eq_true rfl, Nat.le_of_ble_eq_true rfl⟩) (kpre hP hD hK hS hE hA [] rfl rfl) rfl rfl hl.1 rfl (lv_room (Nat.le_of_ble_eq_true rfl)) dX5_put_38 ⟨Nat.zero_le _, Nat.zero_le _⟩) hP hD hS hA [] rfl rfl rfl (fun H locs hz7 hP hD hS => ?_)
          refine lv_if_ne (tgt := 47) hx hb dX5_put_41 (by decide) (fun c8 => ?_) (fun c8 => ?_)
          · replace hf := if_fe c8 hf
            refine lv_aload hx hb dX5_put_47 (lv_at hl 0 rfl) ?_
            refine va_get (D := D) (ci := 2) (v := .ref qs8) (C := RX2) (T := TX2) (N := 3) hx hb hts hi_RX2 hown hK hP 8 rfl rfl 0 (by decide) (hts (.fieldLink RX5 222 "TravelMarks$Sheet" "items" "[J") (List.mem_of_getElem? (i := 4) rfl)) (fun _ h9 => h9) rfl dX5_put_49 ?_
            refine lv_iload_n hx hb dX5_put_52 rfl (lv_at hl 3 rfl) ?_
            refine lv_aload hx hb dX5_put_53 (lv_at hl 0 rfl) ?_
            refine lv_iload_n hx hb dX5_put_55 rfl (lv_at hl 4 rfl) ?_
            refine kcl (Wx := (oTM q0 qn0 qk0 qr0 qc0 qt0 qd0 qs0 qf0 qw0 rowCount anyKept (oSheets C qs0 qs1 qs2 qs3 qs4 qs5 qs6 qs7 qs8 sheets []))) (va_runV (As := [.int x2]) (rest := [.int x1, .ref qs8]) ⟨hx, hb, hml, hown, hts⟩ (c_X2_narrowed l E D C qs7 qs8 H.size (sheets 3) x2 _ rfl) (cwV 1 hts gX5_put_X2_narrowed rfl rfl rfl hdX2_narrowed ⟨Nat.le_of_ble_eq_true rfl, Nat.le_of_ble_eq_true rfl⟩) (kpreV hP hD hK hS hE hA [8, 9] rfl rfl 8 rfl rfl rfl) rfl rfl hl.1 rfl (lv_room (Nat.le_of_ble_eq_true rfl)) dX5_put_56 ⟨Nat.zero_le _, Nat.zero_le _⟩) hP hD hS hA [8, 9] rfl rfl rfl (fun H locs hP hD hS => ?_)
            obtain ⟨t9, et9, hf⟩ := lj_e hf
            refine lv_renL et9 ?_
            obtain ⟨hi10, hf⟩ := ckA_e hf
            refine va_last hx hb hK hP hD hS 9 2 rfl rfl hi10 dX5_put_59 (fun H locs hP hD hS => ?_)
            have hP : va_P D vwCl (oTM q0 qn0 qk0 qr0 qc0 qt0 qd0 qs0 qf0 qw0 rowCount anyKept (oSheets C qs0 qs1 qs2 qs3 qs4 qs5 qs6 qs7 qs8 (va_up sheets 3 (shSetItems (sheets 3) (vp_updL (shItems (sheets 3)) (Int32.toNatClampNeg x1) t9))) [])) H := hP
            have hD : va_D A (oTM q0 qn0 qk0 qr0 qc0 qt0 qd0 qs0 qf0 qw0 rowCount anyKept (oSheets C qs0 qs1 qs2 qs3 qs4 qs5 qs6 qs7 qs8 (va_up sheets 3 (shSetItems (sheets 3) (vp_updL (shItems (sheets 3)) (Int32.toNatClampNeg x1) t9))) [])) := hD
            refine lv_iconst (v := 1) hx hb dX5_put_60 rfl ?_
            cases hf
            exact kri hQ hAe hx hb hr hlocks hP hD hK hS dX5_put_61
          · replace hf := if_te c8 hf
            refine lv_bipush (v := (-12)) hx hb dX5_put_44 rfl ?_
            cases hf
            exact kri hQ hAe hx hb hr hlocks hP hD hK hS dX5_put_46
        · replace hf := if_te c6 hf
          refine lv_bipush (v := (-11)) hx hb dX5_put_26 rfl ?_
          cases hf
          exact kri hQ hAe hx hb hr hlocks hP hD hK hS dX5_put_28
    · replace hf := if_te c2 hf
      refine lv_iconst (v := (-1)) hx hb dX5_put_7 rfl ?_
      cases hf
      exact kri hQ hAe hx hb hr hlocks hP hD hK hS dX5_put_8
  exact main _ _ hP hD hS

