def rmX5_feed : Room := { frames := 1, cells := 0, slots := 0, locals := 24 }
theorem hdX5_feed : yX5_feed.cls = RX5 ∧ yX5_feed.cls ≠ "java/lang/invoke/MethodHandle" ∧ yX5_feed.cls ≠ "java/lang/invoke/VarHandle" ∧ (parseMethodDescriptor yX5_feed.desc).map (fun d => d.parameters.length) = some 2 := by decide +kernel
set_option maxHeartbeats 40000000 in
set_option maxRecDepth 100000 in
theorem c_X5_feed (l : Launch) (E : Nat → Nat) (D : va_G) (C : Nat → ClassId) (q0 qn0 qk0 qr0 qc0 qt0 qd0 qs0 qf0 qw0 qt1 : Nat) (sz : Nat) (N : Nat) (rowCount : Int32) (anyKept : Int32) (tape : TV) (x0 : Int64) (x1 : Int32) (r : Int32) (tape' : TV) (hf : f_X5_feed N tape x0 x1 = some (r, tape')) : Met l yX5_feed wsX5_feed rmX5_feed (PC E D C [.ref q0, .long x0, .int x1] (oTM q0 qn0 qk0 qr0 qc0 qt0 qd0 qs0 qf0 qw0 rowCount anyKept (oTape C qt0 qt1 tape [])) sz) (QI D C (oTM q0 qn0 qk0 qr0 qc0 qt0 qd0 qs0 qf0 qw0 rowCount anyKept (oTape C qt0 qt1 tape [])) (oTM q0 qn0 qk0 qr0 qc0 qt0 qd0 qs0 qf0 qw0 rowCount anyKept (oTape C qt0 qt1 (tape') [])) sz r) 0 0 (va_A (oTM q0 qn0 qk0 qr0 qc0 qt0 qd0 qs0 qf0 qw0 rowCount anyKept (oTape C qt0 qt1 tape [])) sz) := by
  refine Met.ofW (cc := cX5_feed) (maxL := 4) (ret := (some .int)) (by decide) rfl ?_
  intro p e s m args below meth c s₁ B hml hv
  obtain ⟨rfl, hsz, hP, hK, hD0, hE⟩ := hv
  have hx := B.exec
  have hb := B.bytes
  have hr := B.returns
  have hts := atoms_spec (ws := wsX5_feed) B.pre
  have hown : s.vm.findClass RX5 = some m.cls := findClass_of_methodNamed B.named
  have hlocks := B.notSynchronized
  subst hsz
  have hi_RX5 : ∀ w ∈ wsX50, w ∈ wsX5_feed := fun _ h => List.mem_cons_of_mem _ (List.mem_append_left _ (List.mem_append_right _ h))
  have hD := hD0.self (sz := s.heap.size)
  obtain ⟨A, hAe⟩ := nm_ex (va_A (oTM q0 qn0 qk0 qr0 qc0 qt0 qd0 qs0 qf0 qw0 rowCount anyKept (oTape C qt0 qt1 tape [])) s.heap.size)
  rw [← hAe] at hD hE ⊢
  have hA : ∀ q : Nat, s.heap.size ≤ q → A q := fun q h => by rw [hAe]; exact Or.inr h
  have hS : va_S A s.heap s.heap [] := va_S.rf
  have hl := lv_entry ([.ref q0, .long x0, .int x1]) (n := 4) (Nat.le_of_ble_eq_true rfl)
  rw [lg_entry_eq]
  generalize (lg_sl ([.ref q0, .long x0, .int x1]) ++ List.replicate (4 - (lg_sl ([.ref q0, .long x0, .int x1])).length) Slot.unset).toArray = ls at hl ⊢
  have hl : lv_has ls 4 [(0, .ref q0), (1, .long x0), (3, .int x1)] := hl
  obtain ⟨Q, hQ⟩ := nm_ex (MQ below (QI D C (oTM q0 qn0 qk0 qr0 qc0 qt0 qd0 qs0 qf0 qw0 rowCount anyKept (oTape C qt0 qt1 tape [])) (oTM q0 qn0 qk0 qr0 qc0 qt0 qd0 qs0 qf0 qw0 rowCount anyKept (oTape C qt0 qt1 (tape') [])) s.heap.size r) (List.toArray [Value.ref q0, Value.long x0, Value.int x1]) s 0 0 A)
  show W p l e (headSpec wsX5_feed (rmX5_feed)).room s m (List.toArray [Value.ref q0, Value.long x0, Value.int x1]) below meth c s.heap [] 0 0 (MQ below (QI D C (oTM q0 qn0 qk0 qr0 qc0 qt0 qd0 qs0 qf0 qw0 rowCount anyKept (oTape C qt0 qt1 tape [])) (oTM q0 qn0 qk0 qr0 qc0 qt0 qd0 qs0 qf0 qw0 rowCount anyKept (oTape C qt0 qt1 (tape') [])) s.heap.size r) (List.toArray [Value.ref q0, Value.long x0, Value.int x1]) s 0 0 A) _
  rw [← hQ]
  unfold f_X5_feed at hf
  have main : ∀ (H : Heap) (locs : List Loc), va_P D vwCl (oTM q0 qn0 qk0 qr0 qc0 qt0 qd0 qs0 qf0 qw0 rowCount anyKept (oTape C qt0 qt1 tape [])) H → va_D A (oTM q0 qn0 qk0 qr0 qc0 qt0 qd0 qs0 qf0 qw0 rowCount anyKept (oTape C qt0 qt1 tape [])) → va_S A s.heap H locs → W p l e (headSpec wsX5_feed (rmX5_feed)).room s m (List.toArray [Value.ref q0, Value.long x0, Value.int x1]) below meth c H locs 0 0 Q (F0 m 0 ls []) := by
    intro H locs hP hD hS
    refine lv_iload_n hx hb dX5_feed_0 rfl (lv_at hl 2 rfl) ?_
    refine lv_iconst (v := 1) hx hb dX5_feed_1 rfl ?_
    refine lv_bipush (v := 8) hx hb dX5_feed_2 rfl ?_
    refine kcz (Wx := (oTM q0 qn0 qk0 qr0 qc0 qt0 qd0 qs0 qf0 qw0 rowCount anyKept (oTape C qt0 qt1 tape []))) (va_runS (As := [.int x1, .int 1, .int 8]) (rest := []) ⟨hx, hb, hml, hown, hts⟩ (c_X5_within l E D C H.size x1 1 8 _ rfl) (va_cwS 3 hts gX5_feed_X5_within rfl rfl rfl hdX5_within ⟨Nat.le_of_ble_eq_true rfl, Nat.le_of_ble_eq_true rfl⟩) (kpre hP hD hK hS hE hA [] rfl rfl) rfl rfl hl.1 rfl (lv_room (Nat.le_of_ble_eq_true rfl)) dX5_feed_4 ⟨Nat.zero_le _, Nat.zero_le _⟩) hP hD hS hA [] rfl rfl rfl (fun H locs hz1 hP hD hS => ?_)
    refine lv_if_eq (tgt := 22) hx hb dX5_feed_7 (by decide) (fun c2 => ?_) (fun c2 => ?_)
    · replace hf := if_te c2 hf
      refine lv_iconst (v := (-1)) hx hb dX5_feed_22 rfl ?_
      cases hf
      exact kri hQ hAe hx hb hr hlocks hP hD hK hS dX5_feed_23
    · replace hf := if_fe c2 hf
      refine lv_aload_n hx hb dX5_feed_10 rfl (lv_at hl 0 rfl) ?_
      refine va_get (D := D) (ci := 5) (v := .ref qt0) (C := RX5) (T := TX5) (N := 11) hx hb hts hi_RX5 hown hK hP 0 rfl rfl 4 (by decide) (hts (.fieldLink RX5 28 "TravelMarks" "tape" "LTravelMarks$Tape;") (List.mem_of_getElem? (i := 1) rfl)) (fun _ h9 => h9) rfl dX5_feed_11 ?_
      refine lv_lload_n hx hb dX5_feed_14 rfl (lv_at hl 1 rfl) ?_
      refine lv_iload_n hx hb dX5_feed_15 rfl (lv_at hl 2 rfl) ?_
      obtain ⟨r3, v4, h5, hf⟩ := ob2_e hf
      refine kci (Wx := (oTM q0 qn0 qk0 qr0 qc0 qt0 qd0 qs0 qf0 qw0 rowCount anyKept (oTape C qt0 qt1 v4 []))) (va_runV (As := [.long x0, .int x1]) (rest := []) ⟨hx, hb, hml, hown, hts⟩ (c_X4_take l E D C qt0 qt1 H.size N tape x0 x1 r3 v4 h5) (cwV 2 hts gX5_feed_X4_take rfl rfl rfl hdX4_take ⟨Nat.le_of_ble_eq_true rfl, Nat.le_of_ble_eq_true rfl⟩) (kpreV hP hD hK hS hE hA [1, 2] rfl rfl 1 rfl rfl rfl) rfl rfl hl.1 rfl (lv_room (Nat.le_of_ble_eq_true rfl)) dX5_feed_16 ⟨Nat.zero_le _, Nat.zero_le _⟩) hP hD hS hA [1, 2] rfl rfl rfl (fun H locs hP hD hS => ?_)
      refine lv_goto (tgt := 23) hx hb dX5_feed_19 (by decide) ?_
      cases hf
      exact kri hQ hAe hx hb hr hlocks hP hD hK hS dX5_feed_23
  exact main _ _ hP hD hS

def rmX5_set : Room := { frames := 1, cells := 0, slots := 0, locals := 22 }
theorem hdX5_set : yX5_set.cls = RX5 ∧ yX5_set.cls ≠ "java/lang/invoke/MethodHandle" ∧ yX5_set.cls ≠ "java/lang/invoke/VarHandle" ∧ (parseMethodDescriptor yX5_set.desc).map (fun d => d.parameters.length) = some 2 := by decide +kernel
set_option maxHeartbeats 40000000 in
set_option maxRecDepth 100000 in
theorem c_X5_set (l : Launch) (E : Nat → Nat) (D : va_G) (C : Nat → ClassId) (q0 qn0 qk0 qr0 qc0 qt0 qd0 qs0 qf0 qw0 qn1 qn2 qn3 qn4 qn5 qn6 : Nat) (sz : Nat) (rowCount : Int32) (anyKept : Int32) (now : PV) (x0 : Int32) (x1 : Int32) (r : Int32) (now' : PV) (hf : f_X5_set now x0 x1 = some (r, now')) : Met l yX5_set wsX5_set rmX5_set (PC E D C [.ref q0, .int x0, .int x1] (oTM q0 qn0 qk0 qr0 qc0 qt0 qd0 qs0 qf0 qw0 rowCount anyKept (oPort C qn0 qn1 qn2 qn3 qn4 qn5 qn6 now [])) sz) (QI D C (oTM q0 qn0 qk0 qr0 qc0 qt0 qd0 qs0 qf0 qw0 rowCount anyKept (oPort C qn0 qn1 qn2 qn3 qn4 qn5 qn6 now [])) (oTM q0 qn0 qk0 qr0 qc0 qt0 qd0 qs0 qf0 qw0 rowCount anyKept (oPort C qn0 qn1 qn2 qn3 qn4 qn5 qn6 (now') [])) sz r) 0 0 (va_A (oTM q0 qn0 qk0 qr0 qc0 qt0 qd0 qs0 qf0 qw0 rowCount anyKept (oPort C qn0 qn1 qn2 qn3 qn4 qn5 qn6 now [])) sz) := by
  refine Met.ofW (cc := cX5_set) (maxL := 4) (ret := (some .int)) (by decide) rfl ?_
  intro p e s m args below meth c s₁ B hml hv
  obtain ⟨rfl, hsz, hP, hK, hD0, hE⟩ := hv
  have hx := B.exec
  have hb := B.bytes
  have hr := B.returns
  have hts := atoms_spec (ws := wsX5_set) B.pre
  have hown : s.vm.findClass RX5 = some m.cls := findClass_of_methodNamed B.named
  have hlocks := B.notSynchronized
  subst hsz
  have hi_RX1 : ∀ w ∈ wsX10, w ∈ wsX5_set := fun _ h => List.mem_cons_of_mem _ (List.mem_append_right _ h)
  have hi_RX5 : ∀ w ∈ wsX50, w ∈ wsX5_set := fun _ h => List.mem_cons_of_mem _ (List.mem_append_left _ (List.mem_append_right _ h))
  have hD := hD0.self (sz := s.heap.size)
  obtain ⟨A, hAe⟩ := nm_ex (va_A (oTM q0 qn0 qk0 qr0 qc0 qt0 qd0 qs0 qf0 qw0 rowCount anyKept (oPort C qn0 qn1 qn2 qn3 qn4 qn5 qn6 now [])) s.heap.size)
  rw [← hAe] at hD hE ⊢
  have hA : ∀ q : Nat, s.heap.size ≤ q → A q := fun q h => by rw [hAe]; exact Or.inr h
  have hS : va_S A s.heap s.heap [] := va_S.rf
  have hl := lv_entry ([.ref q0, .int x0, .int x1]) (n := 4) (Nat.le_of_ble_eq_true rfl)
  rw [lg_entry_eq]
  generalize (lg_sl ([.ref q0, .int x0, .int x1]) ++ List.replicate (4 - (lg_sl ([.ref q0, .int x0, .int x1])).length) Slot.unset).toArray = ls at hl ⊢
  have hl : lv_has ls 4 [(0, .ref q0), (1, .int x0), (2, .int x1)] := hl
  obtain ⟨Q, hQ⟩ := nm_ex (MQ below (QI D C (oTM q0 qn0 qk0 qr0 qc0 qt0 qd0 qs0 qf0 qw0 rowCount anyKept (oPort C qn0 qn1 qn2 qn3 qn4 qn5 qn6 now [])) (oTM q0 qn0 qk0 qr0 qc0 qt0 qd0 qs0 qf0 qw0 rowCount anyKept (oPort C qn0 qn1 qn2 qn3 qn4 qn5 qn6 (now') [])) s.heap.size r) (List.toArray [Value.ref q0, Value.int x0, Value.int x1]) s 0 0 A)
  show W p l e (headSpec wsX5_set (rmX5_set)).room s m (List.toArray [Value.ref q0, Value.int x0, Value.int x1]) below meth c s.heap [] 0 0 (MQ below (QI D C (oTM q0 qn0 qk0 qr0 qc0 qt0 qd0 qs0 qf0 qw0 rowCount anyKept (oPort C qn0 qn1 qn2 qn3 qn4 qn5 qn6 now [])) (oTM q0 qn0 qk0 qr0 qc0 qt0 qd0 qs0 qf0 qw0 rowCount anyKept (oPort C qn0 qn1 qn2 qn3 qn4 qn5 qn6 (now') [])) s.heap.size r) (List.toArray [Value.ref q0, Value.int x0, Value.int x1]) s 0 0 A) _
  rw [← hQ]
  unfold f_X5_set at hf
  have main : ∀ (H : Heap) (locs : List Loc), va_P D vwCl (oTM q0 qn0 qk0 qr0 qc0 qt0 qd0 qs0 qf0 qw0 rowCount anyKept (oPort C qn0 qn1 qn2 qn3 qn4 qn5 qn6 now [])) H → va_D A (oTM q0 qn0 qk0 qr0 qc0 qt0 qd0 qs0 qf0 qw0 rowCount anyKept (oPort C qn0 qn1 qn2 qn3 qn4 qn5 qn6 now [])) → va_S A s.heap H locs → W p l e (headSpec wsX5_set (rmX5_set)).room s m (List.toArray [Value.ref q0, Value.int x0, Value.int x1]) below meth c H locs 0 0 Q (F0 m 0 ls []) := by
    intro H locs hP hD hS
    refine lv_iload_n hx hb dX5_set_0 rfl (lv_at hl 1 rfl) ?_
    refine lv_iconst (v := 0) hx hb dX5_set_1 rfl ?_
    refine lv_iconst (v := 3) hx hb dX5_set_2 rfl ?_
    refine kcz (Wx := (oTM q0 qn0 qk0 qr0 qc0 qt0 qd0 qs0 qf0 qw0 rowCount anyKept (oPort C qn0 qn1 qn2 qn3 qn4 qn5 qn6 now []))) (va_runS (As := [.int x0, .int 0, .int 3]) (rest := []) ⟨hx, hb, hml, hown, hts⟩ (c_X5_within l E D C H.size x0 0 3 _ rfl) (va_cwS 3 hts gX5_set_X5_within rfl rfl rfl hdX5_within ⟨Nat.le_of_ble_eq_true rfl, Nat.le_of_ble_eq_true rfl⟩) (kpre hP hD hK hS hE hA [] rfl rfl) rfl rfl hl.1 rfl (lv_room (Nat.le_of_ble_eq_true rfl)) dX5_set_3 ⟨Nat.zero_le _, Nat.zero_le _⟩) hP hD hS hA [] rfl rfl rfl (fun H locs hz1 hP hD hS => ?_)
    refine lv_if_eq (tgt := 26) hx hb dX5_set_6 (by decide) (fun c2 => ?_) (fun c2 => ?_)
    · replace hf := if_te c2 hf
      refine lv_iconst (v := (-1)) hx hb dX5_set_26 rfl ?_
      cases hf
      exact kri hQ hAe hx hb hr hlocks hP hD hK hS dX5_set_27
    · replace hf := if_fe c2 hf
      refine lv_iload_n hx hb dX5_set_9 rfl (lv_at hl 2 rfl) ?_
      refine va_gets hx hb (tZ0 hE) hS hown (hts (.fieldLink RX5 89 "TravelMarks" "LAW_LEAST" "[I") (List.mem_of_getElem? (i := 1) rfl)) (fun _ h9 => h9) dX5_set_10 ?_
      refine lv_iload_n hx hb dX5_set_13 rfl (lv_at hl 1 rfl) ?_
      obtain ⟨y4, ey4, hi3, hf⟩ := rdA_x hf
      refine va_ti hx hb (tT0 hE) hS hi3 (v := .int (tbLeast (x0).toNatClampNeg)) rfl dX5_set_14 ?_
      refine lv_ren ey4 ?_
      refine va_gets hx hb (tZ1 hE) hS hown (hts (.fieldLink RX5 92 "TravelMarks" "LAW_MOST" "[I") (List.mem_of_getElem? (i := 2) rfl)) (fun _ h9 => h9) dX5_set_15 ?_
      refine lv_iload_n hx hb dX5_set_18 rfl (lv_at hl 1 rfl) ?_
      obtain ⟨y6, ey6, hi5, hf⟩ := rdA_x hf
      refine va_ti hx hb (tT1 hE) hS hi5 (v := .int (tbMost (x0).toNatClampNeg)) rfl dX5_set_19 ?_
      refine lv_ren ey6 ?_
      refine kcz (Wx := (oTM q0 qn0 qk0 qr0 qc0 qt0 qd0 qs0 qf0 qw0 rowCount anyKept (oPort C qn0 qn1 qn2 qn3 qn4 qn5 qn6 now []))) (va_runS (As := [.int x1, .int y4, .int y6]) (rest := []) ⟨hx, hb, hml, hown, hts⟩ (c_X5_within l E D C H.size x1 y4 y6 _ rfl) (va_cwS 3 hts gX5_set_X5_within rfl rfl rfl hdX5_within ⟨Nat.le_of_ble_eq_true rfl, Nat.le_of_ble_eq_true rfl⟩) (kpre hP hD hK hS hE hA [] rfl rfl) rfl rfl hl.1 rfl (lv_room (Nat.le_of_ble_eq_true rfl)) dX5_set_20 ⟨Nat.zero_le _, Nat.zero_le _⟩) hP hD hS hA [] rfl rfl rfl (fun H locs hz7 hP hD hS => ?_)
      refine lv_if_ne (tgt := 28) hx hb dX5_set_23 (by decide) (fun c8 => ?_) (fun c8 => ?_)
      · replace hf := if_fe c8 hf
        refine lv_aload_n hx hb dX5_set_28 rfl (lv_at hl 0 rfl) ?_
        refine va_get (D := D) (ci := 5) (v := .ref qn0) (C := RX5) (T := TX5) (N := 11) hx hb hts hi_RX5 hown hK hP 0 rfl rfl 0 (by decide) (hts (.fieldLink RX5 10 "TravelMarks" "now" "LTravelMarks$Port;") (List.mem_of_getElem? (i := 3) rfl)) (fun _ h9 => h9) rfl dX5_set_29 ?_
        refine va_get (D := D) (ci := 1) (v := .ref qn1) (C := RX1) (T := TX1) (N := 10) hx hb hts hi_RX1 hown hK hP 1 rfl rfl 0 (by decide) (hts (.fieldLink RX5 95 "TravelMarks$Port" "laws" "[I") (List.mem_of_getElem? (i := 4) rfl)) (fun _ h9 => h9) rfl dX5_set_32 ?_
        refine lv_iload_n hx hb dX5_set_35 rfl (lv_at hl 1 rfl) ?_
        obtain ⟨y10, ey10, hi9, hf⟩ := rdA_x hf
        refine va_iald hx hb hK hP 2 0 rfl rfl hi9 dX5_set_36 ?_
        refine lv_ren ey10 ?_
        refine lv_istore_n (lv' := [(3, .int y10), (0, .ref q0), (1, .int x0), (2, .int x1)]) hx hb dX5_set_37 rfl hl (by decide) rfl (fun ls hl => ?_)
        refine lv_aload_n hx hb dX5_set_38 rfl (lv_at hl 1 rfl) ?_
        refine va_get (D := D) (ci := 5) (v := .ref qn0) (C := RX5) (T := TX5) (N := 11) hx hb hts hi_RX5 hown hK hP 0 rfl rfl 0 (by decide) (hts (.fieldLink RX5 10 "TravelMarks" "now" "LTravelMarks$Port;") (List.mem_of_getElem? (i := 3) rfl)) (fun _ h9 => h9) rfl dX5_set_39 ?_
        refine va_get (D := D) (ci := 1) (v := .ref qn1) (C := RX1) (T := TX1) (N := 10) hx hb hts hi_RX1 hown hK hP 1 rfl rfl 0 (by decide) (hts (.fieldLink RX5 95 "TravelMarks$Port" "laws" "[I") (List.mem_of_getElem? (i := 4) rfl)) (fun _ h9 => h9) rfl dX5_set_42 ?_
        refine lv_iload_n hx hb dX5_set_45 rfl (lv_at hl 2 rfl) ?_
        refine lv_iload_n hx hb dX5_set_46 rfl (lv_at hl 3 rfl) ?_
        obtain ⟨hi11, hf⟩ := ckA_e hf
        refine va_iast hx hb hK hP hD hS 2 0 rfl rfl hi11 dX5_set_47 (fun H locs hP hD hS => ?_)
        obtain ⟨v12, ev12, hf⟩ := lj_e hf
        have hP : va_P D vwCl (oTM q0 qn0 qk0 qr0 qc0 qt0 qd0 qs0 qf0 qw0 rowCount anyKept (oPort C qn0 qn1 qn2 qn3 qn4 qn5 qn6 v12 [])) H := by rw [ev12]; exact hP
        have hD : va_D A (oTM q0 qn0 qk0 qr0 qc0 qt0 qd0 qs0 qf0 qw0 rowCount anyKept (oPort C qn0 qn1 qn2 qn3 qn4 qn5 qn6 v12 [])) := by rw [ev12]; exact hD
        refine lv_iload_n hx hb dX5_set_48 rfl (lv_at hl 0 rfl) ?_
        cases hf
        exact kri hQ hAe hx hb hr hlocks hP hD hK hS dX5_set_49
      · replace hf := if_te c8 hf
        refine lv_iconst (v := (-1)) hx hb dX5_set_26 rfl ?_
        cases hf
        exact kri hQ hAe hx hb hr hlocks hP hD hK hS dX5_set_27
  exact main _ _ hP hD hS

def rmX5_lawOf : Room := { frames := 1, cells := 0, slots := 0, locals := 22 }
theorem hdX5_lawOf : yX5_lawOf.cls = RX5 ∧ yX5_lawOf.cls ≠ "java/lang/invoke/MethodHandle" ∧ yX5_lawOf.cls ≠ "java/lang/invoke/VarHandle" ∧ (parseMethodDescriptor yX5_lawOf.desc).map (fun d => d.parameters.length) = some 1 := by decide +kernel
set_option maxHeartbeats 40000000 in
set_option maxRecDepth 100000 in
theorem c_X5_lawOf (l : Launch) (E : Nat → Nat) (D : va_G) (C : Nat → ClassId) (q0 qn0 qk0 qr0 qc0 qt0 qd0 qs0 qf0 qw0 qn1 qn2 qn3 qn4 qn5 qn6 : Nat) (sz : Nat) (rowCount : Int32) (anyKept : Int32) (now : PV) (x0 : Int32) (r : Int32) (hf : f_X5_lawOf now x0 = some r) : Met l yX5_lawOf wsX5_lawOf rmX5_lawOf (PC E D C [.ref q0, .int x0] (oTM q0 qn0 qk0 qr0 qc0 qt0 qd0 qs0 qf0 qw0 rowCount anyKept (oPort C qn0 qn1 qn2 qn3 qn4 qn5 qn6 now [])) sz) (QI D C (oTM q0 qn0 qk0 qr0 qc0 qt0 qd0 qs0 qf0 qw0 rowCount anyKept (oPort C qn0 qn1 qn2 qn3 qn4 qn5 qn6 now [])) (oTM q0 qn0 qk0 qr0 qc0 qt0 qd0 qs0 qf0 qw0 rowCount anyKept (oPort C qn0 qn1 qn2 qn3 qn4 qn5 qn6 now [])) sz r) 0 0 (va_A (oTM q0 qn0 qk0 qr0 qc0 qt0 qd0 qs0 qf0 qw0 rowCount anyKept (oPort C qn0 qn1 qn2 qn3 qn4 qn5 qn6 now [])) sz) := by
  refine Met.ofW (cc := cX5_lawOf) (maxL := 2) (ret := (some .int)) (by decide) rfl ?_
  intro p e s m args below meth c s₁ B hml hv
  obtain ⟨rfl, hsz, hP, hK, hD0, hE⟩ := hv
  have hx := B.exec
  have hb := B.bytes
  have hr := B.returns
  have hts := atoms_spec (ws := wsX5_lawOf) B.pre
  have hown : s.vm.findClass RX5 = some m.cls := findClass_of_methodNamed B.named
  have hlocks := B.notSynchronized
  subst hsz
  have hi_RX1 : ∀ w ∈ wsX10, w ∈ wsX5_lawOf := fun _ h => List.mem_cons_of_mem _ (List.mem_append_right _ h)
  have hi_RX5 : ∀ w ∈ wsX50, w ∈ wsX5_lawOf := fun _ h => List.mem_cons_of_mem _ (List.mem_append_left _ (List.mem_append_right _ h))
  have hD := hD0.self (sz := s.heap.size)
  obtain ⟨A, hAe⟩ := nm_ex (va_A (oTM q0 qn0 qk0 qr0 qc0 qt0 qd0 qs0 qf0 qw0 rowCount anyKept (oPort C qn0 qn1 qn2 qn3 qn4 qn5 qn6 now [])) s.heap.size)
  rw [← hAe] at hD hE ⊢
  have hA : ∀ q : Nat, s.heap.size ≤ q → A q := fun q h => by rw [hAe]; exact Or.inr h
  have hS : va_S A s.heap s.heap [] := va_S.rf
  have hl := lv_entry ([.ref q0, .int x0]) (n := 2) (Nat.le_of_ble_eq_true rfl)
  rw [lg_entry_eq]
  generalize (lg_sl ([.ref q0, .int x0]) ++ List.replicate (2 - (lg_sl ([.ref q0, .int x0])).length) Slot.unset).toArray = ls at hl ⊢
  have hl : lv_has ls 2 [(0, .ref q0), (1, .int x0)] := hl
  obtain ⟨Q, hQ⟩ := nm_ex (MQ below (QI D C (oTM q0 qn0 qk0 qr0 qc0 qt0 qd0 qs0 qf0 qw0 rowCount anyKept (oPort C qn0 qn1 qn2 qn3 qn4 qn5 qn6 now [])) (oTM q0 qn0 qk0 qr0 qc0 qt0 qd0 qs0 qf0 qw0 rowCount anyKept (oPort C qn0 qn1 qn2 qn3 qn4 qn5 qn6 now [])) s.heap.size r) (List.toArray [Value.ref q0, Value.int x0]) s 0 0 A)
  show W p l e (headSpec wsX5_lawOf (rmX5_lawOf)).room s m (List.toArray [Value.ref q0, Value.int x0]) below meth c s.heap [] 0 0 (MQ below (QI D C (oTM q0 qn0 qk0 qr0 qc0 qt0 qd0 qs0 qf0 qw0 rowCount anyKept (oPort C qn0 qn1 qn2 qn3 qn4 qn5 qn6 now [])) (oTM q0 qn0 qk0 qr0 qc0 qt0 qd0 qs0 qf0 qw0 rowCount anyKept (oPort C qn0 qn1 qn2 qn3 qn4 qn5 qn6 now [])) s.heap.size r) (List.toArray [Value.ref q0, Value.int x0]) s 0 0 A) _
  rw [← hQ]
  unfold f_X5_lawOf at hf
  have main : ∀ (H : Heap) (locs : List Loc), va_P D vwCl (oTM q0 qn0 qk0 qr0 qc0 qt0 qd0 qs0 qf0 qw0 rowCount anyKept (oPort C qn0 qn1 qn2 qn3 qn4 qn5 qn6 now [])) H → va_D A (oTM q0 qn0 qk0 qr0 qc0 qt0 qd0 qs0 qf0 qw0 rowCount anyKept (oPort C qn0 qn1 qn2 qn3 qn4 qn5 qn6 now [])) → va_S A s.heap H locs → W p l e (headSpec wsX5_lawOf (rmX5_lawOf)).room s m (List.toArray [Value.ref q0, Value.int x0]) below meth c H locs 0 0 Q (F0 m 0 ls []) := by
    intro H locs hP hD hS
    refine lv_iload_n hx hb dX5_lawOf_0 rfl (lv_at hl 1 rfl) ?_
    refine lv_iconst (v := 0) hx hb dX5_lawOf_1 rfl ?_
    refine lv_iconst (v := 3) hx hb dX5_lawOf_2 rfl ?_
    refine kcz (Wx := (oTM q0 qn0 qk0 qr0 qc0 qt0 qd0 qs0 qf0 qw0 rowCount anyKept (oPort C qn0 qn1 qn2 qn3 qn4 qn5 qn6 now []))) (va_runS (As := [.int x0, .int 0, .int 3]) (rest := []) ⟨hx, hb, hml, hown, hts⟩ (c_X5_within l E D C H.size x0 0 3 _ rfl) (va_cwS 3 hts gX5_lawOf_X5_within rfl rfl rfl hdX5_within ⟨Nat.le_of_ble_eq_true rfl, Nat.le_of_ble_eq_true rfl⟩) (kpre hP hD hK hS hE hA [] rfl rfl) rfl rfl hl.1 rfl (lv_room (Nat.le_of_ble_eq_true rfl)) dX5_lawOf_3 ⟨Nat.zero_le _, Nat.zero_le _⟩) hP hD hS hA [] rfl rfl rfl (fun H locs hz1 hP hD hS => ?_)
    refine lv_if_eq (tgt := 21) hx hb dX5_lawOf_6 (by decide) (fun c2 => ?_) (fun c2 => ?_)
    · replace hf := if_te c2 hf
      refine lv_iconst (v := (-1)) hx hb dX5_lawOf_21 rfl ?_
      cases hf
      exact kri hQ hAe hx hb hr hlocks hP hD hK hS dX5_lawOf_22
    · replace hf := if_fe c2 hf
      refine lv_aload_n hx hb dX5_lawOf_9 rfl (lv_at hl 0 rfl) ?_
      refine va_get (D := D) (ci := 5) (v := .ref qn0) (C := RX5) (T := TX5) (N := 11) hx hb hts hi_RX5 hown hK hP 0 rfl rfl 0 (by decide) (hts (.fieldLink RX5 10 "TravelMarks" "now" "LTravelMarks$Port;") (List.mem_of_getElem? (i := 1) rfl)) (fun _ h9 => h9) rfl dX5_lawOf_10 ?_
      refine va_get (D := D) (ci := 1) (v := .ref qn1) (C := RX1) (T := TX1) (N := 10) hx hb hts hi_RX1 hown hK hP 1 rfl rfl 0 (by decide) (hts (.fieldLink RX5 95 "TravelMarks$Port" "laws" "[I") (List.mem_of_getElem? (i := 2) rfl)) (fun _ h9 => h9) rfl dX5_lawOf_13 ?_
      refine lv_iload_n hx hb dX5_lawOf_16 rfl (lv_at hl 1 rfl) ?_
      obtain ⟨y4, ey4, hi3, hf⟩ := rdA_x hf
      refine va_iald hx hb hK hP 2 0 rfl rfl hi3 dX5_lawOf_17 ?_
      refine lv_ren ey4 ?_
      refine lv_goto (tgt := 22) hx hb dX5_lawOf_18 (by decide) ?_
      cases hf
      exact kri hQ hAe hx hb hr hlocks hP hD hK hS dX5_lawOf_22
  exact main _ _ hP hD hS

def rmX5_mark : Room := { frames := 2, cells := 0, slots := 0, locals := 42 }
theorem hdX5_mark : yX5_mark.cls = RX5 ∧ yX5_mark.cls ≠ "java/lang/invoke/MethodHandle" ∧ yX5_mark.cls ≠ "java/lang/invoke/VarHandle" ∧ (parseMethodDescriptor yX5_mark.desc).map (fun d => d.parameters.length) = some 3 := by decide +kernel
set_option maxHeartbeats 40000000 in
set_option maxRecDepth 100000 in
theorem c_X5_mark (l : Launch) (E : Nat → Nat) (D : va_G) (C : Nat → ClassId) (q0 qn0 qk0 qr0 qc0 qt0 qd0 qs0 qf0 qw0 qn1 qn2 qn3 qn4 qn5 qn6 : Nat) (sz : Nat) (rowCount : Int32) (anyKept : Int32) (now : PV) (x0 : Int32) (x1 : Int32) (x2 : Int32) (r : Int32) (now' : PV) (hf : f_X5_mark now x0 x1 x2 = some (r, now')) : Met l yX5_mark wsX5_mark rmX5_mark (PC E D C [.ref q0, .int x0, .int x1, .int x2] (oTM q0 qn0 qk0 qr0 qc0 qt0 qd0 qs0 qf0 qw0 rowCount anyKept (oPort C qn0 qn1 qn2 qn3 qn4 qn5 qn6 now [])) sz) (QI D C (oTM q0 qn0 qk0 qr0 qc0 qt0 qd0 qs0 qf0 qw0 rowCount anyKept (oPort C qn0 qn1 qn2 qn3 qn4 qn5 qn6 now [])) (oTM q0 qn0 qk0 qr0 qc0 qt0 qd0 qs0 qf0 qw0 rowCount anyKept (oPort C qn0 qn1 qn2 qn3 qn4 qn5 qn6 (now') [])) sz r) 0 0 (va_A (oTM q0 qn0 qk0 qr0 qc0 qt0 qd0 qs0 qf0 qw0 rowCount anyKept (oPort C qn0 qn1 qn2 qn3 qn4 qn5 qn6 now [])) sz) := by
  refine Met.ofW (cc := cX5_mark) (maxL := 4) (ret := (some .int)) (by decide) rfl ?_
  intro p e s m args below meth c s₁ B hml hv
  obtain ⟨rfl, hsz, hP, hK, hD0, hE⟩ := hv
  have hx := B.exec
  have hb := B.bytes
  have hr := B.returns
  have hts := atoms_spec (ws := wsX5_mark) B.pre
  have hown : s.vm.findClass RX5 = some m.cls := findClass_of_methodNamed B.named
  have hlocks := B.notSynchronized
  subst hsz
  have hi_RX1 : ∀ w ∈ wsX10, w ∈ wsX5_mark := fun _ h => List.mem_cons_of_mem _ (List.mem_append_right _ h)
  have hi_RX5 : ∀ w ∈ wsX50, w ∈ wsX5_mark := fun _ h => List.mem_cons_of_mem _ (List.mem_append_left _ (List.mem_append_right _ h))
  have hD := hD0.self (sz := s.heap.size)
  obtain ⟨A, hAe⟩ := nm_ex (va_A (oTM q0 qn0 qk0 qr0 qc0 qt0 qd0 qs0 qf0 qw0 rowCount anyKept (oPort C qn0 qn1 qn2 qn3 qn4 qn5 qn6 now [])) s.heap.size)
  rw [← hAe] at hD hE ⊢
  have hA : ∀ q : Nat, s.heap.size ≤ q → A q := fun q h => by rw [hAe]; exact Or.inr h
  have hS : va_S A s.heap s.heap [] := va_S.rf
  have hl := lv_entry ([.ref q0, .int x0, .int x1, .int x2]) (n := 4) (Nat.le_of_ble_eq_true rfl)
  rw [lg_entry_eq]
  generalize (lg_sl ([.ref q0, .int x0, .int x1, .int x2]) ++ List.replicate (4 - (lg_sl ([.ref q0, .int x0, .int x1, .int x2])).length) Slot.unset).toArray = ls at hl ⊢
  have hl : lv_has ls 4 [(0, .ref q0), (1, .int x0), (2, .int x1), (3, .int x2)] := hl
  obtain ⟨Q, hQ⟩ := nm_ex (MQ below (QI D C (oTM q0 qn0 qk0 qr0 qc0 qt0 qd0 qs0 qf0 qw0 rowCount anyKept (oPort C qn0 qn1 qn2 qn3 qn4 qn5 qn6 now [])) (oTM q0 qn0 qk0 qr0 qc0 qt0 qd0 qs0 qf0 qw0 rowCount anyKept (oPort C qn0 qn1 qn2 qn3 qn4 qn5 qn6 (now') [])) s.heap.size r) (List.toArray [Value.ref q0, Value.int x0, Value.int x1, Value.int x2]) s 0 0 A)
  show W p l e (headSpec wsX5_mark (rmX5_mark)).room s m (List.toArray [Value.ref q0, Value.int x0, Value.int x1, Value.int x2]) below meth c s.heap [] 0 0 (MQ below (QI D C (oTM q0 qn0 qk0 qr0 qc0 qt0 qd0 qs0 qf0 qw0 rowCount anyKept (oPort C qn0 qn1 qn2 qn3 qn4 qn5 qn6 now [])) (oTM q0 qn0 qk0 qr0 qc0 qt0 qd0 qs0 qf0 qw0 rowCount anyKept (oPort C qn0 qn1 qn2 qn3 qn4 qn5 qn6 (now') [])) s.heap.size r) (List.toArray [Value.ref q0, Value.int x0, Value.int x1, Value.int x2]) s 0 0 A) _
  rw [← hQ]
  unfold f_X5_mark at hf
  have main : ∀ (H : Heap) (locs : List Loc), va_P D vwCl (oTM q0 qn0 qk0 qr0 qc0 qt0 qd0 qs0 qf0 qw0 rowCount anyKept (oPort C qn0 qn1 qn2 qn3 qn4 qn5 qn6 now [])) H → va_D A (oTM q0 qn0 qk0 qr0 qc0 qt0 qd0 qs0 qf0 qw0 rowCount anyKept (oPort C qn0 qn1 qn2 qn3 qn4 qn5 qn6 now [])) → va_S A s.heap H locs → W p l e (headSpec wsX5_mark (rmX5_mark)).room s m (List.toArray [Value.ref q0, Value.int x0, Value.int x1, Value.int x2]) below meth c H locs 0 0 Q (F0 m 0 ls []) := by
    intro H locs hP hD hS
    refine lv_iload_n hx hb dX5_mark_0 rfl (lv_at hl 1 rfl) ?_
    refine kcz (Wx := (oTM q0 qn0 qk0 qr0 qc0 qt0 qd0 qs0 qf0 qw0 rowCount anyKept (oPort C qn0 qn1 qn2 qn3 qn4 qn5 qn6 now []))) (va_runS (As := [.int x0]) (rest := []) ⟨hx, hb, hml, hown, hts⟩ (c_X5_isKind l E D C H.size x0 _ rfl) (va_cwS 1 hts gX5_mark_X5_isKind rfl rfl rfl hdX5_isKind ⟨Nat.le_of_ble_eq_true rfl, Nat.le_of_ble_eq_true rfl⟩) (kpre hP hD hK hS hE hA [] rfl rfl) rfl rfl hl.1 rfl (lv_room (Nat.le_of_ble_eq_true rfl)) dX5_mark_1 ⟨Nat.zero_le _, Nat.zero_le _⟩) hP hD hS hA [] rfl rfl rfl (fun H locs hz1 hP hD hS => ?_)
    refine lv_if_eq (tgt := 21) hx hb dX5_mark_4 (by decide) (fun c2 => ?_) (fun c2 => ?_)
    · replace hf := if_te c2 hf
      refine lv_iconst (v := (-1)) hx hb dX5_mark_21 rfl ?_
      cases hf
      exact kri hQ hAe hx hb hr hlocks hP hD hK hS dX5_mark_22
    · replace hf := if_fe c2 hf
      refine lv_iload_n hx hb dX5_mark_7 rfl (lv_at hl 2 rfl) ?_
      refine kcz (Wx := (oTM q0 qn0 qk0 qr0 qc0 qt0 qd0 qs0 qf0 qw0 rowCount anyKept (oPort C qn0 qn1 qn2 qn3 qn4 qn5 qn6 now []))) (va_runS (As := [.int x1]) (rest := []) ⟨hx, hb, hml, hown, hts⟩ (c_X5_isInk l E D C H.size x1 _ rfl) (va_cwS 1 hts gX5_mark_X5_isInk rfl rfl rfl hdX5_isInk ⟨Nat.le_of_ble_eq_true rfl, Nat.le_of_ble_eq_true rfl⟩) (kpre hP hD hK hS hE hA [] rfl rfl) rfl rfl hl.1 rfl (lv_room (Nat.le_of_ble_eq_true rfl)) dX5_mark_8 ⟨Nat.zero_le _, Nat.zero_le _⟩) hP hD hS hA [] rfl rfl rfl (fun H locs hz3 hP hD hS => ?_)
      refine lv_if_eq (tgt := 21) hx hb dX5_mark_11 (by decide) (fun c4 => ?_) (fun c4 => ?_)
      · replace hf := if_te c4 hf
        refine lv_iconst (v := (-1)) hx hb dX5_mark_21 rfl ?_
        cases hf
        exact kri hQ hAe hx hb hr hlocks hP hD hK hS dX5_mark_22
      · replace hf := if_fe c4 hf
        refine lv_iload_n hx hb dX5_mark_14 rfl (lv_at hl 3 rfl) ?_
        refine kcz (Wx := (oTM q0 qn0 qk0 qr0 qc0 qt0 qd0 qs0 qf0 qw0 rowCount anyKept (oPort C qn0 qn1 qn2 qn3 qn4 qn5 qn6 now []))) (va_runS (As := [.int x2]) (rest := []) ⟨hx, hb, hml, hown, hts⟩ (c_X5_isOne l E D C H.size x2 _ rfl) (va_cwS 1 hts gX5_mark_X5_isOne rfl rfl rfl hdX5_isOne ⟨Nat.le_of_ble_eq_true rfl, Nat.le_of_ble_eq_true rfl⟩) (kpre hP hD hK hS hE hA [] rfl rfl) rfl rfl hl.1 rfl (lv_room (Nat.le_of_ble_eq_true rfl)) dX5_mark_15 ⟨Nat.zero_le _, Nat.zero_le _⟩) hP hD hS hA [] rfl rfl rfl (fun H locs hz5 hP hD hS => ?_)
        refine lv_if_ne (tgt := 23) hx hb dX5_mark_18 (by decide) (fun c6 => ?_) (fun c6 => ?_)
        · replace hf := if_fe c6 hf
          refine lv_aload_n hx hb dX5_mark_23 rfl (lv_at hl 0 rfl) ?_
          refine va_get (D := D) (ci := 5) (v := .ref qn0) (C := RX5) (T := TX5) (N := 11) hx hb hts hi_RX5 hown hK hP 0 rfl rfl 0 (by decide) (hts (.fieldLink RX5 10 "TravelMarks" "now" "LTravelMarks$Port;") (List.mem_of_getElem? (i := 1) rfl)) (fun _ h9 => h9) rfl dX5_mark_24 ?_
          refine lv_iload_n hx hb dX5_mark_27 rfl (lv_at hl 1 rfl) ?_
          refine lv_iload_n hx hb dX5_mark_28 rfl (lv_at hl 2 rfl) ?_
          refine lv_iload_n hx hb dX5_mark_29 rfl (lv_at hl 3 rfl) ?_
          obtain ⟨r7, v8, h9, hf⟩ := ob2_e hf
          refine kcz (Wx := (oTM q0 qn0 qk0 qr0 qc0 qt0 qd0 qs0 qf0 qw0 rowCount anyKept (oPort C qn0 qn1 qn2 qn3 qn4 qn5 qn6 v8 []))) (va_runV (As := [.int x0, .int x1, .int x2]) (rest := []) ⟨hx, hb, hml, hown, hts⟩ (c_X1_add l E D C qn0 qn1 qn2 qn3 qn4 qn5 qn6 H.size now x0 x1 x2 r7 v8 h9) (cwV 3 hts gX5_mark_X1_add rfl rfl rfl hdX1_add ⟨Nat.le_of_ble_eq_true rfl, Nat.le_of_ble_eq_true rfl⟩) (kpreV hP hD hK hS hE hA [1, 2, 3, 4, 5, 6, 7] rfl rfl 1 rfl rfl rfl) rfl rfl hl.1 rfl (lv_room (Nat.le_of_ble_eq_true rfl)) dX5_mark_30 ⟨Nat.zero_le _, Nat.zero_le _⟩) hP hD hS hA [1, 2, 3, 4, 5, 6, 7] rfl rfl rfl (fun H locs hz10 hP hD hS => ?_)
          refine lv_if_eq (tgt := 48) hx hb dX5_mark_33 (by decide) (fun c11 => ?_) (fun c11 => ?_)
          · replace hf := if_te c11 hf
            refine lv_bipush (v := (-2)) hx hb dX5_mark_48 rfl ?_
            cases hf
            exact kri hQ hAe hx hb hr hlocks hP hD hK hS dX5_mark_50
          · replace hf := if_fe c11 hf
            refine lv_aload_n hx hb dX5_mark_36 rfl (lv_at hl 0 rfl) ?_
            refine va_get (D := D) (ci := 5) (v := .ref qn0) (C := RX5) (T := TX5) (N := 11) hx hb hts hi_RX5 hown hK hP 0 rfl rfl 0 (by decide) (hts (.fieldLink RX5 10 "TravelMarks" "now" "LTravelMarks$Port;") (List.mem_of_getElem? (i := 1) rfl)) (fun _ h9 => h9) rfl dX5_mark_37 ?_
            refine va_get (D := D) (ci := 1) (v := .int (pCount v8)) (C := RX1) (T := TX1) (N := 10) hx hb hts hi_RX1 hown hK hP 1 rfl rfl 6 (by decide) (hts (.fieldLink RX5 86 "TravelMarks$Port" "count" "I") (List.mem_of_getElem? (i := 2) rfl)) (fun _ h9 => h9) rfl dX5_mark_40 ?_
            refine lv_iconst (v := 1) hx hb dX5_mark_43 rfl ?_
            refine lv_isub hx hb dX5_mark_44 ?_
            refine lv_goto (tgt := 50) hx hb dX5_mark_45 (by decide) ?_
            obtain ⟨t12, et12, hf⟩ := lj_e hf
            refine lv_ren et12 ?_
            cases hf
            exact kri hQ hAe hx hb hr hlocks hP hD hK hS dX5_mark_50
        · replace hf := if_te c6 hf
          refine lv_iconst (v := (-1)) hx hb dX5_mark_21 rfl ?_
          cases hf
          exact kri hQ hAe hx hb hr hlocks hP hD hK hS dX5_mark_22
  exact main _ _ hP hD hS

def rmX5_isMark : Room := { frames := 1, cells := 0, slots := 0, locals := 22 }
theorem hdX5_isMark : yX5_isMark.cls = RX5 ∧ yX5_isMark.cls ≠ "java/lang/invoke/MethodHandle" ∧ yX5_isMark.cls ≠ "java/lang/invoke/VarHandle" ∧ (parseMethodDescriptor yX5_isMark.desc).map (fun d => d.parameters.length) = some 1 := by decide +kernel
set_option maxHeartbeats 40000000 in
set_option maxRecDepth 100000 in
theorem c_X5_isMark (l : Launch) (E : Nat → Nat) (D : va_G) (C : Nat → ClassId) (q0 qn0 qk0 qr0 qc0 qt0 qd0 qs0 qf0 qw0 qn1 qn2 qn3 qn4 qn5 qn6 : Nat) (sz : Nat) (rowCount : Int32) (anyKept : Int32) (now : PV) (x0 : Int32) (r : Int32) (hf : f_X5_isMark now x0 = r) : Met l yX5_isMark wsX5_isMark rmX5_isMark (PC E D C [.ref q0, .int x0] (oTM q0 qn0 qk0 qr0 qc0 qt0 qd0 qs0 qf0 qw0 rowCount anyKept (oPort C qn0 qn1 qn2 qn3 qn4 qn5 qn6 now [])) sz) (QZ D C (oTM q0 qn0 qk0 qr0 qc0 qt0 qd0 qs0 qf0 qw0 rowCount anyKept (oPort C qn0 qn1 qn2 qn3 qn4 qn5 qn6 now [])) (oTM q0 qn0 qk0 qr0 qc0 qt0 qd0 qs0 qf0 qw0 rowCount anyKept (oPort C qn0 qn1 qn2 qn3 qn4 qn5 qn6 now [])) sz r) 0 0 (va_A (oTM q0 qn0 qk0 qr0 qc0 qt0 qd0 qs0 qf0 qw0 rowCount anyKept (oPort C qn0 qn1 qn2 qn3 qn4 qn5 qn6 now [])) sz) := by
  refine Met.ofW (cc := cX5_isMark) (maxL := 2) (ret := (some .boolean)) (by decide) rfl ?_
  intro p e s m args below meth c s₁ B hml hv
  obtain ⟨rfl, hsz, hP, hK, hD0, hE⟩ := hv
  have hx := B.exec
  have hb := B.bytes
  have hr := B.returns
  have hts := atoms_spec (ws := wsX5_isMark) B.pre
  have hown : s.vm.findClass RX5 = some m.cls := findClass_of_methodNamed B.named
  have hlocks := B.notSynchronized
  subst hsz
  have hi_RX1 : ∀ w ∈ wsX10, w ∈ wsX5_isMark := fun _ h => List.mem_cons_of_mem _ (List.mem_append_right _ h)
  have hi_RX5 : ∀ w ∈ wsX50, w ∈ wsX5_isMark := fun _ h => List.mem_cons_of_mem _ (List.mem_append_left _ (List.mem_append_right _ h))
  have hD := hD0.self (sz := s.heap.size)
  obtain ⟨A, hAe⟩ := nm_ex (va_A (oTM q0 qn0 qk0 qr0 qc0 qt0 qd0 qs0 qf0 qw0 rowCount anyKept (oPort C qn0 qn1 qn2 qn3 qn4 qn5 qn6 now [])) s.heap.size)
  rw [← hAe] at hD hE ⊢
  have hA : ∀ q : Nat, s.heap.size ≤ q → A q := fun q h => by rw [hAe]; exact Or.inr h
  have hS : va_S A s.heap s.heap [] := va_S.rf
  have hl := lv_entry ([.ref q0, .int x0]) (n := 2) (Nat.le_of_ble_eq_true rfl)
  rw [lg_entry_eq]
  generalize (lg_sl ([.ref q0, .int x0]) ++ List.replicate (2 - (lg_sl ([.ref q0, .int x0])).length) Slot.unset).toArray = ls at hl ⊢
  have hl : lv_has ls 2 [(0, .ref q0), (1, .int x0)] := hl
  obtain ⟨Q, hQ⟩ := nm_ex (MQ below (QZ D C (oTM q0 qn0 qk0 qr0 qc0 qt0 qd0 qs0 qf0 qw0 rowCount anyKept (oPort C qn0 qn1 qn2 qn3 qn4 qn5 qn6 now [])) (oTM q0 qn0 qk0 qr0 qc0 qt0 qd0 qs0 qf0 qw0 rowCount anyKept (oPort C qn0 qn1 qn2 qn3 qn4 qn5 qn6 now [])) s.heap.size r) (List.toArray [Value.ref q0, Value.int x0]) s 0 0 A)
  show W p l e (headSpec wsX5_isMark (rmX5_isMark)).room s m (List.toArray [Value.ref q0, Value.int x0]) below meth c s.heap [] 0 0 (MQ below (QZ D C (oTM q0 qn0 qk0 qr0 qc0 qt0 qd0 qs0 qf0 qw0 rowCount anyKept (oPort C qn0 qn1 qn2 qn3 qn4 qn5 qn6 now [])) (oTM q0 qn0 qk0 qr0 qc0 qt0 qd0 qs0 qf0 qw0 rowCount anyKept (oPort C qn0 qn1 qn2 qn3 qn4 qn5 qn6 now [])) s.heap.size r) (List.toArray [Value.ref q0, Value.int x0]) s 0 0 A) _
  rw [← hQ]
  unfold f_X5_isMark at hf
  have main : ∀ (H : Heap) (locs : List Loc), va_P D vwCl (oTM q0 qn0 qk0 qr0 qc0 qt0 qd0 qs0 qf0 qw0 rowCount anyKept (oPort C qn0 qn1 qn2 qn3 qn4 qn5 qn6 now [])) H → va_D A (oTM q0 qn0 qk0 qr0 qc0 qt0 qd0 qs0 qf0 qw0 rowCount anyKept (oPort C qn0 qn1 qn2 qn3 qn4 qn5 qn6 now [])) → va_S A s.heap H locs → W p l e (headSpec wsX5_isMark (rmX5_isMark)).room s m (List.toArray [Value.ref q0, Value.int x0]) below meth c H locs 0 0 Q (F0 m 0 ls []) := by
    intro H locs hP hD hS
    refine lv_iload_n hx hb dX5_isMark_0 rfl (lv_at hl 1 rfl) ?_
    refine lv_iconst (v := 0) hx hb dX5_isMark_1 rfl ?_
    refine lv_aload_n hx hb dX5_isMark_2 rfl (lv_at hl 0 rfl) ?_
    refine va_get (D := D) (ci := 5) (v := .ref qn0) (C := RX5) (T := TX5) (N := 11) hx hb hts hi_RX5 hown hK hP 0 rfl rfl 0 (by decide) (hts (.fieldLink RX5 10 "TravelMarks" "now" "LTravelMarks$Port;") (List.mem_of_getElem? (i := 1) rfl)) (fun _ h9 => h9) rfl dX5_isMark_3 ?_
    refine va_get (D := D) (ci := 1) (v := .int (pCount now)) (C := RX1) (T := TX1) (N := 10) hx hb hts hi_RX1 hown hK hP 1 rfl rfl 6 (by decide) (hts (.fieldLink RX5 86 "TravelMarks$Port" "count" "I") (List.mem_of_getElem? (i := 2) rfl)) (fun _ h9 => h9) rfl dX5_isMark_6 ?_
    refine lv_iconst (v := 1) hx hb dX5_isMark_9 rfl ?_
    refine lv_isub hx hb dX5_isMark_10 ?_
    refine kcz (Wx := (oTM q0 qn0 qk0 qr0 qc0 qt0 qd0 qs0 qf0 qw0 rowCount anyKept (oPort C qn0 qn1 qn2 qn3 qn4 qn5 qn6 now []))) (va_runS (As := [.int x0, .int 0, .int ((pCount now) - 1)]) (rest := []) ⟨hx, hb, hml, hown, hts⟩ (c_X5_within l E D C H.size x0 0 ((pCount now) - 1) _ rfl) (va_cwS 3 hts gX5_isMark_X5_within rfl rfl rfl hdX5_within ⟨Nat.le_of_ble_eq_true rfl, Nat.le_of_ble_eq_true rfl⟩) (kpre hP hD hK hS hE hA [] rfl rfl) rfl rfl hl.1 rfl (lv_room (Nat.le_of_ble_eq_true rfl)) dX5_isMark_11 ⟨Nat.zero_le _, Nat.zero_le _⟩) hP hD hS hA [] rfl rfl rfl (fun H locs hz1 hP hD hS => ?_)
    cases hf
    exact krz hQ hAe hx hb hr hlocks hz1 hP hD hK hS dX5_isMark_14
  exact main _ _ hP hD hS

def rmX5_of : Room := { frames := 3, cells := 0, slots := 0, locals := 69 }
theorem hdX5_of : yX5_of.cls = RX5 ∧ yX5_of.cls ≠ "java/lang/invoke/MethodHandle" ∧ yX5_of.cls ≠ "java/lang/invoke/VarHandle" ∧ (parseMethodDescriptor yX5_of.desc).map (fun d => d.parameters.length) = some 2 := by decide +kernel
set_option maxHeartbeats 40000000 in
set_option maxRecDepth 100000 in
theorem c_X5_of (l : Launch) (E : Nat → Nat) (D : va_G) (C : Nat → ClassId) (q0 qn0 qk0 qr0 qc0 qt0 qd0 qs0 qf0 qw0 qn1 qn2 qn3 qn4 qn5 qn6 : Nat) (sz : Nat) (N : Nat) (rowCount : Int32) (anyKept : Int32) (now : PV) (x0 : Int32) (x1 : Int32) (r : Int32) (hf : f_X5_of N now x0 x1 = some r) : Met l yX5_of wsX5_of rmX5_of (PC E D C [.ref q0, .int x0, .int x1] (oTM q0 qn0 qk0 qr0 qc0 qt0 qd0 qs0 qf0 qw0 rowCount anyKept (oPort C qn0 qn1 qn2 qn3 qn4 qn5 qn6 now [])) sz) (QI D C (oTM q0 qn0 qk0 qr0 qc0 qt0 qd0 qs0 qf0 qw0 rowCount anyKept (oPort C qn0 qn1 qn2 qn3 qn4 qn5 qn6 now [])) (oTM q0 qn0 qk0 qr0 qc0 qt0 qd0 qs0 qf0 qw0 rowCount anyKept (oPort C qn0 qn1 qn2 qn3 qn4 qn5 qn6 now [])) sz r) 0 0 (va_A (oTM q0 qn0 qk0 qr0 qc0 qt0 qd0 qs0 qf0 qw0 rowCount anyKept (oPort C qn0 qn1 qn2 qn3 qn4 qn5 qn6 now [])) sz) := by
  refine Met.ofW (cc := cX5_of) (maxL := 3) (ret := (some .int)) (by decide) rfl ?_
  intro p e s m args below meth c s₁ B hml hv
  obtain ⟨rfl, hsz, hP, hK, hD0, hE⟩ := hv
  have hx := B.exec
  have hb := B.bytes
  have hr := B.returns
  have hts := atoms_spec (ws := wsX5_of) B.pre
  have hown : s.vm.findClass RX5 = some m.cls := findClass_of_methodNamed B.named
  have hlocks := B.notSynchronized
  subst hsz
  have hi_RX1 : ∀ w ∈ wsX10, w ∈ wsX5_of := fun _ h => List.mem_cons_of_mem _ (List.mem_append_right _ h)
  have hi_RX5 : ∀ w ∈ wsX50, w ∈ wsX5_of := fun _ h => List.mem_cons_of_mem _ (List.mem_append_left _ (List.mem_append_right _ h))
  have hD := hD0.self (sz := s.heap.size)
  obtain ⟨A, hAe⟩ := nm_ex (va_A (oTM q0 qn0 qk0 qr0 qc0 qt0 qd0 qs0 qf0 qw0 rowCount anyKept (oPort C qn0 qn1 qn2 qn3 qn4 qn5 qn6 now [])) s.heap.size)
  rw [← hAe] at hD hE ⊢
  have hA : ∀ q : Nat, s.heap.size ≤ q → A q := fun q h => by rw [hAe]; exact Or.inr h
  have hS : va_S A s.heap s.heap [] := va_S.rf
  have hl := lv_entry ([.ref q0, .int x0, .int x1]) (n := 3) (Nat.le_of_ble_eq_true rfl)
  rw [lg_entry_eq]
  generalize (lg_sl ([.ref q0, .int x0, .int x1]) ++ List.replicate (3 - (lg_sl ([.ref q0, .int x0, .int x1])).length) Slot.unset).toArray = ls at hl ⊢
  have hl : lv_has ls 3 [(0, .ref q0), (1, .int x0), (2, .int x1)] := hl
  obtain ⟨Q, hQ⟩ := nm_ex (MQ below (QI D C (oTM q0 qn0 qk0 qr0 qc0 qt0 qd0 qs0 qf0 qw0 rowCount anyKept (oPort C qn0 qn1 qn2 qn3 qn4 qn5 qn6 now [])) (oTM q0 qn0 qk0 qr0 qc0 qt0 qd0 qs0 qf0 qw0 rowCount anyKept (oPort C qn0 qn1 qn2 qn3 qn4 qn5 qn6 now [])) s.heap.size r) (List.toArray [Value.ref q0, Value.int x0, Value.int x1]) s 0 0 A)
  show W p l e (headSpec wsX5_of (rmX5_of)).room s m (List.toArray [Value.ref q0, Value.int x0, Value.int x1]) below meth c s.heap [] 0 0 (MQ below (QI D C (oTM q0 qn0 qk0 qr0 qc0 qt0 qd0 qs0 qf0 qw0 rowCount anyKept (oPort C qn0 qn1 qn2 qn3 qn4 qn5 qn6 now [])) (oTM q0 qn0 qk0 qr0 qc0 qt0 qd0 qs0 qf0 qw0 rowCount anyKept (oPort C qn0 qn1 qn2 qn3 qn4 qn5 qn6 now [])) s.heap.size r) (List.toArray [Value.ref q0, Value.int x0, Value.int x1]) s 0 0 A) _
  rw [← hQ]
  unfold f_X5_of at hf
  have main : ∀ (H : Heap) (locs : List Loc), va_P D vwCl (oTM q0 qn0 qk0 qr0 qc0 qt0 qd0 qs0 qf0 qw0 rowCount anyKept (oPort C qn0 qn1 qn2 qn3 qn4 qn5 qn6 now [])) H → va_D A (oTM q0 qn0 qk0 qr0 qc0 qt0 qd0 qs0 qf0 qw0 rowCount anyKept (oPort C qn0 qn1 qn2 qn3 qn4 qn5 qn6 now [])) → va_S A s.heap H locs → W p l e (headSpec wsX5_of (rmX5_of)).room s m (List.toArray [Value.ref q0, Value.int x0, Value.int x1]) below meth c H locs 0 0 Q (F0 m 0 ls []) := by
    intro H locs hP hD hS
    refine lv_aload_n hx hb dX5_of_0 rfl (lv_at hl 0 rfl) ?_
    refine lv_iload_n hx hb dX5_of_1 rfl (lv_at hl 1 rfl) ?_
    refine kcz (Wx := (oTM q0 qn0 qk0 qr0 qc0 qt0 qd0 qs0 qf0 qw0 rowCount anyKept (oPort C qn0 qn1 qn2 qn3 qn4 qn5 qn6 now []))) (va_runV (As := [.int x0]) (rest := []) ⟨hx, hb, hml, hown, hts⟩ (c_X5_isMark l E D C q0 qn0 qk0 qr0 qc0 qt0 qd0 qs0 qf0 qw0 qn1 qn2 qn3 qn4 qn5 qn6 H.size rowCount anyKept now x0 _ rfl) (cwV 1 hts gX5_of_X5_isMark rfl rfl rfl hdX5_isMark ⟨Nat.le_of_ble_eq_true rfl, Nat.le_of_ble_eq_true rfl⟩) (kpreV hP hD hK hS hE hA [0, 1, 2, 3, 4, 5, 6, 7] rfl rfl 0 rfl rfl rfl) rfl rfl hl.1 rfl (lv_room (Nat.le_of_ble_eq_true rfl)) dX5_of_2 ⟨Nat.zero_le _, Nat.zero_le _⟩) hP hD hS hA [0, 1, 2, 3, 4, 5, 6, 7] rfl rfl rfl (fun H locs hz1 hP hD hS => ?_)
    refine lv_if_ne (tgt := 10) hx hb dX5_of_5 (by decide) (fun c2 => ?_) (fun c2 => ?_)
    · replace hf := if_fe c2 hf
      refine lv_iload_n hx hb dX5_of_10 rfl (lv_at hl 2 rfl) ?_
      by_cases c3 : x1 = 0
      · replace hf := if_te c3 hf
        refine lv_tableIn (x := x1) (tgt := 44) (off := 33) hx hb dX5_of_11 (by rw [c3]; decide) (by rw [c3]; decide) (by rw [c3]; try rfl) (by decide) ?_
        refine lv_aload_n hx hb dX5_of_44 rfl (lv_at hl 0 rfl) ?_
        refine va_get (D := D) (ci := 5) (v := .ref qn0) (C := RX5) (T := TX5) (N := 11) hx hb hts hi_RX5 hown hK hP 0 rfl rfl 0 (by decide) (hts (.fieldLink RX5 10 "TravelMarks" "now" "LTravelMarks$Port;") (List.mem_of_getElem? (i := 1) rfl)) (fun _ h9 => h9) rfl dX5_of_45 ?_
        refine va_get (D := D) (ci := 1) (v := .ref qn2) (C := RX1) (T := TX1) (N := 10) hx hb hts hi_RX1 hown hK hP 1 rfl rfl 1 (by decide) (hts (.fieldLink RX5 114 "TravelMarks$Port" "kind" "[I") (List.mem_of_getElem? (i := 2) rfl)) (fun _ h9 => h9) rfl dX5_of_48 ?_
        refine lv_iload_n hx hb dX5_of_51 rfl (lv_at hl 1 rfl) ?_
        obtain ⟨y5, ey5, hi4, hf⟩ := rdA_x hf
        refine va_iald hx hb hK hP 3 0 rfl rfl hi4 dX5_of_52 ?_
        refine lv_ren ey5 ?_
        cases hf
        exact kri hQ hAe hx hb hr hlocks hP hD hK hS dX5_of_53
      replace hf := if_fe c3 hf
      by_cases c6 : x1 = 1
      · replace hf := if_te c6 hf
        refine lv_tableIn (x := x1) (tgt := 54) (off := 43) hx hb dX5_of_11 (by rw [c6]; decide) (by rw [c6]; decide) (by rw [c6]; try rfl) (by decide) ?_
        refine lv_aload_n hx hb dX5_of_54 rfl (lv_at hl 0 rfl) ?_
        refine va_get (D := D) (ci := 5) (v := .ref qn0) (C := RX5) (T := TX5) (N := 11) hx hb hts hi_RX5 hown hK hP 0 rfl rfl 0 (by decide) (hts (.fieldLink RX5 10 "TravelMarks" "now" "LTravelMarks$Port;") (List.mem_of_getElem? (i := 1) rfl)) (fun _ h9 => h9) rfl dX5_of_55 ?_
        refine va_get (D := D) (ci := 1) (v := .ref qn3) (C := RX1) (T := TX1) (N := 10) hx hb hts hi_RX1 hown hK hP 1 rfl rfl 2 (by decide) (hts (.fieldLink RX5 117 "TravelMarks$Port" "ink" "[I") (List.mem_of_getElem? (i := 3) rfl)) (fun _ h9 => h9) rfl dX5_of_58 ?_
        refine lv_iload_n hx hb dX5_of_61 rfl (lv_at hl 1 rfl) ?_
        obtain ⟨y8, ey8, hi7, hf⟩ := rdA_x hf
        refine va_iald hx hb hK hP 4 0 rfl rfl hi7 dX5_of_62 ?_
        refine lv_ren ey8 ?_
        cases hf
        exact kri hQ hAe hx hb hr hlocks hP hD hK hS dX5_of_63
      replace hf := if_fe c6 hf
      by_cases c9 : x1 = 2
      · replace hf := if_te c9 hf
        refine lv_tableIn (x := x1) (tgt := 64) (off := 53) hx hb dX5_of_11 (by rw [c9]; decide) (by rw [c9]; decide) (by rw [c9]; try rfl) (by decide) ?_
        refine lv_aload_n hx hb dX5_of_64 rfl (lv_at hl 0 rfl) ?_
        refine va_get (D := D) (ci := 5) (v := .ref qn0) (C := RX5) (T := TX5) (N := 11) hx hb hts hi_RX5 hown hK hP 0 rfl rfl 0 (by decide) (hts (.fieldLink RX5 10 "TravelMarks" "now" "LTravelMarks$Port;") (List.mem_of_getElem? (i := 1) rfl)) (fun _ h9 => h9) rfl dX5_of_65 ?_
        refine va_get (D := D) (ci := 1) (v := .ref qn4) (C := RX1) (T := TX1) (N := 10) hx hb hts hi_RX1 hown hK hP 1 rfl rfl 3 (by decide) (hts (.fieldLink RX5 120 "TravelMarks$Port" "on" "[I") (List.mem_of_getElem? (i := 4) rfl)) (fun _ h9 => h9) rfl dX5_of_68 ?_
        refine lv_iload_n hx hb dX5_of_71 rfl (lv_at hl 1 rfl) ?_
        obtain ⟨y11, ey11, hi10, hf⟩ := rdA_x hf
        refine va_iald hx hb hK hP 5 0 rfl rfl hi10 dX5_of_72 ?_
        refine lv_ren ey11 ?_
        cases hf
        exact kri hQ hAe hx hb hr hlocks hP hD hK hS dX5_of_73
      replace hf := if_fe c9 hf
      by_cases c12 : x1 = 3
      · replace hf := if_te c12 hf
        refine lv_tableIn (x := x1) (tgt := 74) (off := 63) hx hb dX5_of_11 (by rw [c12]; decide) (by rw [c12]; decide) (by rw [c12]; try rfl) (by decide) ?_
        refine lv_aload_n hx hb dX5_of_74 rfl (lv_at hl 0 rfl) ?_
        refine va_get (D := D) (ci := 5) (v := .ref qn0) (C := RX5) (T := TX5) (N := 11) hx hb hts hi_RX5 hown hK hP 0 rfl rfl 0 (by decide) (hts (.fieldLink RX5 10 "TravelMarks" "now" "LTravelMarks$Port;") (List.mem_of_getElem? (i := 1) rfl)) (fun _ h9 => h9) rfl dX5_of_75 ?_
        refine lv_iload_n hx hb dX5_of_78 rfl (lv_at hl 1 rfl) ?_
        obtain ⟨r13, h14, hf⟩ := ob1_e hf
        refine kci (Wx := (oTM q0 qn0 qk0 qr0 qc0 qt0 qd0 qs0 qf0 qw0 rowCount anyKept (oPort C qn0 qn1 qn2 qn3 qn4 qn5 qn6 now []))) (va_runV (As := [.int x0]) (rest := []) ⟨hx, hb, hml, hown, hts⟩ (c_X1_fading l E D C qn0 qn1 qn2 qn3 qn4 qn5 qn6 H.size now x0 r13 h14) (cwV 1 hts gX5_of_X1_fading rfl rfl rfl hdX1_fading ⟨Nat.le_of_ble_eq_true rfl, Nat.le_of_ble_eq_true rfl⟩) (kpreV hP hD hK hS hE hA [1, 2, 3, 4, 5, 6, 7] rfl rfl 1 rfl rfl rfl) rfl rfl hl.1 rfl (lv_room (Nat.le_of_ble_eq_true rfl)) dX5_of_79 ⟨Nat.zero_le _, Nat.zero_le _⟩) hP hD hS hA [1, 2, 3, 4, 5, 6, 7] rfl rfl rfl (fun H locs hP hD hS => ?_)
        refine lv_sipush (v := 1000) hx hb dX5_of_82 rfl ?_
        refine lv_iadd hx hb dX5_of_85 ?_
        obtain ⟨t15, et15, hf⟩ := lj_e hf
        refine lv_ren et15 ?_
        cases hf
        exact kri hQ hAe hx hb hr hlocks hP hD hK hS dX5_of_86
      replace hf := if_fe c12 hf
      by_cases c16 : x1 = 4
      · replace hf := if_te c16 hf
        refine lv_tableIn (x := x1) (tgt := 87) (off := 76) hx hb dX5_of_11 (by rw [c16]; decide) (by rw [c16]; decide) (by rw [c16]; try rfl) (by decide) ?_
        refine lv_aload_n hx hb dX5_of_87 rfl (lv_at hl 0 rfl) ?_
        refine va_get (D := D) (ci := 5) (v := .ref qn0) (C := RX5) (T := TX5) (N := 11) hx hb hts hi_RX5 hown hK hP 0 rfl rfl 0 (by decide) (hts (.fieldLink RX5 10 "TravelMarks" "now" "LTravelMarks$Port;") (List.mem_of_getElem? (i := 1) rfl)) (fun _ h9 => h9) rfl dX5_of_88 ?_
        refine lv_iload_n hx hb dX5_of_91 rfl (lv_at hl 1 rfl) ?_
        obtain ⟨r17, h18, hf⟩ := ob1_e hf
        refine kcz (Wx := (oTM q0 qn0 qk0 qr0 qc0 qt0 qd0 qs0 qf0 qw0 rowCount anyKept (oPort C qn0 qn1 qn2 qn3 qn4 qn5 qn6 now []))) (va_runV (As := [.int x0]) (rest := []) ⟨hx, hb, hml, hown, hts⟩ (c_X1_goesNow l E D C qn0 qn1 qn2 qn3 qn4 qn5 qn6 H.size N now x0 r17 h18) (cwV 1 hts gX5_of_X1_goesNow rfl rfl rfl hdX1_goesNow ⟨Nat.le_of_ble_eq_true rfl, Nat.le_of_ble_eq_true rfl⟩) (kpreV hP hD hK hS hE hA [1, 2, 3, 4, 5, 6, 7] rfl rfl 1 rfl rfl rfl) rfl rfl hl.1 rfl (lv_room (Nat.le_of_ble_eq_true rfl)) dX5_of_92 ⟨Nat.zero_le _, Nat.zero_le _⟩) hP hD hS hA [1, 2, 3, 4, 5, 6, 7] rfl rfl rfl (fun H locs hz19 hP hD hS => ?_)
        refine lv_if_eq (tgt := 102) hx hb dX5_of_95 (by decide) (fun c20 => ?_) (fun c20 => ?_)
        · replace hf := if_te c20 hf
          refine lv_iconst (v := 0) hx hb dX5_of_102 rfl ?_
          cases hf
          exact kri hQ hAe hx hb hr hlocks hP hD hK hS dX5_of_103
        · replace hf := if_fe c20 hf
          refine lv_iconst (v := 1) hx hb dX5_of_98 rfl ?_
          refine lv_goto (tgt := 103) hx hb dX5_of_99 (by decide) ?_
          cases hf
          exact kri hQ hAe hx hb hr hlocks hP hD hK hS dX5_of_103
      replace hf := if_fe c16 hf
      refine lv_tableOut (x := x1) (tgt := 104) hx hb dX5_of_11 (swo_0_4 c3 c6 c9 c12 c16) (by decide) ?_
      refine lv_iconst (v := (-1)) hx hb dX5_of_104 rfl ?_
      cases hf
      exact kri hQ hAe hx hb hr hlocks hP hD hK hS dX5_of_105
    · replace hf := if_te c2 hf
      refine lv_iconst (v := (-1)) hx hb dX5_of_8 rfl ?_
      cases hf
      exact kri hQ hAe hx hb hr hlocks hP hD hK hS dX5_of_9
  exact main _ _ hP hD hS

def rmX5_mind : Room := { frames := 2, cells := 0, slots := 0, locals := 43 }
theorem hdX5_mind : yX5_mind.cls = RX5 ∧ yX5_mind.cls ≠ "java/lang/invoke/MethodHandle" ∧ yX5_mind.cls ≠ "java/lang/invoke/VarHandle" ∧ (parseMethodDescriptor yX5_mind.desc).map (fun d => d.parameters.length) = some 3 := by decide +kernel
set_option maxHeartbeats 40000000 in
set_option maxRecDepth 100000 in
theorem c_X5_mind (l : Launch) (E : Nat → Nat) (D : va_G) (C : Nat → ClassId) (q0 qn0 qk0 qr0 qc0 qt0 qd0 qs0 qf0 qw0 qn1 qn2 qn3 qn4 qn5 qn6 : Nat) (sz : Nat) (rowCount : Int32) (anyKept : Int32) (now : PV) (x0 : Int32) (x1 : Int32) (x2 : Int32) (r : Int32) (now' : PV) (hf : f_X5_mind now x0 x1 x2 = some (r, now')) : Met l yX5_mind wsX5_mind rmX5_mind (PC E D C [.ref q0, .int x0, .int x1, .int x2] (oTM q0 qn0 qk0 qr0 qc0 qt0 qd0 qs0 qf0 qw0 rowCount anyKept (oPort C qn0 qn1 qn2 qn3 qn4 qn5 qn6 now [])) sz) (QI D C (oTM q0 qn0 qk0 qr0 qc0 qt0 qd0 qs0 qf0 qw0 rowCount anyKept (oPort C qn0 qn1 qn2 qn3 qn4 qn5 qn6 now [])) (oTM q0 qn0 qk0 qr0 qc0 qt0 qd0 qs0 qf0 qw0 rowCount anyKept (oPort C qn0 qn1 qn2 qn3 qn4 qn5 qn6 (now') [])) sz r) 0 0 (va_A (oTM q0 qn0 qk0 qr0 qc0 qt0 qd0 qs0 qf0 qw0 rowCount anyKept (oPort C qn0 qn1 qn2 qn3 qn4 qn5 qn6 now [])) sz) := by
  refine Met.ofW (cc := cX5_mind) (maxL := 5) (ret := (some .int)) (by decide) rfl ?_
  intro p e s m args below meth c s₁ B hml hv
  obtain ⟨rfl, hsz, hP, hK, hD0, hE⟩ := hv
  have hx := B.exec
  have hb := B.bytes
  have hr := B.returns
  have hts := atoms_spec (ws := wsX5_mind) B.pre
  have hown : s.vm.findClass RX5 = some m.cls := findClass_of_methodNamed B.named
  have hlocks := B.notSynchronized
  subst hsz
  have hi_RX1 : ∀ w ∈ wsX10, w ∈ wsX5_mind := fun _ h => List.mem_cons_of_mem _ (List.mem_append_right _ h)
  have hi_RX5 : ∀ w ∈ wsX50, w ∈ wsX5_mind := fun _ h => List.mem_cons_of_mem _ (List.mem_append_left _ (List.mem_append_right _ h))
  have hD := hD0.self (sz := s.heap.size)
  obtain ⟨A, hAe⟩ := nm_ex (va_A (oTM q0 qn0 qk0 qr0 qc0 qt0 qd0 qs0 qf0 qw0 rowCount anyKept (oPort C qn0 qn1 qn2 qn3 qn4 qn5 qn6 now [])) s.heap.size)
  rw [← hAe] at hD hE ⊢
  have hA : ∀ q : Nat, s.heap.size ≤ q → A q := fun q h => by rw [hAe]; exact Or.inr h
  have hS : va_S A s.heap s.heap [] := va_S.rf
  have hl := lv_entry ([.ref q0, .int x0, .int x1, .int x2]) (n := 5) (Nat.le_of_ble_eq_true rfl)
  rw [lg_entry_eq]
  generalize (lg_sl ([.ref q0, .int x0, .int x1, .int x2]) ++ List.replicate (5 - (lg_sl ([.ref q0, .int x0, .int x1, .int x2])).length) Slot.unset).toArray = ls at hl ⊢
  have hl : lv_has ls 5 [(0, .ref q0), (1, .int x0), (2, .int x1), (3, .int x2)] := hl
  obtain ⟨Q, hQ⟩ := nm_ex (MQ below (QI D C (oTM q0 qn0 qk0 qr0 qc0 qt0 qd0 qs0 qf0 qw0 rowCount anyKept (oPort C qn0 qn1 qn2 qn3 qn4 qn5 qn6 now [])) (oTM q0 qn0 qk0 qr0 qc0 qt0 qd0 qs0 qf0 qw0 rowCount anyKept (oPort C qn0 qn1 qn2 qn3 qn4 qn5 qn6 (now') [])) s.heap.size r) (List.toArray [Value.ref q0, Value.int x0, Value.int x1, Value.int x2]) s 0 0 A)
  show W p l e (headSpec wsX5_mind (rmX5_mind)).room s m (List.toArray [Value.ref q0, Value.int x0, Value.int x1, Value.int x2]) below meth c s.heap [] 0 0 (MQ below (QI D C (oTM q0 qn0 qk0 qr0 qc0 qt0 qd0 qs0 qf0 qw0 rowCount anyKept (oPort C qn0 qn1 qn2 qn3 qn4 qn5 qn6 now [])) (oTM q0 qn0 qk0 qr0 qc0 qt0 qd0 qs0 qf0 qw0 rowCount anyKept (oPort C qn0 qn1 qn2 qn3 qn4 qn5 qn6 (now') [])) s.heap.size r) (List.toArray [Value.ref q0, Value.int x0, Value.int x1, Value.int x2]) s 0 0 A) _
  rw [← hQ]
  unfold f_X5_mind at hf
  have main : ∀ (H : Heap) (locs : List Loc), va_P D vwCl (oTM q0 qn0 qk0 qr0 qc0 qt0 qd0 qs0 qf0 qw0 rowCount anyKept (oPort C qn0 qn1 qn2 qn3 qn4 qn5 qn6 now [])) H → va_D A (oTM q0 qn0 qk0 qr0 qc0 qt0 qd0 qs0 qf0 qw0 rowCount anyKept (oPort C qn0 qn1 qn2 qn3 qn4 qn5 qn6 now [])) → va_S A s.heap H locs → W p l e (headSpec wsX5_mind (rmX5_mind)).room s m (List.toArray [Value.ref q0, Value.int x0, Value.int x1, Value.int x2]) below meth c H locs 0 0 Q (F0 m 0 ls []) := by
    intro H locs hP hD hS
    refine lv_aload_n hx hb dX5_mind_0 rfl (lv_at hl 0 rfl) ?_
    refine lv_iload_n hx hb dX5_mind_1 rfl (lv_at hl 1 rfl) ?_
    refine kcz (Wx := (oTM q0 qn0 qk0 qr0 qc0 qt0 qd0 qs0 qf0 qw0 rowCount anyKept (oPort C qn0 qn1 qn2 qn3 qn4 qn5 qn6 now []))) (va_runV (As := [.int x0]) (rest := []) ⟨hx, hb, hml, hown, hts⟩ (c_X5_isMark l E D C q0 qn0 qk0 qr0 qc0 qt0 qd0 qs0 qf0 qw0 qn1 qn2 qn3 qn4 qn5 qn6 H.size rowCount anyKept now x0 _ rfl) (cwV 1 hts gX5_mind_X5_isMark rfl rfl rfl hdX5_isMark ⟨Nat.le_of_ble_eq_true rfl, Nat.le_of_ble_eq_true rfl⟩) (kpreV hP hD hK hS hE hA [0, 1, 2, 3, 4, 5, 6, 7] rfl rfl 0 rfl rfl rfl) rfl rfl hl.1 rfl (lv_room (Nat.le_of_ble_eq_true rfl)) dX5_mind_2 ⟨Nat.zero_le _, Nat.zero_le _⟩) hP hD hS hA [0, 1, 2, 3, 4, 5, 6, 7] rfl rfl rfl (fun H locs hz1 hP hD hS => ?_)
    refine lv_if_eq (tgt := 22) hx hb dX5_mind_5 (by decide) (fun c2 => ?_) (fun c2 => ?_)
    · replace hf := if_te c2 hf
      refine lv_iconst (v := (-1)) hx hb dX5_mind_22 rfl ?_
      cases hf
      exact kri hQ hAe hx hb hr hlocks hP hD hK hS dX5_mind_23
    · replace hf := if_fe c2 hf
      refine lv_iload_n hx hb dX5_mind_8 rfl (lv_at hl 2 rfl) ?_
      refine kcz (Wx := (oTM q0 qn0 qk0 qr0 qc0 qt0 qd0 qs0 qf0 qw0 rowCount anyKept (oPort C qn0 qn1 qn2 qn3 qn4 qn5 qn6 now []))) (va_runS (As := [.int x1]) (rest := []) ⟨hx, hb, hml, hown, hts⟩ (c_X5_isKind l E D C H.size x1 _ rfl) (va_cwS 1 hts gX5_mind_X5_isKind rfl rfl rfl hdX5_isKind ⟨Nat.le_of_ble_eq_true rfl, Nat.le_of_ble_eq_true rfl⟩) (kpre hP hD hK hS hE hA [] rfl rfl) rfl rfl hl.1 rfl (lv_room (Nat.le_of_ble_eq_true rfl)) dX5_mind_9 ⟨Nat.zero_le _, Nat.zero_le _⟩) hP hD hS hA [] rfl rfl rfl (fun H locs hz3 hP hD hS => ?_)
      refine lv_if_eq (tgt := 22) hx hb dX5_mind_12 (by decide) (fun c4 => ?_) (fun c4 => ?_)
      · replace hf := if_te c4 hf
        refine lv_iconst (v := (-1)) hx hb dX5_mind_22 rfl ?_
        cases hf
        exact kri hQ hAe hx hb hr hlocks hP hD hK hS dX5_mind_23
      · replace hf := if_fe c4 hf
        refine lv_iload_n hx hb dX5_mind_15 rfl (lv_at hl 3 rfl) ?_
        refine kcz (Wx := (oTM q0 qn0 qk0 qr0 qc0 qt0 qd0 qs0 qf0 qw0 rowCount anyKept (oPort C qn0 qn1 qn2 qn3 qn4 qn5 qn6 now []))) (va_runS (As := [.int x2]) (rest := []) ⟨hx, hb, hml, hown, hts⟩ (c_X5_isInk l E D C H.size x2 _ rfl) (va_cwS 1 hts gX5_mind_X5_isInk rfl rfl rfl hdX5_isInk ⟨Nat.le_of_ble_eq_true rfl, Nat.le_of_ble_eq_true rfl⟩) (kpre hP hD hK hS hE hA [] rfl rfl) rfl rfl hl.1 rfl (lv_room (Nat.le_of_ble_eq_true rfl)) dX5_mind_16 ⟨Nat.zero_le _, Nat.zero_le _⟩) hP hD hS hA [] rfl rfl rfl (fun H locs hz5 hP hD hS => ?_)
        refine lv_if_ne (tgt := 24) hx hb dX5_mind_19 (by decide) (fun c6 => ?_) (fun c6 => ?_)
        · replace hf := if_fe c6 hf
          refine lv_aload_n hx hb dX5_mind_24 rfl (lv_at hl 0 rfl) ?_
          refine va_get (D := D) (ci := 5) (v := .ref qn0) (C := RX5) (T := TX5) (N := 11) hx hb hts hi_RX5 hown hK hP 0 rfl rfl 0 (by decide) (hts (.fieldLink RX5 10 "TravelMarks" "now" "LTravelMarks$Port;") (List.mem_of_getElem? (i := 1) rfl)) (fun _ h9 => h9) rfl dX5_mind_25 ?_
          refine va_get (D := D) (ci := 1) (v := .ref qn2) (C := RX1) (T := TX1) (N := 10) hx hb hts hi_RX1 hown hK hP 1 rfl rfl 1 (by decide) (hts (.fieldLink RX5 114 "TravelMarks$Port" "kind" "[I") (List.mem_of_getElem? (i := 2) rfl)) (fun _ h9 => h9) rfl dX5_mind_28 ?_
          refine lv_iload_n hx hb dX5_mind_31 rfl (lv_at hl 1 rfl) ?_
          obtain ⟨y8, ey8, hi7, hf⟩ := rdA_x hf
          refine va_iald hx hb hK hP 3 0 rfl rfl hi7 dX5_mind_32 ?_
          refine lv_ren ey8 ?_
          refine lv_istore (lv' := [(4, .int y8), (0, .ref q0), (1, .int x0), (2, .int x1), (3, .int x2)]) hx hb dX5_mind_33 hl (by decide) rfl (fun ls hl => ?_)
          refine lv_aload_n hx hb dX5_mind_35 rfl (lv_at hl 1 rfl) ?_
          refine va_get (D := D) (ci := 5) (v := .ref qn0) (C := RX5) (T := TX5) (N := 11) hx hb hts hi_RX5 hown hK hP 0 rfl rfl 0 (by decide) (hts (.fieldLink RX5 10 "TravelMarks" "now" "LTravelMarks$Port;") (List.mem_of_getElem? (i := 1) rfl)) (fun _ h9 => h9) rfl dX5_mind_36 ?_
          refine va_get (D := D) (ci := 1) (v := .ref qn2) (C := RX1) (T := TX1) (N := 10) hx hb hts hi_RX1 hown hK hP 1 rfl rfl 1 (by decide) (hts (.fieldLink RX5 114 "TravelMarks$Port" "kind" "[I") (List.mem_of_getElem? (i := 2) rfl)) (fun _ h9 => h9) rfl dX5_mind_39 ?_
          refine lv_iload_n hx hb dX5_mind_42 rfl (lv_at hl 2 rfl) ?_
          refine lv_iload_n hx hb dX5_mind_43 rfl (lv_at hl 3 rfl) ?_
          obtain ⟨hi9, hf⟩ := ckA_e hf
          refine va_iast hx hb hK hP hD hS 3 0 rfl rfl hi9 dX5_mind_44 (fun H locs hP hD hS => ?_)
          obtain ⟨v10, ev10, hf⟩ := lj_e hf
          have hP : va_P D vwCl (oTM q0 qn0 qk0 qr0 qc0 qt0 qd0 qs0 qf0 qw0 rowCount anyKept (oPort C qn0 qn1 qn2 qn3 qn4 qn5 qn6 v10 [])) H := by rw [ev10]; exact hP
          have hD : va_D A (oTM q0 qn0 qk0 qr0 qc0 qt0 qd0 qs0 qf0 qw0 rowCount anyKept (oPort C qn0 qn1 qn2 qn3 qn4 qn5 qn6 v10 [])) := by rw [ev10]; exact hD
          refine lv_aload_n hx hb dX5_mind_45 rfl (lv_at hl 1 rfl) ?_
          refine va_get (D := D) (ci := 5) (v := .ref qn0) (C := RX5) (T := TX5) (N := 11) hx hb hts hi_RX5 hown hK hP 0 rfl rfl 0 (by decide) (hts (.fieldLink RX5 10 "TravelMarks" "now" "LTravelMarks$Port;") (List.mem_of_getElem? (i := 1) rfl)) (fun _ h9 => h9) rfl dX5_mind_46 ?_
          refine va_get (D := D) (ci := 1) (v := .ref qn3) (C := RX1) (T := TX1) (N := 10) hx hb hts hi_RX1 hown hK hP 1 rfl rfl 2 (by decide) (hts (.fieldLink RX5 117 "TravelMarks$Port" "ink" "[I") (List.mem_of_getElem? (i := 3) rfl)) (fun _ h9 => h9) rfl dX5_mind_49 ?_
          refine lv_iload_n hx hb dX5_mind_52 rfl (lv_at hl 2 rfl) ?_
          refine lv_iload_n hx hb dX5_mind_53 rfl (lv_at hl 4 rfl) ?_
          obtain ⟨hi11, hf⟩ := ckA_e hf
          refine va_iast hx hb hK hP hD hS 4 0 rfl rfl hi11 dX5_mind_54 (fun H locs hP hD hS => ?_)
          obtain ⟨v12, ev12, hf⟩ := lj_e hf
          have hP : va_P D vwCl (oTM q0 qn0 qk0 qr0 qc0 qt0 qd0 qs0 qf0 qw0 rowCount anyKept (oPort C qn0 qn1 qn2 qn3 qn4 qn5 qn6 v12 [])) H := by rw [ev12]; exact hP
          have hD : va_D A (oTM q0 qn0 qk0 qr0 qc0 qt0 qd0 qs0 qf0 qw0 rowCount anyKept (oPort C qn0 qn1 qn2 qn3 qn4 qn5 qn6 v12 [])) := by rw [ev12]; exact hD
          refine lv_iload hx hb dX5_mind_55 (lv_at hl 0 rfl) ?_
          cases hf
          exact kri hQ hAe hx hb hr hlocks hP hD hK hS dX5_mind_57
        · replace hf := if_te c6 hf
          refine lv_iconst (v := (-1)) hx hb dX5_mind_22 rfl ?_
          cases hf
          exact kri hQ hAe hx hb hr hlocks hP hD hK hS dX5_mind_23
  exact main _ _ hP hD hS

def rmX5_move : Room := { frames := 2, cells := 0, slots := 0, locals := 43 }
theorem hdX5_move : yX5_move.cls = RX5 ∧ yX5_move.cls ≠ "java/lang/invoke/MethodHandle" ∧ yX5_move.cls ≠ "java/lang/invoke/VarHandle" ∧ (parseMethodDescriptor yX5_move.desc).map (fun d => d.parameters.length) = some 2 := by decide +kernel
set_option maxHeartbeats 40000000 in
set_option maxRecDepth 100000 in
theorem c_X5_move (l : Launch) (E : Nat → Nat) (D : va_G) (C : Nat → ClassId) (q0 qn0 qk0 qr0 qc0 qt0 qd0 qs0 qf0 qw0 qn1 qn2 qn3 qn4 qn5 qn6 : Nat) (sz : Nat) (rowCount : Int32) (anyKept : Int32) (now : PV) (x0 : Int32) (x1 : Int32) (r : Int32) (now' : PV) (hf : f_X5_move now x0 x1 = some (r, now')) : Met l yX5_move wsX5_move rmX5_move (PC E D C [.ref q0, .int x0, .int x1] (oTM q0 qn0 qk0 qr0 qc0 qt0 qd0 qs0 qf0 qw0 rowCount anyKept (oPort C qn0 qn1 qn2 qn3 qn4 qn5 qn6 now [])) sz) (QI D C (oTM q0 qn0 qk0 qr0 qc0 qt0 qd0 qs0 qf0 qw0 rowCount anyKept (oPort C qn0 qn1 qn2 qn3 qn4 qn5 qn6 now [])) (oTM q0 qn0 qk0 qr0 qc0 qt0 qd0 qs0 qf0 qw0 rowCount anyKept (oPort C qn0 qn1 qn2 qn3 qn4 qn5 qn6 (now') [])) sz r) 0 0 (va_A (oTM q0 qn0 qk0 qr0 qc0 qt0 qd0 qs0 qf0 qw0 rowCount anyKept (oPort C qn0 qn1 qn2 qn3 qn4 qn5 qn6 now [])) sz) := by
  refine Met.ofW (cc := cX5_move) (maxL := 4) (ret := (some .int)) (by decide) rfl ?_
  intro p e s m args below meth c s₁ B hml hv
  obtain ⟨rfl, hsz, hP, hK, hD0, hE⟩ := hv
  have hx := B.exec
  have hb := B.bytes
  have hr := B.returns
  have hts := atoms_spec (ws := wsX5_move) B.pre
  have hown : s.vm.findClass RX5 = some m.cls := findClass_of_methodNamed B.named
  have hlocks := B.notSynchronized
  subst hsz
  have hi_RX1 : ∀ w ∈ wsX10, w ∈ wsX5_move := fun _ h => List.mem_cons_of_mem _ (List.mem_append_right _ h)
  have hi_RX5 : ∀ w ∈ wsX50, w ∈ wsX5_move := fun _ h => List.mem_cons_of_mem _ (List.mem_append_left _ (List.mem_append_right _ h))
  have hD := hD0.self (sz := s.heap.size)
  obtain ⟨A, hAe⟩ := nm_ex (va_A (oTM q0 qn0 qk0 qr0 qc0 qt0 qd0 qs0 qf0 qw0 rowCount anyKept (oPort C qn0 qn1 qn2 qn3 qn4 qn5 qn6 now [])) s.heap.size)
  rw [← hAe] at hD hE ⊢
  have hA : ∀ q : Nat, s.heap.size ≤ q → A q := fun q h => by rw [hAe]; exact Or.inr h
  have hS : va_S A s.heap s.heap [] := va_S.rf
  have hl := lv_entry ([.ref q0, .int x0, .int x1]) (n := 4) (Nat.le_of_ble_eq_true rfl)
  rw [lg_entry_eq]
  generalize (lg_sl ([.ref q0, .int x0, .int x1]) ++ List.replicate (4 - (lg_sl ([.ref q0, .int x0, .int x1])).length) Slot.unset).toArray = ls at hl ⊢
  have hl : lv_has ls 4 [(0, .ref q0), (1, .int x0), (2, .int x1)] := hl
  obtain ⟨Q, hQ⟩ := nm_ex (MQ below (QI D C (oTM q0 qn0 qk0 qr0 qc0 qt0 qd0 qs0 qf0 qw0 rowCount anyKept (oPort C qn0 qn1 qn2 qn3 qn4 qn5 qn6 now [])) (oTM q0 qn0 qk0 qr0 qc0 qt0 qd0 qs0 qf0 qw0 rowCount anyKept (oPort C qn0 qn1 qn2 qn3 qn4 qn5 qn6 (now') [])) s.heap.size r) (List.toArray [Value.ref q0, Value.int x0, Value.int x1]) s 0 0 A)
  show W p l e (headSpec wsX5_move (rmX5_move)).room s m (List.toArray [Value.ref q0, Value.int x0, Value.int x1]) below meth c s.heap [] 0 0 (MQ below (QI D C (oTM q0 qn0 qk0 qr0 qc0 qt0 qd0 qs0 qf0 qw0 rowCount anyKept (oPort C qn0 qn1 qn2 qn3 qn4 qn5 qn6 now [])) (oTM q0 qn0 qk0 qr0 qc0 qt0 qd0 qs0 qf0 qw0 rowCount anyKept (oPort C qn0 qn1 qn2 qn3 qn4 qn5 qn6 (now') [])) s.heap.size r) (List.toArray [Value.ref q0, Value.int x0, Value.int x1]) s 0 0 A) _
  rw [← hQ]
  unfold f_X5_move at hf
  have main : ∀ (H : Heap) (locs : List Loc), va_P D vwCl (oTM q0 qn0 qk0 qr0 qc0 qt0 qd0 qs0 qf0 qw0 rowCount anyKept (oPort C qn0 qn1 qn2 qn3 qn4 qn5 qn6 now [])) H → va_D A (oTM q0 qn0 qk0 qr0 qc0 qt0 qd0 qs0 qf0 qw0 rowCount anyKept (oPort C qn0 qn1 qn2 qn3 qn4 qn5 qn6 now [])) → va_S A s.heap H locs → W p l e (headSpec wsX5_move (rmX5_move)).room s m (List.toArray [Value.ref q0, Value.int x0, Value.int x1]) below meth c H locs 0 0 Q (F0 m 0 ls []) := by
    intro H locs hP hD hS
    refine lv_aload_n hx hb dX5_move_0 rfl (lv_at hl 0 rfl) ?_
    refine lv_iload_n hx hb dX5_move_1 rfl (lv_at hl 1 rfl) ?_
    refine kcz (Wx := (oTM q0 qn0 qk0 qr0 qc0 qt0 qd0 qs0 qf0 qw0 rowCount anyKept (oPort C qn0 qn1 qn2 qn3 qn4 qn5 qn6 now []))) (va_runV (As := [.int x0]) (rest := []) ⟨hx, hb, hml, hown, hts⟩ (c_X5_isMark l E D C q0 qn0 qk0 qr0 qc0 qt0 qd0 qs0 qf0 qw0 qn1 qn2 qn3 qn4 qn5 qn6 H.size rowCount anyKept now x0 _ rfl) (cwV 1 hts gX5_move_X5_isMark rfl rfl rfl hdX5_isMark ⟨Nat.le_of_ble_eq_true rfl, Nat.le_of_ble_eq_true rfl⟩) (kpreV hP hD hK hS hE hA [0, 1, 2, 3, 4, 5, 6, 7] rfl rfl 0 rfl rfl rfl) rfl rfl hl.1 rfl (lv_room (Nat.le_of_ble_eq_true rfl)) dX5_move_2 ⟨Nat.zero_le _, Nat.zero_le _⟩) hP hD hS hA [0, 1, 2, 3, 4, 5, 6, 7] rfl rfl rfl (fun H locs hz1 hP hD hS => ?_)
    refine lv_if_eq (tgt := 15) hx hb dX5_move_5 (by decide) (fun c2 => ?_) (fun c2 => ?_)
    · replace hf := if_te c2 hf
      refine lv_iconst (v := (-1)) hx hb dX5_move_15 rfl ?_
      cases hf
      exact kri hQ hAe hx hb hr hlocks hP hD hK hS dX5_move_16
    · replace hf := if_fe c2 hf
      refine lv_iload_n hx hb dX5_move_8 rfl (lv_at hl 2 rfl) ?_
      refine kcz (Wx := (oTM q0 qn0 qk0 qr0 qc0 qt0 qd0 qs0 qf0 qw0 rowCount anyKept (oPort C qn0 qn1 qn2 qn3 qn4 qn5 qn6 now []))) (va_runS (As := [.int x1]) (rest := []) ⟨hx, hb, hml, hown, hts⟩ (c_X5_isOne l E D C H.size x1 _ rfl) (va_cwS 1 hts gX5_move_X5_isOne rfl rfl rfl hdX5_isOne ⟨Nat.le_of_ble_eq_true rfl, Nat.le_of_ble_eq_true rfl⟩) (kpre hP hD hK hS hE hA [] rfl rfl) rfl rfl hl.1 rfl (lv_room (Nat.le_of_ble_eq_true rfl)) dX5_move_9 ⟨Nat.zero_le _, Nat.zero_le _⟩) hP hD hS hA [] rfl rfl rfl (fun H locs hz3 hP hD hS => ?_)
      refine lv_if_ne (tgt := 17) hx hb dX5_move_12 (by decide) (fun c4 => ?_) (fun c4 => ?_)
      · replace hf := if_fe c4 hf
        refine lv_aload_n hx hb dX5_move_17 rfl (lv_at hl 0 rfl) ?_
        refine va_get (D := D) (ci := 5) (v := .ref qn0) (C := RX5) (T := TX5) (N := 11) hx hb hts hi_RX5 hown hK hP 0 rfl rfl 0 (by decide) (hts (.fieldLink RX5 10 "TravelMarks" "now" "LTravelMarks$Port;") (List.mem_of_getElem? (i := 1) rfl)) (fun _ h9 => h9) rfl dX5_move_18 ?_
        refine va_get (D := D) (ci := 1) (v := .ref qn4) (C := RX1) (T := TX1) (N := 10) hx hb hts hi_RX1 hown hK hP 1 rfl rfl 3 (by decide) (hts (.fieldLink RX5 120 "TravelMarks$Port" "on" "[I") (List.mem_of_getElem? (i := 2) rfl)) (fun _ h9 => h9) rfl dX5_move_21 ?_
        refine lv_iload_n hx hb dX5_move_24 rfl (lv_at hl 1 rfl) ?_
        obtain ⟨y6, ey6, hi5, hf⟩ := rdA_x hf
        refine va_iald hx hb hK hP 5 0 rfl rfl hi5 dX5_move_25 ?_
        refine lv_ren ey6 ?_
        refine lv_istore_n (lv' := [(3, .int y6), (0, .ref q0), (1, .int x0), (2, .int x1)]) hx hb dX5_move_26 rfl hl (by decide) rfl (fun ls hl => ?_)
        refine lv_aload_n hx hb dX5_move_27 rfl (lv_at hl 1 rfl) ?_
        refine va_get (D := D) (ci := 5) (v := .ref qn0) (C := RX5) (T := TX5) (N := 11) hx hb hts hi_RX5 hown hK hP 0 rfl rfl 0 (by decide) (hts (.fieldLink RX5 10 "TravelMarks" "now" "LTravelMarks$Port;") (List.mem_of_getElem? (i := 1) rfl)) (fun _ h9 => h9) rfl dX5_move_28 ?_
        refine va_get (D := D) (ci := 1) (v := .ref qn4) (C := RX1) (T := TX1) (N := 10) hx hb hts hi_RX1 hown hK hP 1 rfl rfl 3 (by decide) (hts (.fieldLink RX5 120 "TravelMarks$Port" "on" "[I") (List.mem_of_getElem? (i := 2) rfl)) (fun _ h9 => h9) rfl dX5_move_31 ?_
        refine lv_iload_n hx hb dX5_move_34 rfl (lv_at hl 2 rfl) ?_
        refine lv_iload_n hx hb dX5_move_35 rfl (lv_at hl 3 rfl) ?_
        obtain ⟨hi7, hf⟩ := ckA_e hf
        refine va_iast hx hb hK hP hD hS 5 0 rfl rfl hi7 dX5_move_36 (fun H locs hP hD hS => ?_)
        obtain ⟨v8, ev8, hf⟩ := lj_e hf
        have hP : va_P D vwCl (oTM q0 qn0 qk0 qr0 qc0 qt0 qd0 qs0 qf0 qw0 rowCount anyKept (oPort C qn0 qn1 qn2 qn3 qn4 qn5 qn6 v8 [])) H := by rw [ev8]; exact hP
        have hD : va_D A (oTM q0 qn0 qk0 qr0 qc0 qt0 qd0 qs0 qf0 qw0 rowCount anyKept (oPort C qn0 qn1 qn2 qn3 qn4 qn5 qn6 v8 [])) := by rw [ev8]; exact hD
        refine lv_iload_n hx hb dX5_move_37 rfl (lv_at hl 0 rfl) ?_
        cases hf
        exact kri hQ hAe hx hb hr hlocks hP hD hK hS dX5_move_38
      · replace hf := if_te c4 hf
        refine lv_iconst (v := (-1)) hx hb dX5_move_15 rfl ?_
        cases hf
        exact kri hQ hAe hx hb hr hlocks hP hD hK hS dX5_move_16
  exact main _ _ hP hD hS

def rmX5_touch : Room := { frames := 2, cells := 0, slots := 0, locals := 42 }
theorem hdX5_touch : yX5_touch.cls = RX5 ∧ yX5_touch.cls ≠ "java/lang/invoke/MethodHandle" ∧ yX5_touch.cls ≠ "java/lang/invoke/VarHandle" ∧ (parseMethodDescriptor yX5_touch.desc).map (fun d => d.parameters.length) = some 3 := by decide +kernel
set_option maxHeartbeats 40000000 in
set_option maxRecDepth 100000 in
theorem c_X5_touch (l : Launch) (E : Nat → Nat) (D : va_G) (C : Nat → ClassId) (q0 qn0 qk0 qr0 qc0 qt0 qd0 qs0 qf0 qw0 qn1 qn2 qn3 qn4 qn5 qn6 : Nat) (sz : Nat) (rowCount : Int32) (anyKept : Int32) (now : PV) (x0 : Int32) (x1 : Int32) (x2 : Int32) (r : Int32) (now' : PV) (hf : f_X5_touch now x0 x1 x2 = some (r, now')) : Met l yX5_touch wsX5_touch rmX5_touch (PC E D C [.ref q0, .int x0, .int x1, .int x2] (oTM q0 qn0 qk0 qr0 qc0 qt0 qd0 qs0 qf0 qw0 rowCount anyKept (oPort C qn0 qn1 qn2 qn3 qn4 qn5 qn6 now [])) sz) (QI D C (oTM q0 qn0 qk0 qr0 qc0 qt0 qd0 qs0 qf0 qw0 rowCount anyKept (oPort C qn0 qn1 qn2 qn3 qn4 qn5 qn6 now [])) (oTM q0 qn0 qk0 qr0 qc0 qt0 qd0 qs0 qf0 qw0 rowCount anyKept (oPort C qn0 qn1 qn2 qn3 qn4 qn5 qn6 (now') [])) sz r) 0 0 (va_A (oTM q0 qn0 qk0 qr0 qc0 qt0 qd0 qs0 qf0 qw0 rowCount anyKept (oPort C qn0 qn1 qn2 qn3 qn4 qn5 qn6 now [])) sz) := by
  refine Met.ofW (cc := cX5_touch) (maxL := 4) (ret := (some .int)) (by decide) rfl ?_
  intro p e s m args below meth c s₁ B hml hv
  obtain ⟨rfl, hsz, hP, hK, hD0, hE⟩ := hv
  have hx := B.exec
  have hb := B.bytes
  have hr := B.returns
  have hts := atoms_spec (ws := wsX5_touch) B.pre
  have hown : s.vm.findClass RX5 = some m.cls := findClass_of_methodNamed B.named
  have hlocks := B.notSynchronized
  subst hsz
  have hi_RX5 : ∀ w ∈ wsX50, w ∈ wsX5_touch := fun _ h => List.mem_cons_of_mem _ (List.mem_append_left _ (List.mem_append_right _ h))
  have hD := hD0.self (sz := s.heap.size)
  obtain ⟨A, hAe⟩ := nm_ex (va_A (oTM q0 qn0 qk0 qr0 qc0 qt0 qd0 qs0 qf0 qw0 rowCount anyKept (oPort C qn0 qn1 qn2 qn3 qn4 qn5 qn6 now [])) s.heap.size)
  rw [← hAe] at hD hE ⊢
  have hA : ∀ q : Nat, s.heap.size ≤ q → A q := fun q h => by rw [hAe]; exact Or.inr h
  have hS : va_S A s.heap s.heap [] := va_S.rf
  have hl := lv_entry ([.ref q0, .int x0, .int x1, .int x2]) (n := 4) (Nat.le_of_ble_eq_true rfl)
  rw [lg_entry_eq]
  generalize (lg_sl ([.ref q0, .int x0, .int x1, .int x2]) ++ List.replicate (4 - (lg_sl ([.ref q0, .int x0, .int x1, .int x2])).length) Slot.unset).toArray = ls at hl ⊢
  have hl : lv_has ls 4 [(0, .ref q0), (1, .int x0), (2, .int x1), (3, .int x2)] := hl
  obtain ⟨Q, hQ⟩ := nm_ex (MQ below (QI D C (oTM q0 qn0 qk0 qr0 qc0 qt0 qd0 qs0 qf0 qw0 rowCount anyKept (oPort C qn0 qn1 qn2 qn3 qn4 qn5 qn6 now [])) (oTM q0 qn0 qk0 qr0 qc0 qt0 qd0 qs0 qf0 qw0 rowCount anyKept (oPort C qn0 qn1 qn2 qn3 qn4 qn5 qn6 (now') [])) s.heap.size r) (List.toArray [Value.ref q0, Value.int x0, Value.int x1, Value.int x2]) s 0 0 A)
  show W p l e (headSpec wsX5_touch (rmX5_touch)).room s m (List.toArray [Value.ref q0, Value.int x0, Value.int x1, Value.int x2]) below meth c s.heap [] 0 0 (MQ below (QI D C (oTM q0 qn0 qk0 qr0 qc0 qt0 qd0 qs0 qf0 qw0 rowCount anyKept (oPort C qn0 qn1 qn2 qn3 qn4 qn5 qn6 now [])) (oTM q0 qn0 qk0 qr0 qc0 qt0 qd0 qs0 qf0 qw0 rowCount anyKept (oPort C qn0 qn1 qn2 qn3 qn4 qn5 qn6 (now') [])) s.heap.size r) (List.toArray [Value.ref q0, Value.int x0, Value.int x1, Value.int x2]) s 0 0 A) _
  rw [← hQ]
  unfold f_X5_touch at hf
  have main : ∀ (H : Heap) (locs : List Loc), va_P D vwCl (oTM q0 qn0 qk0 qr0 qc0 qt0 qd0 qs0 qf0 qw0 rowCount anyKept (oPort C qn0 qn1 qn2 qn3 qn4 qn5 qn6 now [])) H → va_D A (oTM q0 qn0 qk0 qr0 qc0 qt0 qd0 qs0 qf0 qw0 rowCount anyKept (oPort C qn0 qn1 qn2 qn3 qn4 qn5 qn6 now [])) → va_S A s.heap H locs → W p l e (headSpec wsX5_touch (rmX5_touch)).room s m (List.toArray [Value.ref q0, Value.int x0, Value.int x1, Value.int x2]) below meth c H locs 0 0 Q (F0 m 0 ls []) := by
    intro H locs hP hD hS
    refine lv_iload_n hx hb dX5_touch_0 rfl (lv_at hl 1 rfl) ?_
    refine kcz (Wx := (oTM q0 qn0 qk0 qr0 qc0 qt0 qd0 qs0 qf0 qw0 rowCount anyKept (oPort C qn0 qn1 qn2 qn3 qn4 qn5 qn6 now []))) (va_runS (As := [.int x0]) (rest := []) ⟨hx, hb, hml, hown, hts⟩ (c_X5_isRest l E D C H.size x0 _ rfl) (va_cwS 1 hts gX5_touch_X5_isRest rfl rfl rfl hdX5_isRest ⟨Nat.le_of_ble_eq_true rfl, Nat.le_of_ble_eq_true rfl⟩) (kpre hP hD hK hS hE hA [] rfl rfl) rfl rfl hl.1 rfl (lv_room (Nat.le_of_ble_eq_true rfl)) dX5_touch_1 ⟨Nat.zero_le _, Nat.zero_le _⟩) hP hD hS hA [] rfl rfl rfl (fun H locs hz1 hP hD hS => ?_)
    refine lv_if_eq (tgt := 26) hx hb dX5_touch_4 (by decide) (fun c2 => ?_) (fun c2 => ?_)
    · replace hf := if_te c2 hf
      refine lv_iconst (v := (-1)) hx hb dX5_touch_26 rfl ?_
      cases hf
      exact kri hQ hAe hx hb hr hlocks hP hD hK hS dX5_touch_27
    · replace hf := if_fe c2 hf
      refine lv_iload_n hx hb dX5_touch_7 rfl (lv_at hl 2 rfl) ?_
      refine kcz (Wx := (oTM q0 qn0 qk0 qr0 qc0 qt0 qd0 qs0 qf0 qw0 rowCount anyKept (oPort C qn0 qn1 qn2 qn3 qn4 qn5 qn6 now []))) (va_runS (As := [.int x1]) (rest := []) ⟨hx, hb, hml, hown, hts⟩ (c_X5_isOne l E D C H.size x1 _ rfl) (va_cwS 1 hts gX5_touch_X5_isOne rfl rfl rfl hdX5_isOne ⟨Nat.le_of_ble_eq_true rfl, Nat.le_of_ble_eq_true rfl⟩) (kpre hP hD hK hS hE hA [] rfl rfl) rfl rfl hl.1 rfl (lv_room (Nat.le_of_ble_eq_true rfl)) dX5_touch_8 ⟨Nat.zero_le _, Nat.zero_le _⟩) hP hD hS hA [] rfl rfl rfl (fun H locs hz3 hP hD hS => ?_)
      refine lv_if_eq (tgt := 26) hx hb dX5_touch_11 (by decide) (fun c4 => ?_) (fun c4 => ?_)
      · replace hf := if_te c4 hf
        refine lv_iconst (v := (-1)) hx hb dX5_touch_26 rfl ?_
        cases hf
        exact kri hQ hAe hx hb hr hlocks hP hD hK hS dX5_touch_27
      · replace hf := if_fe c4 hf
        refine lv_iload_n hx hb dX5_touch_14 rfl (lv_at hl 3 rfl) ?_
        refine kcz (Wx := (oTM q0 qn0 qk0 qr0 qc0 qt0 qd0 qs0 qf0 qw0 rowCount anyKept (oPort C qn0 qn1 qn2 qn3 qn4 qn5 qn6 now []))) (va_runS (As := [.int x2]) (rest := []) ⟨hx, hb, hml, hown, hts⟩ (c_X5_isOne l E D C H.size x2 _ rfl) (va_cwS 1 hts gX5_touch_X5_isOne rfl rfl rfl hdX5_isOne ⟨Nat.le_of_ble_eq_true rfl, Nat.le_of_ble_eq_true rfl⟩) (kpre hP hD hK hS hE hA [] rfl rfl) rfl rfl hl.1 rfl (lv_room (Nat.le_of_ble_eq_true rfl)) dX5_touch_15 ⟨Nat.zero_le _, Nat.zero_le _⟩) hP hD hS hA [] rfl rfl rfl (fun H locs hz5 hP hD hS => ?_)
        refine lv_if_eq (tgt := 26) hx hb dX5_touch_18 (by decide) (fun c6 => ?_) (fun c6 => ?_)
        · replace hf := if_te c6 hf
          refine lv_iconst (v := (-1)) hx hb dX5_touch_26 rfl ?_
          cases hf
          exact kri hQ hAe hx hb hr hlocks hP hD hK hS dX5_touch_27
        · replace hf := if_fe c6 hf
          refine lv_iload_n hx hb dX5_touch_21 rfl (lv_at hl 2 rfl) ?_
          refine lv_iload_n hx hb dX5_touch_22 rfl (lv_at hl 3 rfl) ?_
          refine lv_icmp_ne (tgt := 28) hx hb dX5_touch_23 (by decide) (fun c7 => ?_) (fun c7 => ?_)
          · replace hf := if_fe c7 hf
            refine lv_aload_n hx hb dX5_touch_28 rfl (lv_at hl 0 rfl) ?_
            refine va_get (D := D) (ci := 5) (v := .ref qn0) (C := RX5) (T := TX5) (N := 11) hx hb hts hi_RX5 hown hK hP 0 rfl rfl 0 (by decide) (hts (.fieldLink RX5 10 "TravelMarks" "now" "LTravelMarks$Port;") (List.mem_of_getElem? (i := 1) rfl)) (fun _ h9 => h9) rfl dX5_touch_29 ?_
            refine lv_iload_n hx hb dX5_touch_32 rfl (lv_at hl 1 rfl) ?_
            refine lv_iload_n hx hb dX5_touch_33 rfl (lv_at hl 2 rfl) ?_
            refine lv_iload_n hx hb dX5_touch_34 rfl (lv_at hl 3 rfl) ?_
            obtain ⟨v8, h9, hf⟩ := ob1_e hf
            refine kcv (Wx := (oTM q0 qn0 qk0 qr0 qc0 qt0 qd0 qs0 qf0 qw0 rowCount anyKept (oPort C qn0 qn1 qn2 qn3 qn4 qn5 qn6 v8 []))) (va_runV (As := [.int x0, .int x1, .int x2]) (rest := []) ⟨hx, hb, hml, hown, hts⟩ (c_X1_join l E D C qn0 qn1 qn2 qn3 qn4 qn5 qn6 H.size now x0 x1 x2 v8 h9) (cwV 3 hts gX5_touch_X1_join rfl rfl rfl hdX1_join ⟨Nat.le_of_ble_eq_true rfl, Nat.le_of_ble_eq_true rfl⟩) (kpreV hP hD hK hS hE hA [1, 2, 3, 4, 5, 6, 7] rfl rfl 1 rfl rfl rfl) rfl rfl hl.1 rfl (lv_room (Nat.le_of_ble_eq_true rfl)) dX5_touch_35 ⟨Nat.zero_le _, Nat.zero_le _⟩) hP hD hS hA [1, 2, 3, 4, 5, 6, 7] rfl rfl rfl (fun H locs hP hD hS => ?_)
            refine lv_iconst (v := 1) hx hb dX5_touch_38 rfl ?_
            cases hf
            exact kri hQ hAe hx hb hr hlocks hP hD hK hS dX5_touch_39
          · replace hf := if_te c7 hf
            refine lv_iconst (v := (-1)) hx hb dX5_touch_26 rfl ?_
            cases hf
            exact kri hQ hAe hx hb hr hlocks hP hD hK hS dX5_touch_27
  exact main _ _ hP hD hS

def rmX5_part : Room := { frames := 2, cells := 0, slots := 0, locals := 42 }
theorem hdX5_part : yX5_part.cls = RX5 ∧ yX5_part.cls ≠ "java/lang/invoke/MethodHandle" ∧ yX5_part.cls ≠ "java/lang/invoke/VarHandle" ∧ (parseMethodDescriptor yX5_part.desc).map (fun d => d.parameters.length) = some 1 := by decide +kernel
set_option maxHeartbeats 40000000 in
set_option maxRecDepth 100000 in
theorem c_X5_part (l : Launch) (E : Nat → Nat) (D : va_G) (C : Nat → ClassId) (q0 qn0 qk0 qr0 qc0 qt0 qd0 qs0 qf0 qw0 qn1 qn2 qn3 qn4 qn5 qn6 : Nat) (sz : Nat) (rowCount : Int32) (anyKept : Int32) (now : PV) (x0 : Int32) (r : Int32) (now' : PV) (hf : f_X5_part now x0 = some (r, now')) : Met l yX5_part wsX5_part rmX5_part (PC E D C [.ref q0, .int x0] (oTM q0 qn0 qk0 qr0 qc0 qt0 qd0 qs0 qf0 qw0 rowCount anyKept (oPort C qn0 qn1 qn2 qn3 qn4 qn5 qn6 now [])) sz) (QI D C (oTM q0 qn0 qk0 qr0 qc0 qt0 qd0 qs0 qf0 qw0 rowCount anyKept (oPort C qn0 qn1 qn2 qn3 qn4 qn5 qn6 now [])) (oTM q0 qn0 qk0 qr0 qc0 qt0 qd0 qs0 qf0 qw0 rowCount anyKept (oPort C qn0 qn1 qn2 qn3 qn4 qn5 qn6 (now') [])) sz r) 0 0 (va_A (oTM q0 qn0 qk0 qr0 qc0 qt0 qd0 qs0 qf0 qw0 rowCount anyKept (oPort C qn0 qn1 qn2 qn3 qn4 qn5 qn6 now [])) sz) := by
  refine Met.ofW (cc := cX5_part) (maxL := 3) (ret := (some .int)) (by decide) rfl ?_
  intro p e s m args below meth c s₁ B hml hv
  obtain ⟨rfl, hsz, hP, hK, hD0, hE⟩ := hv
  have hx := B.exec
  have hb := B.bytes
  have hr := B.returns
  have hts := atoms_spec (ws := wsX5_part) B.pre
  have hown : s.vm.findClass RX5 = some m.cls := findClass_of_methodNamed B.named
  have hlocks := B.notSynchronized
  subst hsz
  have hi_RX1 : ∀ w ∈ wsX10, w ∈ wsX5_part := fun _ h => List.mem_cons_of_mem _ (List.mem_append_right _ h)
  have hi_RX5 : ∀ w ∈ wsX50, w ∈ wsX5_part := fun _ h => List.mem_cons_of_mem _ (List.mem_append_left _ (List.mem_append_right _ h))
  have hD := hD0.self (sz := s.heap.size)
  obtain ⟨A, hAe⟩ := nm_ex (va_A (oTM q0 qn0 qk0 qr0 qc0 qt0 qd0 qs0 qf0 qw0 rowCount anyKept (oPort C qn0 qn1 qn2 qn3 qn4 qn5 qn6 now [])) s.heap.size)
  rw [← hAe] at hD hE ⊢
  have hA : ∀ q : Nat, s.heap.size ≤ q → A q := fun q h => by rw [hAe]; exact Or.inr h
  have hS : va_S A s.heap s.heap [] := va_S.rf
  have hl := lv_entry ([.ref q0, .int x0]) (n := 3) (Nat.le_of_ble_eq_true rfl)
  rw [lg_entry_eq]
  generalize (lg_sl ([.ref q0, .int x0]) ++ List.replicate (3 - (lg_sl ([.ref q0, .int x0])).length) Slot.unset).toArray = ls at hl ⊢
  have hl : lv_has ls 3 [(0, .ref q0), (1, .int x0)] := hl
  obtain ⟨Q, hQ⟩ := nm_ex (MQ below (QI D C (oTM q0 qn0 qk0 qr0 qc0 qt0 qd0 qs0 qf0 qw0 rowCount anyKept (oPort C qn0 qn1 qn2 qn3 qn4 qn5 qn6 now [])) (oTM q0 qn0 qk0 qr0 qc0 qt0 qd0 qs0 qf0 qw0 rowCount anyKept (oPort C qn0 qn1 qn2 qn3 qn4 qn5 qn6 (now') [])) s.heap.size r) (List.toArray [Value.ref q0, Value.int x0]) s 0 0 A)
  show W p l e (headSpec wsX5_part (rmX5_part)).room s m (List.toArray [Value.ref q0, Value.int x0]) below meth c s.heap [] 0 0 (MQ below (QI D C (oTM q0 qn0 qk0 qr0 qc0 qt0 qd0 qs0 qf0 qw0 rowCount anyKept (oPort C qn0 qn1 qn2 qn3 qn4 qn5 qn6 now [])) (oTM q0 qn0 qk0 qr0 qc0 qt0 qd0 qs0 qf0 qw0 rowCount anyKept (oPort C qn0 qn1 qn2 qn3 qn4 qn5 qn6 (now') [])) s.heap.size r) (List.toArray [Value.ref q0, Value.int x0]) s 0 0 A) _
  rw [← hQ]
  unfold f_X5_part at hf
  have main : ∀ (H : Heap) (locs : List Loc), va_P D vwCl (oTM q0 qn0 qk0 qr0 qc0 qt0 qd0 qs0 qf0 qw0 rowCount anyKept (oPort C qn0 qn1 qn2 qn3 qn4 qn5 qn6 now [])) H → va_D A (oTM q0 qn0 qk0 qr0 qc0 qt0 qd0 qs0 qf0 qw0 rowCount anyKept (oPort C qn0 qn1 qn2 qn3 qn4 qn5 qn6 now [])) → va_S A s.heap H locs → W p l e (headSpec wsX5_part (rmX5_part)).room s m (List.toArray [Value.ref q0, Value.int x0]) below meth c H locs 0 0 Q (F0 m 0 ls []) := by
    intro H locs hP hD hS
    refine lv_iload_n hx hb dX5_part_0 rfl (lv_at hl 1 rfl) ?_
    refine kcz (Wx := (oTM q0 qn0 qk0 qr0 qc0 qt0 qd0 qs0 qf0 qw0 rowCount anyKept (oPort C qn0 qn1 qn2 qn3 qn4 qn5 qn6 now []))) (va_runS (As := [.int x0]) (rest := []) ⟨hx, hb, hml, hown, hts⟩ (c_X5_isRest l E D C H.size x0 _ rfl) (va_cwS 1 hts gX5_part_X5_isRest rfl rfl rfl hdX5_isRest ⟨Nat.le_of_ble_eq_true rfl, Nat.le_of_ble_eq_true rfl⟩) (kpre hP hD hK hS hE hA [] rfl rfl) rfl rfl hl.1 rfl (lv_room (Nat.le_of_ble_eq_true rfl)) dX5_part_1 ⟨Nat.zero_le _, Nat.zero_le _⟩) hP hD hS hA [] rfl rfl rfl (fun H locs hz1 hP hD hS => ?_)
    refine lv_if_ne (tgt := 9) hx hb dX5_part_4 (by decide) (fun c2 => ?_) (fun c2 => ?_)
    · replace hf := if_fe c2 hf
      refine lv_aload_n hx hb dX5_part_9 rfl (lv_at hl 0 rfl) ?_
      refine va_get (D := D) (ci := 5) (v := .ref qn0) (C := RX5) (T := TX5) (N := 11) hx hb hts hi_RX5 hown hK hP 0 rfl rfl 0 (by decide) (hts (.fieldLink RX5 10 "TravelMarks" "now" "LTravelMarks$Port;") (List.mem_of_getElem? (i := 1) rfl)) (fun _ h9 => h9) rfl dX5_part_10 ?_
      refine va_get (D := D) (ci := 1) (v := .ref qn5) (C := RX1) (T := TX1) (N := 10) hx hb hts hi_RX1 hown hK hP 1 rfl rfl 4 (by decide) (hts (.fieldLink RX5 137 "TravelMarks$Port" "first" "[I") (List.mem_of_getElem? (i := 2) rfl)) (fun _ h9 => h9) rfl dX5_part_13 ?_
      refine lv_iload_n hx hb dX5_part_16 rfl (lv_at hl 1 rfl) ?_
      obtain ⟨y4, ey4, hi3, hf⟩ := rdA_x hf
      refine va_iald hx hb hK hP 6 0 rfl rfl hi3 dX5_part_17 ?_
      refine lv_ren ey4 ?_
      refine lv_iconst (v := (-1)) hx hb dX5_part_18 rfl ?_
      obtain ⟨j6, hj6, hf⟩ := lj_e hf
      have Hj6 : ∀ (k5 : Int32) (H : Heap) (locs : List Loc) (ls : Array Slot), va_P D vwCl (oTM q0 qn0 qk0 qr0 qc0 qt0 qd0 qs0 qf0 qw0 rowCount anyKept (oPort C qn0 qn1 qn2 qn3 qn4 qn5 qn6 now [])) H → va_D A (oTM q0 qn0 qk0 qr0 qc0 qt0 qd0 qs0 qf0 qw0 rowCount anyKept (oPort C qn0 qn1 qn2 qn3 qn4 qn5 qn6 now [])) → va_S A s.heap H locs → lv_has ls 3 [(0, .ref q0), (1, .int x0)] → j6 k5 = some (r, now') → W p l e (headSpec wsX5_part (rmX5_part)).room s m (List.toArray [Value.ref q0, Value.int x0]) below meth c H locs 0 0 Q (F0 m 27 ls [.int k5]) := by
        intro k5 H locs ls hP hD hS hl hf
        rw [hj6] at hf
        refine lv_istore_n (lv' := [(2, .int k5), (0, .ref q0), (1, .int x0)]) hx hb dX5_part_27 rfl hl (by decide) rfl (fun ls hl => ?_)
        refine lv_aload_n hx hb dX5_part_28 rfl (lv_at hl 1 rfl) ?_
        refine va_get (D := D) (ci := 5) (v := .ref qn0) (C := RX5) (T := TX5) (N := 11) hx hb hts hi_RX5 hown hK hP 0 rfl rfl 0 (by decide) (hts (.fieldLink RX5 10 "TravelMarks" "now" "LTravelMarks$Port;") (List.mem_of_getElem? (i := 1) rfl)) (fun _ h9 => h9) rfl dX5_part_29 ?_
        refine lv_iload_n hx hb dX5_part_32 rfl (lv_at hl 2 rfl) ?_
        refine lv_iconst (v := (-1)) hx hb dX5_part_33 rfl ?_
        refine lv_iconst (v := (-1)) hx hb dX5_part_34 rfl ?_
        obtain ⟨v7, h8, hf⟩ := ob1_e hf
        refine kcv (Wx := (oTM q0 qn0 qk0 qr0 qc0 qt0 qd0 qs0 qf0 qw0 rowCount anyKept (oPort C qn0 qn1 qn2 qn3 qn4 qn5 qn6 v7 []))) (va_runV (As := [.int x0, .int (-1), .int (-1)]) (rest := []) ⟨hx, hb, hml, hown, hts⟩ (c_X1_join l E D C qn0 qn1 qn2 qn3 qn4 qn5 qn6 H.size now x0 (-1) (-1) v7 h8) (cwV 3 hts gX5_part_X1_join rfl rfl rfl hdX1_join ⟨Nat.le_of_ble_eq_true rfl, Nat.le_of_ble_eq_true rfl⟩) (kpreV hP hD hK hS hE hA [1, 2, 3, 4, 5, 6, 7] rfl rfl 1 rfl rfl rfl) rfl rfl hl.1 rfl (lv_room (Nat.le_of_ble_eq_true rfl)) dX5_part_35 ⟨Nat.zero_le _, Nat.zero_le _⟩) hP hD hS hA [1, 2, 3, 4, 5, 6, 7] rfl rfl rfl (fun H locs hP hD hS => ?_)
        refine lv_iload_n hx hb dX5_part_38 rfl (lv_at hl 0 rfl) ?_
        refine lv_if_eq (tgt := 46) hx hb dX5_part_39 (by decide) (fun c9 => ?_) (fun c9 => ?_)
        · replace hf := if_te c9 hf
          refine lv_iconst (v := 0) hx hb dX5_part_46 rfl ?_
          cases hf
          exact kri hQ hAe hx hb hr hlocks hP hD hK hS dX5_part_47
        · replace hf := if_fe c9 hf
          refine lv_iconst (v := 1) hx hb dX5_part_42 rfl ?_
          refine lv_goto (tgt := 47) hx hb dX5_part_43 (by decide) ?_
          cases hf
          exact kri hQ hAe hx hb hr hlocks hP hD hK hS dX5_part_47
      refine lv_icmp_eq (tgt := 26) hx hb dX5_part_19 (by decide) (fun c10 => ?_) (fun c10 => ?_)
      · replace hf := if_te c10 hf
        refine lv_iconst (v := 0) hx hb dX5_part_26 rfl ?_
        exact Hj6 0 H locs ls hP hD hS (lv_sub hl [0, 1] rfl) hf
      · replace hf := if_fe c10 hf
        refine lv_iconst (v := 1) hx hb dX5_part_22 rfl ?_
        refine lv_goto (tgt := 27) hx hb dX5_part_23 (by decide) ?_
        exact Hj6 1 H locs ls hP hD hS (lv_sub hl [0, 1] rfl) hf
    · replace hf := if_te c2 hf
      refine lv_iconst (v := (-1)) hx hb dX5_part_7 rfl ?_
      cases hf
      exact kri hQ hAe hx hb hr hlocks hP hD hK hS dX5_part_8
  exact main _ _ hP hD hS

def rmX5_touchOf : Room := { frames := 2, cells := 0, slots := 0, locals := 42 }
theorem hdX5_touchOf : yX5_touchOf.cls = RX5 ∧ yX5_touchOf.cls ≠ "java/lang/invoke/MethodHandle" ∧ yX5_touchOf.cls ≠ "java/lang/invoke/VarHandle" ∧ (parseMethodDescriptor yX5_touchOf.desc).map (fun d => d.parameters.length) = some 2 := by decide +kernel
set_option maxHeartbeats 40000000 in
set_option maxRecDepth 100000 in
theorem c_X5_touchOf (l : Launch) (E : Nat → Nat) (D : va_G) (C : Nat → ClassId) (q0 qn0 qk0 qr0 qc0 qt0 qd0 qs0 qf0 qw0 qn1 qn2 qn3 qn4 qn5 qn6 : Nat) (sz : Nat) (rowCount : Int32) (anyKept : Int32) (now : PV) (x0 : Int32) (x1 : Int32) (r : Int32) (hf : f_X5_touchOf now x0 x1 = some r) : Met l yX5_touchOf wsX5_touchOf rmX5_touchOf (PC E D C [.ref q0, .int x0, .int x1] (oTM q0 qn0 qk0 qr0 qc0 qt0 qd0 qs0 qf0 qw0 rowCount anyKept (oPort C qn0 qn1 qn2 qn3 qn4 qn5 qn6 now [])) sz) (QI D C (oTM q0 qn0 qk0 qr0 qc0 qt0 qd0 qs0 qf0 qw0 rowCount anyKept (oPort C qn0 qn1 qn2 qn3 qn4 qn5 qn6 now [])) (oTM q0 qn0 qk0 qr0 qc0 qt0 qd0 qs0 qf0 qw0 rowCount anyKept (oPort C qn0 qn1 qn2 qn3 qn4 qn5 qn6 now [])) sz r) 0 0 (va_A (oTM q0 qn0 qk0 qr0 qc0 qt0 qd0 qs0 qf0 qw0 rowCount anyKept (oPort C qn0 qn1 qn2 qn3 qn4 qn5 qn6 now [])) sz) := by
  refine Met.ofW (cc := cX5_touchOf) (maxL := 3) (ret := (some .int)) (by decide) rfl ?_
  intro p e s m args below meth c s₁ B hml hv
  obtain ⟨rfl, hsz, hP, hK, hD0, hE⟩ := hv
  have hx := B.exec
  have hb := B.bytes
  have hr := B.returns
  have hts := atoms_spec (ws := wsX5_touchOf) B.pre
  have hown : s.vm.findClass RX5 = some m.cls := findClass_of_methodNamed B.named
  have hlocks := B.notSynchronized
  subst hsz
  have hi_RX1 : ∀ w ∈ wsX10, w ∈ wsX5_touchOf := fun _ h => List.mem_cons_of_mem _ (List.mem_append_right _ h)
  have hi_RX5 : ∀ w ∈ wsX50, w ∈ wsX5_touchOf := fun _ h => List.mem_cons_of_mem _ (List.mem_append_left _ (List.mem_append_right _ h))
  have hD := hD0.self (sz := s.heap.size)
  obtain ⟨A, hAe⟩ := nm_ex (va_A (oTM q0 qn0 qk0 qr0 qc0 qt0 qd0 qs0 qf0 qw0 rowCount anyKept (oPort C qn0 qn1 qn2 qn3 qn4 qn5 qn6 now [])) s.heap.size)
  rw [← hAe] at hD hE ⊢
  have hA : ∀ q : Nat, s.heap.size ≤ q → A q := fun q h => by rw [hAe]; exact Or.inr h
  have hS : va_S A s.heap s.heap [] := va_S.rf
  have hl := lv_entry ([.ref q0, .int x0, .int x1]) (n := 3) (Nat.le_of_ble_eq_true rfl)
  rw [lg_entry_eq]
  generalize (lg_sl ([.ref q0, .int x0, .int x1]) ++ List.replicate (3 - (lg_sl ([.ref q0, .int x0, .int x1])).length) Slot.unset).toArray = ls at hl ⊢
  have hl : lv_has ls 3 [(0, .ref q0), (1, .int x0), (2, .int x1)] := hl
  obtain ⟨Q, hQ⟩ := nm_ex (MQ below (QI D C (oTM q0 qn0 qk0 qr0 qc0 qt0 qd0 qs0 qf0 qw0 rowCount anyKept (oPort C qn0 qn1 qn2 qn3 qn4 qn5 qn6 now [])) (oTM q0 qn0 qk0 qr0 qc0 qt0 qd0 qs0 qf0 qw0 rowCount anyKept (oPort C qn0 qn1 qn2 qn3 qn4 qn5 qn6 now [])) s.heap.size r) (List.toArray [Value.ref q0, Value.int x0, Value.int x1]) s 0 0 A)
  show W p l e (headSpec wsX5_touchOf (rmX5_touchOf)).room s m (List.toArray [Value.ref q0, Value.int x0, Value.int x1]) below meth c s.heap [] 0 0 (MQ below (QI D C (oTM q0 qn0 qk0 qr0 qc0 qt0 qd0 qs0 qf0 qw0 rowCount anyKept (oPort C qn0 qn1 qn2 qn3 qn4 qn5 qn6 now [])) (oTM q0 qn0 qk0 qr0 qc0 qt0 qd0 qs0 qf0 qw0 rowCount anyKept (oPort C qn0 qn1 qn2 qn3 qn4 qn5 qn6 now [])) s.heap.size r) (List.toArray [Value.ref q0, Value.int x0, Value.int x1]) s 0 0 A) _
  rw [← hQ]
  unfold f_X5_touchOf at hf
  have main : ∀ (H : Heap) (locs : List Loc), va_P D vwCl (oTM q0 qn0 qk0 qr0 qc0 qt0 qd0 qs0 qf0 qw0 rowCount anyKept (oPort C qn0 qn1 qn2 qn3 qn4 qn5 qn6 now [])) H → va_D A (oTM q0 qn0 qk0 qr0 qc0 qt0 qd0 qs0 qf0 qw0 rowCount anyKept (oPort C qn0 qn1 qn2 qn3 qn4 qn5 qn6 now [])) → va_S A s.heap H locs → W p l e (headSpec wsX5_touchOf (rmX5_touchOf)).room s m (List.toArray [Value.ref q0, Value.int x0, Value.int x1]) below meth c H locs 0 0 Q (F0 m 0 ls []) := by
    intro H locs hP hD hS
    refine lv_iload_n hx hb dX5_touchOf_0 rfl (lv_at hl 1 rfl) ?_
    refine kcz (Wx := (oTM q0 qn0 qk0 qr0 qc0 qt0 qd0 qs0 qf0 qw0 rowCount anyKept (oPort C qn0 qn1 qn2 qn3 qn4 qn5 qn6 now []))) (va_runS (As := [.int x0]) (rest := []) ⟨hx, hb, hml, hown, hts⟩ (c_X5_isRest l E D C H.size x0 _ rfl) (va_cwS 1 hts gX5_touchOf_X5_isRest rfl rfl rfl hdX5_isRest ⟨Nat.le_of_ble_eq_true rfl, Nat.le_of_ble_eq_true rfl⟩) (kpre hP hD hK hS hE hA [] rfl rfl) rfl rfl hl.1 rfl (lv_room (Nat.le_of_ble_eq_true rfl)) dX5_touchOf_1 ⟨Nat.zero_le _, Nat.zero_le _⟩) hP hD hS hA [] rfl rfl rfl (fun H locs hz1 hP hD hS => ?_)
    refine lv_if_eq (tgt := 16) hx hb dX5_touchOf_4 (by decide) (fun c2 => ?_) (fun c2 => ?_)
    · replace hf := if_te c2 hf
      refine lv_iconst (v := (-1)) hx hb dX5_touchOf_16 rfl ?_
      cases hf
      exact kri hQ hAe hx hb hr hlocks hP hD hK hS dX5_touchOf_17
    · replace hf := if_fe c2 hf
      refine lv_iload_n hx hb dX5_touchOf_7 rfl (lv_at hl 2 rfl) ?_
      refine lv_iconst (v := 0) hx hb dX5_touchOf_8 rfl ?_
      refine lv_iconst (v := 1) hx hb dX5_touchOf_9 rfl ?_
      refine kcz (Wx := (oTM q0 qn0 qk0 qr0 qc0 qt0 qd0 qs0 qf0 qw0 rowCount anyKept (oPort C qn0 qn1 qn2 qn3 qn4 qn5 qn6 now []))) (va_runS (As := [.int x1, .int 0, .int 1]) (rest := []) ⟨hx, hb, hml, hown, hts⟩ (c_X5_within l E D C H.size x1 0 1 _ rfl) (va_cwS 3 hts gX5_touchOf_X5_within rfl rfl rfl hdX5_within ⟨Nat.le_of_ble_eq_true rfl, Nat.le_of_ble_eq_true rfl⟩) (kpre hP hD hK hS hE hA [] rfl rfl) rfl rfl hl.1 rfl (lv_room (Nat.le_of_ble_eq_true rfl)) dX5_touchOf_10 ⟨Nat.zero_le _, Nat.zero_le _⟩) hP hD hS hA [] rfl rfl rfl (fun H locs hz3 hP hD hS => ?_)
      refine lv_if_ne (tgt := 18) hx hb dX5_touchOf_13 (by decide) (fun c4 => ?_) (fun c4 => ?_)
      · replace hf := if_fe c4 hf
        refine lv_aload_n hx hb dX5_touchOf_18 rfl (lv_at hl 0 rfl) ?_
        refine va_get (D := D) (ci := 5) (v := .ref qn0) (C := RX5) (T := TX5) (N := 11) hx hb hts hi_RX5 hown hK hP 0 rfl rfl 0 (by decide) (hts (.fieldLink RX5 10 "TravelMarks" "now" "LTravelMarks$Port;") (List.mem_of_getElem? (i := 1) rfl)) (fun _ h9 => h9) rfl dX5_touchOf_19 ?_
        refine va_get (D := D) (ci := 1) (v := .ref qn5) (C := RX1) (T := TX1) (N := 10) hx hb hts hi_RX1 hown hK hP 1 rfl rfl 4 (by decide) (hts (.fieldLink RX5 137 "TravelMarks$Port" "first" "[I") (List.mem_of_getElem? (i := 2) rfl)) (fun _ h9 => h9) rfl dX5_touchOf_22 ?_
        refine lv_iload_n hx hb dX5_touchOf_25 rfl (lv_at hl 1 rfl) ?_
        obtain ⟨y6, ey6, hi5, hf⟩ := rdA_x hf
        refine va_iald hx hb hK hP 6 0 rfl rfl hi5 dX5_touchOf_26 ?_
        refine lv_ren ey6 ?_
        refine lv_iconst (v := (-1)) hx hb dX5_touchOf_27 rfl ?_
        refine lv_icmp_ne (tgt := 34) hx hb dX5_touchOf_28 (by decide) (fun c7 => ?_) (fun c7 => ?_)
        · replace hf := if_fe c7 hf
          refine lv_iload_n hx hb dX5_touchOf_34 rfl (lv_at hl 2 rfl) ?_
          refine lv_if_ne (tgt := 50) hx hb dX5_touchOf_35 (by decide) (fun c8 => ?_) (fun c8 => ?_)
          · replace hf := if_fe c8 hf
            refine lv_aload_n hx hb dX5_touchOf_50 rfl (lv_at hl 0 rfl) ?_
            refine va_get (D := D) (ci := 5) (v := .ref qn0) (C := RX5) (T := TX5) (N := 11) hx hb hts hi_RX5 hown hK hP 0 rfl rfl 0 (by decide) (hts (.fieldLink RX5 10 "TravelMarks" "now" "LTravelMarks$Port;") (List.mem_of_getElem? (i := 1) rfl)) (fun _ h9 => h9) rfl dX5_touchOf_51 ?_
            refine va_get (D := D) (ci := 1) (v := .ref qn6) (C := RX1) (T := TX1) (N := 10) hx hb hts hi_RX1 hown hK hP 1 rfl rfl 5 (by decide) (hts (.fieldLink RX5 140 "TravelMarks$Port" "second" "[I") (List.mem_of_getElem? (i := 3) rfl)) (fun _ h9 => h9) rfl dX5_touchOf_54 ?_
            refine lv_iload_n hx hb dX5_touchOf_57 rfl (lv_at hl 1 rfl) ?_
            obtain ⟨y10, ey10, hi9, hf⟩ := rdA_x hf
            refine va_iald hx hb hK hP 7 0 rfl rfl hi9 dX5_touchOf_58 ?_
            refine lv_ren ey10 ?_
            cases hf
            exact kri hQ hAe hx hb hr hlocks hP hD hK hS dX5_touchOf_59
          · replace hf := if_te c8 hf
            refine lv_aload_n hx hb dX5_touchOf_38 rfl (lv_at hl 0 rfl) ?_
            refine va_get (D := D) (ci := 5) (v := .ref qn0) (C := RX5) (T := TX5) (N := 11) hx hb hts hi_RX5 hown hK hP 0 rfl rfl 0 (by decide) (hts (.fieldLink RX5 10 "TravelMarks" "now" "LTravelMarks$Port;") (List.mem_of_getElem? (i := 1) rfl)) (fun _ h9 => h9) rfl dX5_touchOf_39 ?_
            refine va_get (D := D) (ci := 1) (v := .ref qn5) (C := RX1) (T := TX1) (N := 10) hx hb hts hi_RX1 hown hK hP 1 rfl rfl 4 (by decide) (hts (.fieldLink RX5 137 "TravelMarks$Port" "first" "[I") (List.mem_of_getElem? (i := 2) rfl)) (fun _ h9 => h9) rfl dX5_touchOf_42 ?_
            refine lv_iload_n hx hb dX5_touchOf_45 rfl (lv_at hl 1 rfl) ?_
            obtain ⟨y12, ey12, hi11, hf⟩ := rdA_x hf
            refine va_iald hx hb hK hP 6 0 rfl rfl hi11 dX5_touchOf_46 ?_
            refine lv_ren ey12 ?_
            refine lv_goto (tgt := 59) hx hb dX5_touchOf_47 (by decide) ?_
            cases hf
            exact kri hQ hAe hx hb hr hlocks hP hD hK hS dX5_touchOf_59
        · replace hf := if_te c7 hf
          refine lv_bipush (v := (-3)) hx hb dX5_touchOf_31 rfl ?_
          cases hf
          exact kri hQ hAe hx hb hr hlocks hP hD hK hS dX5_touchOf_33
      · replace hf := if_te c4 hf
        refine lv_iconst (v := (-1)) hx hb dX5_touchOf_16 rfl ?_
        cases hf
        exact kri hQ hAe hx hb hr hlocks hP hD hK hS dX5_touchOf_17
  exact main _ _ hP hD hS

def rmX5_who : Room := { frames := 2, cells := 0, slots := 0, locals := 45 }
theorem hdX5_who : yX5_who.cls = RX5 ∧ yX5_who.cls ≠ "java/lang/invoke/MethodHandle" ∧ yX5_who.cls ≠ "java/lang/invoke/VarHandle" ∧ (parseMethodDescriptor yX5_who.desc).map (fun d => d.parameters.length) = some 2 := by decide +kernel
set_option maxHeartbeats 40000000 in
set_option maxRecDepth 100000 in
theorem c_X5_who (l : Launch) (E : Nat → Nat) (D : va_G) (C : Nat → ClassId) (q0 qn0 qk0 qr0 qc0 qt0 qd0 qs0 qf0 qw0 qn1 qn2 qn3 qn4 qn5 qn6 : Nat) (sz : Nat) (N : Nat) (rowCount : Int32) (anyKept : Int32) (now : PV) (x0 : Int32) (x1 : Int32) (r : Int32) (hf : f_X5_who N now x0 x1 = some r) : Met l yX5_who wsX5_who rmX5_who (PC E D C [.ref q0, .int x0, .int x1] (oTM q0 qn0 qk0 qr0 qc0 qt0 qd0 qs0 qf0 qw0 rowCount anyKept (oPort C qn0 qn1 qn2 qn3 qn4 qn5 qn6 now [])) sz) (QI D C (oTM q0 qn0 qk0 qr0 qc0 qt0 qd0 qs0 qf0 qw0 rowCount anyKept (oPort C qn0 qn1 qn2 qn3 qn4 qn5 qn6 now [])) (oTM q0 qn0 qk0 qr0 qc0 qt0 qd0 qs0 qf0 qw0 rowCount anyKept (oPort C qn0 qn1 qn2 qn3 qn4 qn5 qn6 now [])) sz r) 0 0 (va_A (oTM q0 qn0 qk0 qr0 qc0 qt0 qd0 qs0 qf0 qw0 rowCount anyKept (oPort C qn0 qn1 qn2 qn3 qn4 qn5 qn6 now [])) sz) := by
  refine Met.ofW (cc := cX5_who) (maxL := 3) (ret := (some .int)) (by decide) rfl ?_
  intro p e s m args below meth c s₁ B hml hv
  obtain ⟨rfl, hsz, hP, hK, hD0, hE⟩ := hv
  have hx := B.exec
  have hb := B.bytes
  have hr := B.returns
  have hts := atoms_spec (ws := wsX5_who) B.pre
  have hown : s.vm.findClass RX5 = some m.cls := findClass_of_methodNamed B.named
  have hlocks := B.notSynchronized
  subst hsz
  have hi_RX5 : ∀ w ∈ wsX50, w ∈ wsX5_who := fun _ h => List.mem_cons_of_mem _ (List.mem_append_left _ (List.mem_append_right _ h))
  have hD := hD0.self (sz := s.heap.size)
  obtain ⟨A, hAe⟩ := nm_ex (va_A (oTM q0 qn0 qk0 qr0 qc0 qt0 qd0 qs0 qf0 qw0 rowCount anyKept (oPort C qn0 qn1 qn2 qn3 qn4 qn5 qn6 now [])) s.heap.size)
  rw [← hAe] at hD hE ⊢
  have hA : ∀ q : Nat, s.heap.size ≤ q → A q := fun q h => by rw [hAe]; exact Or.inr h
  have hS : va_S A s.heap s.heap [] := va_S.rf
  have hl := lv_entry ([.ref q0, .int x0, .int x1]) (n := 3) (Nat.le_of_ble_eq_true rfl)
  rw [lg_entry_eq]
  generalize (lg_sl ([.ref q0, .int x0, .int x1]) ++ List.replicate (3 - (lg_sl ([.ref q0, .int x0, .int x1])).length) Slot.unset).toArray = ls at hl ⊢
  have hl : lv_has ls 3 [(0, .ref q0), (1, .int x0), (2, .int x1)] := hl
  obtain ⟨Q, hQ⟩ := nm_ex (MQ below (QI D C (oTM q0 qn0 qk0 qr0 qc0 qt0 qd0 qs0 qf0 qw0 rowCount anyKept (oPort C qn0 qn1 qn2 qn3 qn4 qn5 qn6 now [])) (oTM q0 qn0 qk0 qr0 qc0 qt0 qd0 qs0 qf0 qw0 rowCount anyKept (oPort C qn0 qn1 qn2 qn3 qn4 qn5 qn6 now [])) s.heap.size r) (List.toArray [Value.ref q0, Value.int x0, Value.int x1]) s 0 0 A)
  show W p l e (headSpec wsX5_who (rmX5_who)).room s m (List.toArray [Value.ref q0, Value.int x0, Value.int x1]) below meth c s.heap [] 0 0 (MQ below (QI D C (oTM q0 qn0 qk0 qr0 qc0 qt0 qd0 qs0 qf0 qw0 rowCount anyKept (oPort C qn0 qn1 qn2 qn3 qn4 qn5 qn6 now [])) (oTM q0 qn0 qk0 qr0 qc0 qt0 qd0 qs0 qf0 qw0 rowCount anyKept (oPort C qn0 qn1 qn2 qn3 qn4 qn5 qn6 now [])) s.heap.size r) (List.toArray [Value.ref q0, Value.int x0, Value.int x1]) s 0 0 A) _
  rw [← hQ]
  unfold f_X5_who at hf
  have main : ∀ (H : Heap) (locs : List Loc), va_P D vwCl (oTM q0 qn0 qk0 qr0 qc0 qt0 qd0 qs0 qf0 qw0 rowCount anyKept (oPort C qn0 qn1 qn2 qn3 qn4 qn5 qn6 now [])) H → va_D A (oTM q0 qn0 qk0 qr0 qc0 qt0 qd0 qs0 qf0 qw0 rowCount anyKept (oPort C qn0 qn1 qn2 qn3 qn4 qn5 qn6 now [])) → va_S A s.heap H locs → W p l e (headSpec wsX5_who (rmX5_who)).room s m (List.toArray [Value.ref q0, Value.int x0, Value.int x1]) below meth c H locs 0 0 Q (F0 m 0 ls []) := by
    intro H locs hP hD hS
    refine lv_iload_n hx hb dX5_who_0 rfl (lv_at hl 1 rfl) ?_
    refine kcz (Wx := (oTM q0 qn0 qk0 qr0 qc0 qt0 qd0 qs0 qf0 qw0 rowCount anyKept (oPort C qn0 qn1 qn2 qn3 qn4 qn5 qn6 now []))) (va_runS (As := [.int x0]) (rest := []) ⟨hx, hb, hml, hown, hts⟩ (c_X5_isOne l E D C H.size x0 _ rfl) (va_cwS 1 hts gX5_who_X5_isOne rfl rfl rfl hdX5_isOne ⟨Nat.le_of_ble_eq_true rfl, Nat.le_of_ble_eq_true rfl⟩) (kpre hP hD hK hS hE hA [] rfl rfl) rfl rfl hl.1 rfl (lv_room (Nat.le_of_ble_eq_true rfl)) dX5_who_1 ⟨Nat.zero_le _, Nat.zero_le _⟩) hP hD hS hA [] rfl rfl rfl (fun H locs hz1 hP hD hS => ?_)
    refine lv_if_eq (tgt := 16) hx hb dX5_who_4 (by decide) (fun c2 => ?_) (fun c2 => ?_)
    · replace hf := if_te c2 hf
      refine lv_iconst (v := (-1)) hx hb dX5_who_16 rfl ?_
      cases hf
      exact kri hQ hAe hx hb hr hlocks hP hD hK hS dX5_who_17
    · replace hf := if_fe c2 hf
      refine lv_iload_n hx hb dX5_who_7 rfl (lv_at hl 2 rfl) ?_
      refine lv_iconst (v := 0) hx hb dX5_who_8 rfl ?_
      refine lv_iconst (v := 1) hx hb dX5_who_9 rfl ?_
      refine kcz (Wx := (oTM q0 qn0 qk0 qr0 qc0 qt0 qd0 qs0 qf0 qw0 rowCount anyKept (oPort C qn0 qn1 qn2 qn3 qn4 qn5 qn6 now []))) (va_runS (As := [.int x1, .int 0, .int 1]) (rest := []) ⟨hx, hb, hml, hown, hts⟩ (c_X5_within l E D C H.size x1 0 1 _ rfl) (va_cwS 3 hts gX5_who_X5_within rfl rfl rfl hdX5_within ⟨Nat.le_of_ble_eq_true rfl, Nat.le_of_ble_eq_true rfl⟩) (kpre hP hD hK hS hE hA [] rfl rfl) rfl rfl hl.1 rfl (lv_room (Nat.le_of_ble_eq_true rfl)) dX5_who_10 ⟨Nat.zero_le _, Nat.zero_le _⟩) hP hD hS hA [] rfl rfl rfl (fun H locs hz3 hP hD hS => ?_)
      refine lv_if_ne (tgt := 18) hx hb dX5_who_13 (by decide) (fun c4 => ?_) (fun c4 => ?_)
      · replace hf := if_fe c4 hf
        refine lv_iload_n hx hb dX5_who_18 rfl (lv_at hl 2 rfl) ?_
        refine lv_if_ne (tgt := 33) hx hb dX5_who_19 (by decide) (fun c5 => ?_) (fun c5 => ?_)
        · replace hf := if_fe c5 hf
          refine lv_aload_n hx hb dX5_who_33 rfl (lv_at hl 0 rfl) ?_
          refine va_get (D := D) (ci := 5) (v := .ref qn0) (C := RX5) (T := TX5) (N := 11) hx hb hts hi_RX5 hown hK hP 0 rfl rfl 0 (by decide) (hts (.fieldLink RX5 10 "TravelMarks" "now" "LTravelMarks$Port;") (List.mem_of_getElem? (i := 1) rfl)) (fun _ h9 => h9) rfl dX5_who_34 ?_
          refine lv_iload_n hx hb dX5_who_37 rfl (lv_at hl 1 rfl) ?_
          obtain ⟨r6, h7, hf⟩ := ob1_e hf
          refine kci (Wx := (oTM q0 qn0 qk0 qr0 qc0 qt0 qd0 qs0 qf0 qw0 rowCount anyKept (oPort C qn0 qn1 qn2 qn3 qn4 qn5 qn6 now []))) (va_runV (As := [.int x0]) (rest := []) ⟨hx, hb, hml, hown, hts⟩ (c_X1_circle l E D C qn0 qn1 qn2 qn3 qn4 qn5 qn6 H.size N now x0 r6 h7) (cwV 1 hts gX5_who_X1_circle rfl rfl rfl hdX1_circle ⟨Nat.le_of_ble_eq_true rfl, Nat.le_of_ble_eq_true rfl⟩) (kpreV hP hD hK hS hE hA [1, 2, 3, 4, 5, 6, 7] rfl rfl 1 rfl rfl rfl) rfl rfl hl.1 rfl (lv_room (Nat.le_of_ble_eq_true rfl)) dX5_who_38 ⟨Nat.zero_le _, Nat.zero_le _⟩) hP hD hS hA [1, 2, 3, 4, 5, 6, 7] rfl rfl rfl (fun H locs hP hD hS => ?_)
          cases hf
          exact kri hQ hAe hx hb hr hlocks hP hD hK hS dX5_who_41
        · replace hf := if_te c5 hf
          refine lv_aload_n hx hb dX5_who_22 rfl (lv_at hl 0 rfl) ?_
          refine va_get (D := D) (ci := 5) (v := .ref qn0) (C := RX5) (T := TX5) (N := 11) hx hb hts hi_RX5 hown hK hP 0 rfl rfl 0 (by decide) (hts (.fieldLink RX5 10 "TravelMarks" "now" "LTravelMarks$Port;") (List.mem_of_getElem? (i := 1) rfl)) (fun _ h9 => h9) rfl dX5_who_23 ?_
          refine lv_iload_n hx hb dX5_who_26 rfl (lv_at hl 1 rfl) ?_
          obtain ⟨r8, h9, hf⟩ := ob1_e hf
          refine kci (Wx := (oTM q0 qn0 qk0 qr0 qc0 qt0 qd0 qs0 qf0 qw0 rowCount anyKept (oPort C qn0 qn1 qn2 qn3 qn4 qn5 qn6 now []))) (va_runV (As := [.int x0]) (rest := []) ⟨hx, hb, hml, hown, hts⟩ (c_X1_marksOn l E D C qn0 qn1 qn2 qn3 qn4 qn5 qn6 H.size N now x0 r8 h9) (cwV 1 hts gX5_who_X1_marksOn rfl rfl rfl hdX1_marksOn ⟨Nat.le_of_ble_eq_true rfl, Nat.le_of_ble_eq_true rfl⟩) (kpreV hP hD hK hS hE hA [1, 2, 3, 4, 5, 6, 7] rfl rfl 1 rfl rfl rfl) rfl rfl hl.1 rfl (lv_room (Nat.le_of_ble_eq_true rfl)) dX5_who_27 ⟨Nat.zero_le _, Nat.zero_le _⟩) hP hD hS hA [1, 2, 3, 4, 5, 6, 7] rfl rfl rfl (fun H locs hP hD hS => ?_)
          refine lv_goto (tgt := 41) hx hb dX5_who_30 (by decide) ?_
          cases hf
          exact kri hQ hAe hx hb hr hlocks hP hD hK hS dX5_who_41
      · replace hf := if_te c4 hf
        refine lv_iconst (v := (-1)) hx hb dX5_who_16 rfl ?_
        cases hf
        exact kri hQ hAe hx hb hr hlocks hP hD hK hS dX5_who_17
  exact main _ _ hP hD hS

def rmX5_hours : Room := { frames := 4, cells := 0, slots := 0, locals := 91 }
theorem hdX5_hours : yX5_hours.cls = RX5 ∧ yX5_hours.cls ≠ "java/lang/invoke/MethodHandle" ∧ yX5_hours.cls ≠ "java/lang/invoke/VarHandle" ∧ (parseMethodDescriptor yX5_hours.desc).map (fun d => d.parameters.length) = some 1 := by decide +kernel
set_option maxHeartbeats 40000000 in
set_option maxRecDepth 100000 in
theorem c_X5_hours (l : Launch) (E : Nat → Nat) (D : va_G) (C : Nat → ClassId) (q0 qn0 qk0 qr0 qc0 qt0 qd0 qs0 qf0 qw0 qn1 qn2 qn3 qn4 qn5 qn6 : Nat) (sz : Nat) (N : Nat) (rowCount : Int32) (anyKept : Int32) (now : PV) (x0 : Int32) (r : Int32) (now' : PV) (hf : f_X5_hours N now x0 = some (r, now')) : Met l yX5_hours wsX5_hours rmX5_hours (PC E D C [.ref q0, .int x0] (oTM q0 qn0 qk0 qr0 qc0 qt0 qd0 qs0 qf0 qw0 rowCount anyKept (oPort C qn0 qn1 qn2 qn3 qn4 qn5 qn6 now [])) sz) (QI D C (oTM q0 qn0 qk0 qr0 qc0 qt0 qd0 qs0 qf0 qw0 rowCount anyKept (oPort C qn0 qn1 qn2 qn3 qn4 qn5 qn6 now [])) (oTM q0 qn0 qk0 qr0 qc0 qt0 qd0 qs0 qf0 qw0 rowCount anyKept (oPort C qn0 qn1 qn2 qn3 qn4 qn5 qn6 (now') [])) sz r) 0 0 (va_A (oTM q0 qn0 qk0 qr0 qc0 qt0 qd0 qs0 qf0 qw0 rowCount anyKept (oPort C qn0 qn1 qn2 qn3 qn4 qn5 qn6 now [])) sz) := by
  refine Met.ofW (cc := cX5_hours) (maxL := 3) (ret := (some .int)) (by decide) rfl ?_
  intro p e s m args below meth c s₁ B hml hv
  obtain ⟨rfl, hsz, hP, hK, hD0, hE⟩ := hv
  have hx := B.exec
  have hb := B.bytes
  have hr := B.returns
  have hts := atoms_spec (ws := wsX5_hours) B.pre
  have hown : s.vm.findClass RX5 = some m.cls := findClass_of_methodNamed B.named
  have hlocks := B.notSynchronized
  subst hsz
  have hi_RX5 : ∀ w ∈ wsX50, w ∈ wsX5_hours := fun _ h => List.mem_cons_of_mem _ (List.mem_append_left _ (List.mem_append_right _ h))
  have hD := hD0.self (sz := s.heap.size)
  obtain ⟨A, hAe⟩ := nm_ex (va_A (oTM q0 qn0 qk0 qr0 qc0 qt0 qd0 qs0 qf0 qw0 rowCount anyKept (oPort C qn0 qn1 qn2 qn3 qn4 qn5 qn6 now [])) s.heap.size)
  rw [← hAe] at hD hE ⊢
  have hA : ∀ q : Nat, s.heap.size ≤ q → A q := fun q h => by rw [hAe]; exact Or.inr h
  have hS : va_S A s.heap s.heap [] := va_S.rf
  have hl := lv_entry ([.ref q0, .int x0]) (n := 3) (Nat.le_of_ble_eq_true rfl)
  rw [lg_entry_eq]
  generalize (lg_sl ([.ref q0, .int x0]) ++ List.replicate (3 - (lg_sl ([.ref q0, .int x0])).length) Slot.unset).toArray = ls at hl ⊢
  have hl : lv_has ls 3 [(0, .ref q0), (1, .int x0)] := hl
  obtain ⟨Q, hQ⟩ := nm_ex (MQ below (QI D C (oTM q0 qn0 qk0 qr0 qc0 qt0 qd0 qs0 qf0 qw0 rowCount anyKept (oPort C qn0 qn1 qn2 qn3 qn4 qn5 qn6 now [])) (oTM q0 qn0 qk0 qr0 qc0 qt0 qd0 qs0 qf0 qw0 rowCount anyKept (oPort C qn0 qn1 qn2 qn3 qn4 qn5 qn6 (now') [])) s.heap.size r) (List.toArray [Value.ref q0, Value.int x0]) s 0 0 A)
  show W p l e (headSpec wsX5_hours (rmX5_hours)).room s m (List.toArray [Value.ref q0, Value.int x0]) below meth c s.heap [] 0 0 (MQ below (QI D C (oTM q0 qn0 qk0 qr0 qc0 qt0 qd0 qs0 qf0 qw0 rowCount anyKept (oPort C qn0 qn1 qn2 qn3 qn4 qn5 qn6 now [])) (oTM q0 qn0 qk0 qr0 qc0 qt0 qd0 qs0 qf0 qw0 rowCount anyKept (oPort C qn0 qn1 qn2 qn3 qn4 qn5 qn6 (now') [])) s.heap.size r) (List.toArray [Value.ref q0, Value.int x0]) s 0 0 A) _
  rw [← hQ]
  unfold f_X5_hours at hf
  have main : ∀ (H : Heap) (locs : List Loc), va_P D vwCl (oTM q0 qn0 qk0 qr0 qc0 qt0 qd0 qs0 qf0 qw0 rowCount anyKept (oPort C qn0 qn1 qn2 qn3 qn4 qn5 qn6 now [])) H → va_D A (oTM q0 qn0 qk0 qr0 qc0 qt0 qd0 qs0 qf0 qw0 rowCount anyKept (oPort C qn0 qn1 qn2 qn3 qn4 qn5 qn6 now [])) → va_S A s.heap H locs → W p l e (headSpec wsX5_hours (rmX5_hours)).room s m (List.toArray [Value.ref q0, Value.int x0]) below meth c H locs 0 0 Q (F0 m 0 ls []) := by
    intro H locs hP hD hS
    refine lv_iload_n hx hb dX5_hours_0 rfl (lv_at hl 1 rfl) ?_
    refine lv_iconst (v := 1) hx hb dX5_hours_1 rfl ?_
    refine lv_bipush (v := 60) hx hb dX5_hours_2 rfl ?_
    refine kcz (Wx := (oTM q0 qn0 qk0 qr0 qc0 qt0 qd0 qs0 qf0 qw0 rowCount anyKept (oPort C qn0 qn1 qn2 qn3 qn4 qn5 qn6 now []))) (va_runS (As := [.int x0, .int 1, .int 60]) (rest := []) ⟨hx, hb, hml, hown, hts⟩ (c_X5_within l E D C H.size x0 1 60 _ rfl) (va_cwS 3 hts gX5_hours_X5_within rfl rfl rfl hdX5_within ⟨Nat.le_of_ble_eq_true rfl, Nat.le_of_ble_eq_true rfl⟩) (kpre hP hD hK hS hE hA [] rfl rfl) rfl rfl hl.1 rfl (lv_room (Nat.le_of_ble_eq_true rfl)) dX5_hours_4 ⟨Nat.zero_le _, Nat.zero_le _⟩) hP hD hS hA [] rfl rfl rfl (fun H locs hz1 hP hD hS => ?_)
    refine lv_if_ne (tgt := 12) hx hb dX5_hours_7 (by decide) (fun c2 => ?_) (fun c2 => ?_)
    · replace hf := if_fe c2 hf
      refine lv_iconst (v := 0) hx hb dX5_hours_12 rfl ?_
      refine lv_istore_n (lv' := [(2, .int 0), (0, .ref q0), (1, .int x0)]) hx hb dX5_hours_13 rfl hl (by decide) rfl (fun ls hl => ?_)
      obtain ⟨j4, hj4, hf⟩ := lj_e hf
      have Hj4 : ∀ (v3 : PV) (H : Heap) (locs : List Loc) (ls : Array Slot), va_P D vwCl (oTM q0 qn0 qk0 qr0 qc0 qt0 qd0 qs0 qf0 qw0 rowCount anyKept (oPort C qn0 qn1 qn2 qn3 qn4 qn5 qn6 v3 [])) H → va_D A (oTM q0 qn0 qk0 qr0 qc0 qt0 qd0 qs0 qf0 qw0 rowCount anyKept (oPort C qn0 qn1 qn2 qn3 qn4 qn5 qn6 v3 [])) → va_S A s.heap H locs → lv_has ls 3 [(0, .ref q0)] → j4 v3 = some (r, now') → W p l e (headSpec wsX5_hours (rmX5_hours)).room s m (List.toArray [Value.ref q0, Value.int x0]) below meth c H locs 0 0 Q (F0 m 32 ls []) := by
        intro v3 H locs ls hP hD hS hl hf
        rw [hj4] at hf
        refine lv_aload_n hx hb dX5_hours_32 rfl (lv_at hl 0 rfl) ?_
        refine va_get (D := D) (ci := 5) (v := .ref qn0) (C := RX5) (T := TX5) (N := 11) hx hb hts hi_RX5 hown hK hP 0 rfl rfl 0 (by decide) (hts (.fieldLink RX5 10 "TravelMarks" "now" "LTravelMarks$Port;") (List.mem_of_getElem? (i := 1) rfl)) (fun _ h9 => h9) rfl dX5_hours_33 ?_
        obtain ⟨r5, h6, hf⟩ := ob1_e hf
        refine kci (Wx := (oTM q0 qn0 qk0 qr0 qc0 qt0 qd0 qs0 qf0 qw0 rowCount anyKept (oPort C qn0 qn1 qn2 qn3 qn4 qn5 qn6 v3 []))) (va_runV (As := []) (rest := []) ⟨hx, hb, hml, hown, hts⟩ (c_X1_marked l E D C qn0 qn1 qn2 qn3 qn4 qn5 qn6 H.size N v3 r5 h6) (cwV 0 hts gX5_hours_X1_marked rfl rfl rfl hdX1_marked ⟨Nat.le_of_ble_eq_true rfl, Nat.le_of_ble_eq_true rfl⟩) (kpreV hP hD hK hS hE hA [1, 2, 3, 4, 5, 6, 7] rfl rfl 1 rfl rfl rfl) rfl rfl hl.1 rfl (lv_room (Nat.le_of_ble_eq_true rfl)) dX5_hours_36 ⟨Nat.zero_le _, Nat.zero_le _⟩) hP hD hS hA [1, 2, 3, 4, 5, 6, 7] rfl rfl rfl (fun H locs hP hD hS => ?_)
        refine kci (Wx := (oTM q0 qn0 qk0 qr0 qc0 qt0 qd0 qs0 qf0 qw0 rowCount anyKept (oPort C qn0 qn1 qn2 qn3 qn4 qn5 qn6 v3 []))) (va_runS (As := [.int r5]) (rest := []) ⟨hx, hb, hml, hown, hts⟩ (c_J6_bitCount_0f7a4 l E D C H.size r5 _ rfl) (va_cwS 1 hts gX5_hours_J6_bitCount_0f7a4 rfl rfl rfl hdJ6_bitCount_0f7a4 ⟨Nat.le_of_ble_eq_true rfl, Nat.le_of_ble_eq_true rfl⟩) (kpre hP hD hK hS hE hA [] rfl rfl) rfl rfl hl.1 rfl (lv_room (Nat.le_of_ble_eq_true rfl)) dX5_hours_39 ⟨Nat.zero_le _, Nat.zero_le _⟩) hP hD hS hA [] rfl rfl rfl (fun H locs hP hD hS => ?_)
        obtain ⟨t7, et7, hf⟩ := lj_e hf
        refine lv_ren et7 ?_
        cases hf
        exact kri hQ hAe hx hb hr hlocks hP hD hK hS dX5_hours_42
      have hL14 : ∀ (n : Nat) (i8 : Int32) (v9 : PV) (H : Heap) (locs : List Loc) (ls : Array Slot), va_P D vwCl (oTM q0 qn0 qk0 qr0 qc0 qt0 qd0 qs0 qf0 qw0 rowCount anyKept (oPort C qn0 qn1 qn2 qn3 qn4 qn5 qn6 v9 [])) H → va_D A (oTM q0 qn0 qk0 qr0 qc0 qt0 qd0 qs0 qf0 qw0 rowCount anyKept (oPort C qn0 qn1 qn2 qn3 qn4 qn5 qn6 v9 [])) → va_S A s.heap H locs → lv_has ls 3 [(2, .int i8), (0, .ref q0), (1, .int x0)] → f_X5_hours_L14 N x0 j4 n i8 v9 = some (r, now') → W p l e (headSpec wsX5_hours (rmX5_hours)).room s m (List.toArray [Value.ref q0, Value.int x0]) below meth c H locs 0 0 Q (F0 m 14 ls []) := by
        intro n
        induction n with
        | zero =>
          intro i8 v9 H locs ls hP hD hS hl hf
          exact absurd hf (fun h => by cases h)
        | succ n ih =>
          intro i8 v9 H locs ls hP hD hS hl hf
          rw [f_X5_hours_L14] at hf
          refine lv_iload_n hx hb dX5_hours_14 rfl (lv_at hl 0 rfl) ?_
          refine lv_iload_n hx hb dX5_hours_15 rfl (lv_at hl 2 rfl) ?_
          refine lv_icmp_ge (tgt := 32) hx hb dX5_hours_16 (by decide) (fun c10 => ?_) (fun c10 => ?_)
          · replace hf := if_te c10 hf
            exact Hj4 v9 H locs ls hP hD hS (lv_sub hl [1] rfl) hf
          · replace hf := if_fe c10 hf
            refine lv_aload_n hx hb dX5_hours_19 rfl (lv_at hl 1 rfl) ?_
            refine va_get (D := D) (ci := 5) (v := .ref qn0) (C := RX5) (T := TX5) (N := 11) hx hb hts hi_RX5 hown hK hP 0 rfl rfl 0 (by decide) (hts (.fieldLink RX5 10 "TravelMarks" "now" "LTravelMarks$Port;") (List.mem_of_getElem? (i := 1) rfl)) (fun _ h9 => h9) rfl dX5_hours_20 ?_
            obtain ⟨v11, h12, hf⟩ := ob1_e hf
            refine kcv (Wx := (oTM q0 qn0 qk0 qr0 qc0 qt0 qd0 qs0 qf0 qw0 rowCount anyKept (oPort C qn0 qn1 qn2 qn3 qn4 qn5 qn6 v11 []))) (va_runV (As := []) (rest := []) ⟨hx, hb, hml, hown, hts⟩ (c_X1_passHour l E D C qn0 qn1 qn2 qn3 qn4 qn5 qn6 H.size N v9 v11 h12) (cwV 0 hts gX5_hours_X1_passHour rfl rfl rfl hdX1_passHour ⟨Nat.le_of_ble_eq_true rfl, Nat.le_of_ble_eq_true rfl⟩) (kpreV hP hD hK hS hE hA [1, 2, 3, 4, 5, 6, 7] rfl rfl 1 rfl rfl rfl) rfl rfl hl.1 rfl (lv_room (Nat.le_of_ble_eq_true rfl)) dX5_hours_23 ⟨Nat.zero_le _, Nat.zero_le _⟩) hP hD hS hA [1, 2, 3, 4, 5, 6, 7] rfl rfl rfl (fun H locs hP hD hS => ?_)
            obtain ⟨t13, et13, hf⟩ := lj_e hf
            refine lv_iinc (v := t13) (lv' := [(2, .int t13), (0, .ref q0), (1, .int x0)]) hx hb dX5_hours_26 hl (k := 0) rfl (by rw [et13]; rfl) (by decide) rfl (fun ls hl => ?_)
            refine lv_goto (tgt := 14) hx hb dX5_hours_29 (by decide) ?_
            exact ih t13 v11 H locs ls hP hD hS (lv_sub hl [0, 1, 2] rfl) hf
      exact hL14 N 0 now H locs ls hP hD hS (lv_sub hl [0, 1, 2] rfl) hf
    · replace hf := if_te c2 hf
      refine lv_iconst (v := (-1)) hx hb dX5_hours_10 rfl ?_
      cases hf
      exact kri hQ hAe hx hb hr hlocks hP hD hK hS dX5_hours_11
  exact main _ _ hP hD hS

def rmX5_seed : Room := { frames := 0, cells := 0, slots := 0, locals := 0 }
theorem hdX5_seed : yX5_seed.cls = RX5 ∧ yX5_seed.cls ≠ "java/lang/invoke/MethodHandle" ∧ yX5_seed.cls ≠ "java/lang/invoke/VarHandle" ∧ (parseMethodDescriptor yX5_seed.desc).map (fun d => d.parameters.length) = some 1 := by decide +kernel
set_option maxHeartbeats 40000000 in
set_option maxRecDepth 100000 in
theorem c_X5_seed (l : Launch) (E : Nat → Nat) (D : va_G) (C : Nat → ClassId) (q0 qn0 qk0 qr0 qc0 qt0 qd0 qs0 qf0 qw0 qn1 qn2 qn3 qn4 qn5 qn6 : Nat) (sz : Nat) (rowCount : Int32) (anyKept : Int32) (now : PV) (x0 : Int32) (r : Int32) (now' : PV) (hf : f_X5_seed now x0 = some (r, now')) : Met l yX5_seed wsX5_seed rmX5_seed (PC E D C [.ref q0, .int x0] (oTM q0 qn0 qk0 qr0 qc0 qt0 qd0 qs0 qf0 qw0 rowCount anyKept (oPort C qn0 qn1 qn2 qn3 qn4 qn5 qn6 now [])) sz) (QI D C (oTM q0 qn0 qk0 qr0 qc0 qt0 qd0 qs0 qf0 qw0 rowCount anyKept (oPort C qn0 qn1 qn2 qn3 qn4 qn5 qn6 now [])) (oTM q0 qn0 qk0 qr0 qc0 qt0 qd0 qs0 qf0 qw0 rowCount anyKept (oPort C qn0 qn1 qn2 qn3 qn4 qn5 qn6 (now') [])) sz r) 0 0 (va_A (oTM q0 qn0 qk0 qr0 qc0 qt0 qd0 qs0 qf0 qw0 rowCount anyKept (oPort C qn0 qn1 qn2 qn3 qn4 qn5 qn6 now [])) sz) := by
  refine Met.ofW (cc := cX5_seed) (maxL := 3) (ret := (some .int)) (by decide) rfl ?_
  intro p e s m args below meth c s₁ B hml hv
  obtain ⟨rfl, hsz, hP, hK, hD0, hE⟩ := hv
  have hx := B.exec
  have hb := B.bytes
  have hr := B.returns
  have hts := atoms_spec (ws := wsX5_seed) B.pre
  have hown : s.vm.findClass RX5 = some m.cls := findClass_of_methodNamed B.named
  have hlocks := B.notSynchronized
  subst hsz
  have hi_RX1 : ∀ w ∈ wsX10, w ∈ wsX5_seed := fun _ h => List.mem_cons_of_mem _ (List.mem_append_right _ h)
  have hi_RX5 : ∀ w ∈ wsX50, w ∈ wsX5_seed := fun _ h => List.mem_cons_of_mem _ (List.mem_append_left _ (List.mem_append_right _ h))
  have hD := hD0.self (sz := s.heap.size)
  obtain ⟨A, hAe⟩ := nm_ex (va_A (oTM q0 qn0 qk0 qr0 qc0 qt0 qd0 qs0 qf0 qw0 rowCount anyKept (oPort C qn0 qn1 qn2 qn3 qn4 qn5 qn6 now [])) s.heap.size)
  rw [← hAe] at hD hE ⊢
  have hA : ∀ q : Nat, s.heap.size ≤ q → A q := fun q h => by rw [hAe]; exact Or.inr h
  have hS : va_S A s.heap s.heap [] := va_S.rf
  have hl := lv_entry ([.ref q0, .int x0]) (n := 3) (Nat.le_of_ble_eq_true rfl)
  rw [lg_entry_eq]
  generalize (lg_sl ([.ref q0, .int x0]) ++ List.replicate (3 - (lg_sl ([.ref q0, .int x0])).length) Slot.unset).toArray = ls at hl ⊢
  have hl : lv_has ls 3 [(0, .ref q0), (1, .int x0)] := hl
  obtain ⟨Q, hQ⟩ := nm_ex (MQ below (QI D C (oTM q0 qn0 qk0 qr0 qc0 qt0 qd0 qs0 qf0 qw0 rowCount anyKept (oPort C qn0 qn1 qn2 qn3 qn4 qn5 qn6 now [])) (oTM q0 qn0 qk0 qr0 qc0 qt0 qd0 qs0 qf0 qw0 rowCount anyKept (oPort C qn0 qn1 qn2 qn3 qn4 qn5 qn6 (now') [])) s.heap.size r) (List.toArray [Value.ref q0, Value.int x0]) s 0 0 A)
  show W p l e (headSpec wsX5_seed (rmX5_seed)).room s m (List.toArray [Value.ref q0, Value.int x0]) below meth c s.heap [] 0 0 (MQ below (QI D C (oTM q0 qn0 qk0 qr0 qc0 qt0 qd0 qs0 qf0 qw0 rowCount anyKept (oPort C qn0 qn1 qn2 qn3 qn4 qn5 qn6 now [])) (oTM q0 qn0 qk0 qr0 qc0 qt0 qd0 qs0 qf0 qw0 rowCount anyKept (oPort C qn0 qn1 qn2 qn3 qn4 qn5 qn6 (now') [])) s.heap.size r) (List.toArray [Value.ref q0, Value.int x0]) s 0 0 A) _
  rw [← hQ]
  unfold f_X5_seed at hf
  have main : ∀ (H : Heap) (locs : List Loc), va_P D vwCl (oTM q0 qn0 qk0 qr0 qc0 qt0 qd0 qs0 qf0 qw0 rowCount anyKept (oPort C qn0 qn1 qn2 qn3 qn4 qn5 qn6 now [])) H → va_D A (oTM q0 qn0 qk0 qr0 qc0 qt0 qd0 qs0 qf0 qw0 rowCount anyKept (oPort C qn0 qn1 qn2 qn3 qn4 qn5 qn6 now [])) → va_S A s.heap H locs → W p l e (headSpec wsX5_seed (rmX5_seed)).room s m (List.toArray [Value.ref q0, Value.int x0]) below meth c H locs 0 0 Q (F0 m 0 ls []) := by
    intro H locs hP hD hS
    refine lv_aload_n hx hb dX5_seed_0 rfl (lv_at hl 0 rfl) ?_
    refine va_get (D := D) (ci := 5) (v := .ref qn0) (C := RX5) (T := TX5) (N := 11) hx hb hts hi_RX5 hown hK hP 0 rfl rfl 0 (by decide) (hts (.fieldLink RX5 10 "TravelMarks" "now" "LTravelMarks$Port;") (List.mem_of_getElem? (i := 1) rfl)) (fun _ h9 => h9) rfl dX5_seed_1 ?_
    refine va_get (D := D) (ci := 1) (v := .int (pZ now)) (C := RX1) (T := TX1) (N := 10) hx hb hts hi_RX1 hown hK hP 1 rfl rfl 8 (by decide) (hts (.fieldLink RX5 68 "TravelMarks$Port" "z" "I") (List.mem_of_getElem? (i := 2) rfl)) (fun _ h9 => h9) rfl dX5_seed_4 ?_
    obtain ⟨t1, et1, hf⟩ := lj_e hf
    refine lv_ren et1 ?_
    refine lv_istore_n (lv' := [(2, .int t1), (0, .ref q0), (1, .int x0)]) hx hb dX5_seed_7 rfl hl (by decide) rfl (fun ls hl => ?_)
    refine lv_aload_n hx hb dX5_seed_8 rfl (lv_at hl 1 rfl) ?_
    refine va_get (D := D) (ci := 5) (v := .ref qn0) (C := RX5) (T := TX5) (N := 11) hx hb hts hi_RX5 hown hK hP 0 rfl rfl 0 (by decide) (hts (.fieldLink RX5 10 "TravelMarks" "now" "LTravelMarks$Port;") (List.mem_of_getElem? (i := 1) rfl)) (fun _ h9 => h9) rfl dX5_seed_9 ?_
    refine lv_iload_n hx hb dX5_seed_12 rfl (lv_at hl 2 rfl) ?_
    refine va_put (D := D) (ci := 1) (v := .int x0) (ty := .int) (C := RX1) (T := TX1) (N := 10) hx hb hts hi_RX1 tyX1 tyX1_ok nmX1 hown hK hP hD hS 1 rfl rfl 8 (by decide) (hts (.fieldLink RX5 68 "TravelMarks$Port" "z" "I") (List.mem_of_getElem? (i := 2) rfl)) (fun _ h9 => h9) rfl (tyX1_ok 8 (by decide)) rfl rfl (Nat.le_of_ble_eq_true rfl) dX5_seed_13 (fun H locs hP hD hS => ?_)
    obtain ⟨v2, ev2, hf⟩ := lj_e hf
    have hP : va_P D vwCl (oTM q0 qn0 qk0 qr0 qc0 qt0 qd0 qs0 qf0 qw0 rowCount anyKept (oPort C qn0 qn1 qn2 qn3 qn4 qn5 qn6 v2 [])) H := by rw [ev2]; exact hP
    have hD : va_D A (oTM q0 qn0 qk0 qr0 qc0 qt0 qd0 qs0 qf0 qw0 rowCount anyKept (oPort C qn0 qn1 qn2 qn3 qn4 qn5 qn6 v2 [])) := by rw [ev2]; exact hD
    refine lv_iload_n hx hb dX5_seed_16 rfl (lv_at hl 0 rfl) ?_
    cases hf
    exact kri hQ hAe hx hb hr hlocks hP hD hK hS dX5_seed_17
  exact main _ _ hP hD hS

def rmX5_hour : Room := { frames := 5, cells := 0, slots := 0, locals := 113 }
theorem hdX5_hour : yX5_hour.cls = RX5 ∧ yX5_hour.cls ≠ "java/lang/invoke/MethodHandle" ∧ yX5_hour.cls ≠ "java/lang/invoke/VarHandle" ∧ (parseMethodDescriptor yX5_hour.desc).map (fun d => d.parameters.length) = some 0 := by decide +kernel
set_option maxHeartbeats 40000000 in
set_option maxRecDepth 100000 in
theorem c_X5_hour (l : Launch) (E : Nat → Nat) (D : va_G) (C : Nat → ClassId) (q0 qn0 qk0 qr0 qc0 qt0 qd0 qs0 qf0 qw0 qn1 qn2 qn3 qn4 qn5 qn6 : Nat) (sz : Nat) (N : Nat) (rowCount : Int32) (anyKept : Int32) (now : PV)  (r : Int32) (now' : PV) (hf : f_X5_hour N now = some (r, now')) : Met l yX5_hour wsX5_hour rmX5_hour (PC E D C [.ref q0] (oTM q0 qn0 qk0 qr0 qc0 qt0 qd0 qs0 qf0 qw0 rowCount anyKept (oPort C qn0 qn1 qn2 qn3 qn4 qn5 qn6 now [])) sz) (QI D C (oTM q0 qn0 qk0 qr0 qc0 qt0 qd0 qs0 qf0 qw0 rowCount anyKept (oPort C qn0 qn1 qn2 qn3 qn4 qn5 qn6 now [])) (oTM q0 qn0 qk0 qr0 qc0 qt0 qd0 qs0 qf0 qw0 rowCount anyKept (oPort C qn0 qn1 qn2 qn3 qn4 qn5 qn6 (now') [])) sz r) 0 0 (va_A (oTM q0 qn0 qk0 qr0 qc0 qt0 qd0 qs0 qf0 qw0 rowCount anyKept (oPort C qn0 qn1 qn2 qn3 qn4 qn5 qn6 now [])) sz) := by
  refine Met.ofW (cc := cX5_hour) (maxL := 1) (ret := (some .int)) (by decide) rfl ?_
  intro p e s m args below meth c s₁ B hml hv
  obtain ⟨rfl, hsz, hP, hK, hD0, hE⟩ := hv
  have hx := B.exec
  have hb := B.bytes
  have hr := B.returns
  have hts := atoms_spec (ws := wsX5_hour) B.pre
  have hown : s.vm.findClass RX5 = some m.cls := findClass_of_methodNamed B.named
  have hlocks := B.notSynchronized
  subst hsz
  have hi_RX5 : ∀ w ∈ wsX50, w ∈ wsX5_hour := fun _ h => List.mem_cons_of_mem _ (List.mem_append_left _ (List.mem_append_right _ h))
  have hD := hD0.self (sz := s.heap.size)
  obtain ⟨A, hAe⟩ := nm_ex (va_A (oTM q0 qn0 qk0 qr0 qc0 qt0 qd0 qs0 qf0 qw0 rowCount anyKept (oPort C qn0 qn1 qn2 qn3 qn4 qn5 qn6 now [])) s.heap.size)
  rw [← hAe] at hD hE ⊢
  have hA : ∀ q : Nat, s.heap.size ≤ q → A q := fun q h => by rw [hAe]; exact Or.inr h
  have hS : va_S A s.heap s.heap [] := va_S.rf
  have hl := lv_entry ([.ref q0]) (n := 1) (Nat.le_of_ble_eq_true rfl)
  rw [lg_entry_eq]
  generalize (lg_sl ([.ref q0]) ++ List.replicate (1 - (lg_sl ([.ref q0])).length) Slot.unset).toArray = ls at hl ⊢
  have hl : lv_has ls 1 [(0, .ref q0)] := hl
  obtain ⟨Q, hQ⟩ := nm_ex (MQ below (QI D C (oTM q0 qn0 qk0 qr0 qc0 qt0 qd0 qs0 qf0 qw0 rowCount anyKept (oPort C qn0 qn1 qn2 qn3 qn4 qn5 qn6 now [])) (oTM q0 qn0 qk0 qr0 qc0 qt0 qd0 qs0 qf0 qw0 rowCount anyKept (oPort C qn0 qn1 qn2 qn3 qn4 qn5 qn6 (now') [])) s.heap.size r) (List.toArray [Value.ref q0]) s 0 0 A)
  show W p l e (headSpec wsX5_hour (rmX5_hour)).room s m (List.toArray [Value.ref q0]) below meth c s.heap [] 0 0 (MQ below (QI D C (oTM q0 qn0 qk0 qr0 qc0 qt0 qd0 qs0 qf0 qw0 rowCount anyKept (oPort C qn0 qn1 qn2 qn3 qn4 qn5 qn6 now [])) (oTM q0 qn0 qk0 qr0 qc0 qt0 qd0 qs0 qf0 qw0 rowCount anyKept (oPort C qn0 qn1 qn2 qn3 qn4 qn5 qn6 (now') [])) s.heap.size r) (List.toArray [Value.ref q0]) s 0 0 A) _
  rw [← hQ]
  unfold f_X5_hour at hf
  have main : ∀ (H : Heap) (locs : List Loc), va_P D vwCl (oTM q0 qn0 qk0 qr0 qc0 qt0 qd0 qs0 qf0 qw0 rowCount anyKept (oPort C qn0 qn1 qn2 qn3 qn4 qn5 qn6 now [])) H → va_D A (oTM q0 qn0 qk0 qr0 qc0 qt0 qd0 qs0 qf0 qw0 rowCount anyKept (oPort C qn0 qn1 qn2 qn3 qn4 qn5 qn6 now [])) → va_S A s.heap H locs → W p l e (headSpec wsX5_hour (rmX5_hour)).room s m (List.toArray [Value.ref q0]) below meth c H locs 0 0 Q (F0 m 0 ls []) := by
    intro H locs hP hD hS
    refine lv_aload_n hx hb dX5_hour_0 rfl (lv_at hl 0 rfl) ?_
    refine va_get (D := D) (ci := 5) (v := .ref qn0) (C := RX5) (T := TX5) (N := 11) hx hb hts hi_RX5 hown hK hP 0 rfl rfl 0 (by decide) (hts (.fieldLink RX5 10 "TravelMarks" "now" "LTravelMarks$Port;") (List.mem_of_getElem? (i := 1) rfl)) (fun _ h9 => h9) rfl dX5_hour_1 ?_
    obtain ⟨v1, h2, hf⟩ := ob1_e hf
    refine kcv (Wx := (oTM q0 qn0 qk0 qr0 qc0 qt0 qd0 qs0 qf0 qw0 rowCount anyKept (oPort C qn0 qn1 qn2 qn3 qn4 qn5 qn6 v1 []))) (va_runV (As := []) (rest := []) ⟨hx, hb, hml, hown, hts⟩ (c_X1_passHourByDraws l E D C qn0 qn1 qn2 qn3 qn4 qn5 qn6 H.size N now v1 h2) (cwV 0 hts gX5_hour_X1_passHourByDraws rfl rfl rfl hdX1_passHourByDraws ⟨Nat.le_of_ble_eq_true rfl, Nat.le_of_ble_eq_true rfl⟩) (kpreV hP hD hK hS hE hA [1, 2, 3, 4, 5, 6, 7] rfl rfl 1 rfl rfl rfl) rfl rfl hl.1 rfl (lv_room (Nat.le_of_ble_eq_true rfl)) dX5_hour_4 ⟨Nat.zero_le _, Nat.zero_le _⟩) hP hD hS hA [1, 2, 3, 4, 5, 6, 7] rfl rfl rfl (fun H locs hP hD hS => ?_)
    refine lv_aload_n hx hb dX5_hour_7 rfl (lv_at hl 0 rfl) ?_
    refine va_get (D := D) (ci := 5) (v := .ref qn0) (C := RX5) (T := TX5) (N := 11) hx hb hts hi_RX5 hown hK hP 0 rfl rfl 0 (by decide) (hts (.fieldLink RX5 10 "TravelMarks" "now" "LTravelMarks$Port;") (List.mem_of_getElem? (i := 1) rfl)) (fun _ h9 => h9) rfl dX5_hour_8 ?_
    obtain ⟨r3, h4, hf⟩ := ob1_e hf
    refine kci (Wx := (oTM q0 qn0 qk0 qr0 qc0 qt0 qd0 qs0 qf0 qw0 rowCount anyKept (oPort C qn0 qn1 qn2 qn3 qn4 qn5 qn6 v1 []))) (va_runV (As := []) (rest := []) ⟨hx, hb, hml, hown, hts⟩ (c_X1_marked l E D C qn0 qn1 qn2 qn3 qn4 qn5 qn6 H.size N v1 r3 h4) (cwV 0 hts gX5_hour_X1_marked rfl rfl rfl hdX1_marked ⟨Nat.le_of_ble_eq_true rfl, Nat.le_of_ble_eq_true rfl⟩) (kpreV hP hD hK hS hE hA [1, 2, 3, 4, 5, 6, 7] rfl rfl 1 rfl rfl rfl) rfl rfl hl.1 rfl (lv_room (Nat.le_of_ble_eq_true rfl)) dX5_hour_11 ⟨Nat.zero_le _, Nat.zero_le _⟩) hP hD hS hA [1, 2, 3, 4, 5, 6, 7] rfl rfl rfl (fun H locs hP hD hS => ?_)
    refine kci (Wx := (oTM q0 qn0 qk0 qr0 qc0 qt0 qd0 qs0 qf0 qw0 rowCount anyKept (oPort C qn0 qn1 qn2 qn3 qn4 qn5 qn6 v1 []))) (va_runS (As := [.int r3]) (rest := []) ⟨hx, hb, hml, hown, hts⟩ (c_J6_bitCount_0f7a4 l E D C H.size r3 _ rfl) (va_cwS 1 hts gX5_hour_J6_bitCount_0f7a4 rfl rfl rfl hdJ6_bitCount_0f7a4 ⟨Nat.le_of_ble_eq_true rfl, Nat.le_of_ble_eq_true rfl⟩) (kpre hP hD hK hS hE hA [] rfl rfl) rfl rfl hl.1 rfl (lv_room (Nat.le_of_ble_eq_true rfl)) dX5_hour_14 ⟨Nat.zero_le _, Nat.zero_le _⟩) hP hD hS hA [] rfl rfl rfl (fun H locs hP hD hS => ?_)
    obtain ⟨t5, et5, hf⟩ := lj_e hf
    refine lv_ren et5 ?_
    cases hf
    exact kri hQ hAe hx hb hr hlocks hP hD hK hS dX5_hour_17
  exact main _ _ hP hD hS

def rmX5_stir : Room := { frames := 5, cells := 0, slots := 0, locals := 113 }
theorem hdX5_stir : yX5_stir.cls = RX5 ∧ yX5_stir.cls ≠ "java/lang/invoke/MethodHandle" ∧ yX5_stir.cls ≠ "java/lang/invoke/VarHandle" ∧ (parseMethodDescriptor yX5_stir.desc).map (fun d => d.parameters.length) = some 1 := by decide +kernel
set_option maxHeartbeats 40000000 in
set_option maxRecDepth 100000 in
theorem c_X5_stir (l : Launch) (E : Nat → Nat) (D : va_G) (C : Nat → ClassId) (q0 qn0 qk0 qr0 qc0 qt0 qd0 qs0 qf0 qw0 qn1 qn2 qn3 qn4 qn5 qn6 qr1 qr2 qr3 qr4 qr5 qr6 qc1 qc2 qc3 qc4 qc5 qc6 : Nat) (sz : Nat) (N : Nat) (rowCount : Int32) (anyKept : Int32) (now : PV) (trial : PV) (calm : PV) (x0 : Int32) (r : Int32) (trial' : PV) (calm' : PV) (hf : f_X5_stir N now trial calm x0 = some (r, trial', calm')) : Met l yX5_stir wsX5_stir rmX5_stir (PC E D C [.ref q0, .int x0] (oTM q0 qn0 qk0 qr0 qc0 qt0 qd0 qs0 qf0 qw0 rowCount anyKept (oPort C qn0 qn1 qn2 qn3 qn4 qn5 qn6 now (oPort C qr0 qr1 qr2 qr3 qr4 qr5 qr6 trial (oPort C qc0 qc1 qc2 qc3 qc4 qc5 qc6 calm [])))) sz) (QI D C (oTM q0 qn0 qk0 qr0 qc0 qt0 qd0 qs0 qf0 qw0 rowCount anyKept (oPort C qn0 qn1 qn2 qn3 qn4 qn5 qn6 now (oPort C qr0 qr1 qr2 qr3 qr4 qr5 qr6 trial (oPort C qc0 qc1 qc2 qc3 qc4 qc5 qc6 calm [])))) (oTM q0 qn0 qk0 qr0 qc0 qt0 qd0 qs0 qf0 qw0 rowCount anyKept (oPort C qn0 qn1 qn2 qn3 qn4 qn5 qn6 now (oPort C qr0 qr1 qr2 qr3 qr4 qr5 qr6 (trial') (oPort C qc0 qc1 qc2 qc3 qc4 qc5 qc6 (calm') [])))) sz r) 0 0 (va_A (oTM q0 qn0 qk0 qr0 qc0 qt0 qd0 qs0 qf0 qw0 rowCount anyKept (oPort C qn0 qn1 qn2 qn3 qn4 qn5 qn6 now (oPort C qr0 qr1 qr2 qr3 qr4 qr5 qr6 trial (oPort C qc0 qc1 qc2 qc3 qc4 qc5 qc6 calm [])))) sz) := by
  refine Met.ofW (cc := cX5_stir) (maxL := 5) (ret := (some .int)) (by decide) rfl ?_
  intro p e s m args below meth c s₁ B hml hv
  obtain ⟨rfl, hsz, hP, hK, hD0, hE⟩ := hv
  have hx := B.exec
  have hb := B.bytes
  have hr := B.returns
  have hts := atoms_spec (ws := wsX5_stir) B.pre
  have hown : s.vm.findClass RX5 = some m.cls := findClass_of_methodNamed B.named
  have hlocks := B.notSynchronized
  subst hsz
  have hi_RX1 : ∀ w ∈ wsX10, w ∈ wsX5_stir := fun _ h => List.mem_cons_of_mem _ (List.mem_append_right _ h)
  have hi_RX5 : ∀ w ∈ wsX50, w ∈ wsX5_stir := fun _ h => List.mem_cons_of_mem _ (List.mem_append_left _ (List.mem_append_right _ h))
  have hD := hD0.self (sz := s.heap.size)
  obtain ⟨A, hAe⟩ := nm_ex (va_A (oTM q0 qn0 qk0 qr0 qc0 qt0 qd0 qs0 qf0 qw0 rowCount anyKept (oPort C qn0 qn1 qn2 qn3 qn4 qn5 qn6 now (oPort C qr0 qr1 qr2 qr3 qr4 qr5 qr6 trial (oPort C qc0 qc1 qc2 qc3 qc4 qc5 qc6 calm [])))) s.heap.size)
  rw [← hAe] at hD hE ⊢
  have hA : ∀ q : Nat, s.heap.size ≤ q → A q := fun q h => by rw [hAe]; exact Or.inr h
  have hS : va_S A s.heap s.heap [] := va_S.rf
  have hl := lv_entry ([.ref q0, .int x0]) (n := 5) (Nat.le_of_ble_eq_true rfl)
  rw [lg_entry_eq]
  generalize (lg_sl ([.ref q0, .int x0]) ++ List.replicate (5 - (lg_sl ([.ref q0, .int x0])).length) Slot.unset).toArray = ls at hl ⊢
  have hl : lv_has ls 5 [(0, .ref q0), (1, .int x0)] := hl
  obtain ⟨Q, hQ⟩ := nm_ex (MQ below (QI D C (oTM q0 qn0 qk0 qr0 qc0 qt0 qd0 qs0 qf0 qw0 rowCount anyKept (oPort C qn0 qn1 qn2 qn3 qn4 qn5 qn6 now (oPort C qr0 qr1 qr2 qr3 qr4 qr5 qr6 trial (oPort C qc0 qc1 qc2 qc3 qc4 qc5 qc6 calm [])))) (oTM q0 qn0 qk0 qr0 qc0 qt0 qd0 qs0 qf0 qw0 rowCount anyKept (oPort C qn0 qn1 qn2 qn3 qn4 qn5 qn6 now (oPort C qr0 qr1 qr2 qr3 qr4 qr5 qr6 (trial') (oPort C qc0 qc1 qc2 qc3 qc4 qc5 qc6 (calm') [])))) s.heap.size r) (List.toArray [Value.ref q0, Value.int x0]) s 0 0 A)
  show W p l e (headSpec wsX5_stir (rmX5_stir)).room s m (List.toArray [Value.ref q0, Value.int x0]) below meth c s.heap [] 0 0 (MQ below (QI D C (oTM q0 qn0 qk0 qr0 qc0 qt0 qd0 qs0 qf0 qw0 rowCount anyKept (oPort C qn0 qn1 qn2 qn3 qn4 qn5 qn6 now (oPort C qr0 qr1 qr2 qr3 qr4 qr5 qr6 trial (oPort C qc0 qc1 qc2 qc3 qc4 qc5 qc6 calm [])))) (oTM q0 qn0 qk0 qr0 qc0 qt0 qd0 qs0 qf0 qw0 rowCount anyKept (oPort C qn0 qn1 qn2 qn3 qn4 qn5 qn6 now (oPort C qr0 qr1 qr2 qr3 qr4 qr5 qr6 (trial') (oPort C qc0 qc1 qc2 qc3 qc4 qc5 qc6 (calm') [])))) s.heap.size r) (List.toArray [Value.ref q0, Value.int x0]) s 0 0 A) _
  rw [← hQ]
  unfold f_X5_stir at hf
  have main : ∀ (H : Heap) (locs : List Loc), va_P D vwCl (oTM q0 qn0 qk0 qr0 qc0 qt0 qd0 qs0 qf0 qw0 rowCount anyKept (oPort C qn0 qn1 qn2 qn3 qn4 qn5 qn6 now (oPort C qr0 qr1 qr2 qr3 qr4 qr5 qr6 trial (oPort C qc0 qc1 qc2 qc3 qc4 qc5 qc6 calm [])))) H → va_D A (oTM q0 qn0 qk0 qr0 qc0 qt0 qd0 qs0 qf0 qw0 rowCount anyKept (oPort C qn0 qn1 qn2 qn3 qn4 qn5 qn6 now (oPort C qr0 qr1 qr2 qr3 qr4 qr5 qr6 trial (oPort C qc0 qc1 qc2 qc3 qc4 qc5 qc6 calm [])))) → va_S A s.heap H locs → W p l e (headSpec wsX5_stir (rmX5_stir)).room s m (List.toArray [Value.ref q0, Value.int x0]) below meth c H locs 0 0 Q (F0 m 0 ls []) := by
    intro H locs hP hD hS
    refine lv_iload_n hx hb dX5_stir_0 rfl (lv_at hl 1 rfl) ?_
    refine lv_iconst (v := 1) hx hb dX5_stir_1 rfl ?_
    refine lv_bipush (v := 30) hx hb dX5_stir_2 rfl ?_
    refine kcz (Wx := (oTM q0 qn0 qk0 qr0 qc0 qt0 qd0 qs0 qf0 qw0 rowCount anyKept (oPort C qn0 qn1 qn2 qn3 qn4 qn5 qn6 now (oPort C qr0 qr1 qr2 qr3 qr4 qr5 qr6 trial (oPort C qc0 qc1 qc2 qc3 qc4 qc5 qc6 calm []))))) (va_runS (As := [.int x0, .int 1, .int 30]) (rest := []) ⟨hx, hb, hml, hown, hts⟩ (c_X5_within l E D C H.size x0 1 30 _ rfl) (va_cwS 3 hts gX5_stir_X5_within rfl rfl rfl hdX5_within ⟨Nat.le_of_ble_eq_true rfl, Nat.le_of_ble_eq_true rfl⟩) (kpre hP hD hK hS hE hA [] rfl rfl) rfl rfl hl.1 rfl (lv_room (Nat.le_of_ble_eq_true rfl)) dX5_stir_4 ⟨Nat.zero_le _, Nat.zero_le _⟩) hP hD hS hA [] rfl rfl rfl (fun H locs hz1 hP hD hS => ?_)
    refine lv_if_ne (tgt := 12) hx hb dX5_stir_7 (by decide) (fun c2 => ?_) (fun c2 => ?_)
    · replace hf := if_fe c2 hf
      refine lv_aload_n hx hb dX5_stir_12 rfl (lv_at hl 0 rfl) ?_
      refine va_get (D := D) (ci := 5) (v := .ref qc0) (C := RX5) (T := TX5) (N := 11) hx hb hts hi_RX5 hown hK hP 0 rfl rfl 3 (by decide) (hts (.fieldLink RX5 22 "TravelMarks" "calm" "LTravelMarks$Port;") (List.mem_of_getElem? (i := 1) rfl)) (fun _ h9 => h9) rfl dX5_stir_13 ?_
      refine lv_aload_n hx hb dX5_stir_16 rfl (lv_at hl 0 rfl) ?_
      refine va_get (D := D) (ci := 5) (v := .ref qn0) (C := RX5) (T := TX5) (N := 11) hx hb hts hi_RX5 hown hK hP 0 rfl rfl 0 (by decide) (hts (.fieldLink RX5 10 "TravelMarks" "now" "LTravelMarks$Port;") (List.mem_of_getElem? (i := 2) rfl)) (fun _ h9 => h9) rfl dX5_stir_17 ?_
      obtain ⟨v3, h4, hf⟩ := ob1_e hf
      refine kcv (Wx := (oTM q0 qn0 qk0 qr0 qc0 qt0 qd0 qs0 qf0 qw0 rowCount anyKept (oPort C qn0 qn1 qn2 qn3 qn4 qn5 qn6 now (oPort C qr0 qr1 qr2 qr3 qr4 qr5 qr6 trial (oPort C qc0 qc1 qc2 qc3 qc4 qc5 qc6 v3 []))))) (va_runV (As := [.ref qn0]) (rest := []) ⟨hx, hb, hml, hown, hts⟩ (c_X1_become l E D C qc0 qc1 qc2 qc3 qc4 qc5 qc6 qn0 qn1 qn2 qn3 qn4 qn5 qn6 H.size calm now v3 h4) (cwV 1 hts gX5_stir_X1_become rfl rfl rfl hdX1_become ⟨Nat.le_of_ble_eq_true rfl, Nat.le_of_ble_eq_true rfl⟩) (kpreV hP hD hK hS hE hA [15, 16, 17, 18, 19, 20, 21, 1, 2, 3, 4, 5, 6, 7] rfl rfl 15 rfl rfl rfl) rfl rfl hl.1 rfl (lv_room (Nat.le_of_ble_eq_true rfl)) dX5_stir_20 ⟨Nat.zero_le _, Nat.zero_le _⟩) hP hD hS hA [15, 16, 17, 18, 19, 20, 21, 1, 2, 3, 4, 5, 6, 7] rfl rfl rfl (fun H locs hP hD hS => ?_)
      refine lv_aload_n hx hb dX5_stir_23 rfl (lv_at hl 0 rfl) ?_
      refine va_get (D := D) (ci := 5) (v := .ref qc0) (C := RX5) (T := TX5) (N := 11) hx hb hts hi_RX5 hown hK hP 0 rfl rfl 3 (by decide) (hts (.fieldLink RX5 22 "TravelMarks" "calm" "LTravelMarks$Port;") (List.mem_of_getElem? (i := 1) rfl)) (fun _ h9 => h9) rfl dX5_stir_24 ?_
      obtain ⟨v5, h6, hf⟩ := ob1_e hf
      refine kcv (Wx := (oTM q0 qn0 qk0 qr0 qc0 qt0 qd0 qs0 qf0 qw0 rowCount anyKept (oPort C qn0 qn1 qn2 qn3 qn4 qn5 qn6 now (oPort C qr0 qr1 qr2 qr3 qr4 qr5 qr6 trial (oPort C qc0 qc1 qc2 qc3 qc4 qc5 qc6 v5 []))))) (va_runV (As := []) (rest := []) ⟨hx, hb, hml, hown, hts⟩ (c_X1_passHour l E D C qc0 qc1 qc2 qc3 qc4 qc5 qc6 H.size N v3 v5 h6) (cwV 0 hts gX5_stir_X1_passHour rfl rfl rfl hdX1_passHour ⟨Nat.le_of_ble_eq_true rfl, Nat.le_of_ble_eq_true rfl⟩) (kpreV hP hD hK hS hE hA [15, 16, 17, 18, 19, 20, 21] rfl rfl 15 rfl rfl rfl) rfl rfl hl.1 rfl (lv_room (Nat.le_of_ble_eq_true rfl)) dX5_stir_27 ⟨Nat.zero_le _, Nat.zero_le _⟩) hP hD hS hA [15, 16, 17, 18, 19, 20, 21] rfl rfl rfl (fun H locs hP hD hS => ?_)
      refine lv_aload_n hx hb dX5_stir_30 rfl (lv_at hl 0 rfl) ?_
      refine va_get (D := D) (ci := 5) (v := .ref qn0) (C := RX5) (T := TX5) (N := 11) hx hb hts hi_RX5 hown hK hP 0 rfl rfl 0 (by decide) (hts (.fieldLink RX5 10 "TravelMarks" "now" "LTravelMarks$Port;") (List.mem_of_getElem? (i := 2) rfl)) (fun _ h9 => h9) rfl dX5_stir_31 ?_
      refine va_get (D := D) (ci := 1) (v := .int (pZ now)) (C := RX1) (T := TX1) (N := 10) hx hb hts hi_RX1 hown hK hP 1 rfl rfl 8 (by decide) (hts (.fieldLink RX5 68 "TravelMarks$Port" "z" "I") (List.mem_of_getElem? (i := 3) rfl)) (fun _ h9 => h9) rfl dX5_stir_34 ?_
      obtain ⟨t7, et7, hf⟩ := lj_e hf
      refine lv_ren et7 ?_
      refine lv_istore_n (lv' := [(2, .int t7), (0, .ref q0), (1, .int x0)]) hx hb dX5_stir_37 rfl hl (by decide) rfl (fun ls hl => ?_)
      refine lv_iconst (v := 0) hx hb dX5_stir_38 rfl ?_
      refine lv_istore_n (lv' := [(3, .int 0), (2, .int t7), (0, .ref q0), (1, .int x0)]) hx hb dX5_stir_39 rfl hl (by decide) rfl (fun ls hl => ?_)
      refine lv_iconst (v := 0) hx hb dX5_stir_40 rfl ?_
      refine lv_istore (lv' := [(4, .int 0), (3, .int 0), (2, .int t7), (0, .ref q0), (1, .int x0)]) hx hb dX5_stir_41 hl (by decide) rfl (fun ls hl => ?_)
      have hL43 : ∀ (n : Nat) (i8 : Int32) (i9 : Int32) (i10 : Int32) (v11 : PV) (H : Heap) (locs : List Loc) (ls : Array Slot), va_P D vwCl (oTM q0 qn0 qk0 qr0 qc0 qt0 qd0 qs0 qf0 qw0 rowCount anyKept (oPort C qn0 qn1 qn2 qn3 qn4 qn5 qn6 now (oPort C qr0 qr1 qr2 qr3 qr4 qr5 qr6 v11 (oPort C qc0 qc1 qc2 qc3 qc4 qc5 qc6 v5 [])))) H → va_D A (oTM q0 qn0 qk0 qr0 qc0 qt0 qd0 qs0 qf0 qw0 rowCount anyKept (oPort C qn0 qn1 qn2 qn3 qn4 qn5 qn6 now (oPort C qr0 qr1 qr2 qr3 qr4 qr5 qr6 v11 (oPort C qc0 qc1 qc2 qc3 qc4 qc5 qc6 v5 [])))) → va_S A s.heap H locs → lv_has ls 5 [(4, .int i8), (3, .int i9), (2, .int i10), (0, .ref q0), (1, .int x0)] → f_X5_stir_L43 N now x0 v5 n i8 i9 i10 v11 = some (r, trial', calm') → W p l e (headSpec wsX5_stir (rmX5_stir)).room s m (List.toArray [Value.ref q0, Value.int x0]) below meth c H locs 0 0 Q (F0 m 43 ls []) := by
        intro n
        induction n with
        | zero =>
          intro i8 i9 i10 v11 H locs ls hP hD hS hl hf
          exact absurd hf (fun h => by cases h)
        | succ n ih =>
          intro i8 i9 i10 v11 H locs ls hP hD hS hl hf
          rw [f_X5_stir_L43] at hf
          refine lv_iload hx hb dX5_stir_43 (lv_at hl 0 rfl) ?_
          refine lv_iload_n hx hb dX5_stir_45 rfl (lv_at hl 4 rfl) ?_
          refine lv_icmp_ge (tgt := 106) hx hb dX5_stir_46 (by decide) (fun c12 => ?_) (fun c12 => ?_)
          · replace hf := if_te c12 hf
            refine lv_iload_n hx hb dX5_stir_106 rfl (lv_at hl 1 rfl) ?_
            cases hf
            exact kri hQ hAe hx hb hr hlocks hP hD hK hS dX5_stir_107
          · replace hf := if_fe c12 hf
            refine lv_aload_n hx hb dX5_stir_49 rfl (lv_at hl 3 rfl) ?_
            refine va_get (D := D) (ci := 5) (v := .ref qr0) (C := RX5) (T := TX5) (N := 11) hx hb hts hi_RX5 hown hK hP 0 rfl rfl 2 (by decide) (hts (.fieldLink RX5 19 "TravelMarks" "trial" "LTravelMarks$Port;") (List.mem_of_getElem? (i := 4) rfl)) (fun _ h9 => h9) rfl dX5_stir_50 ?_
            refine lv_aload_n hx hb dX5_stir_53 rfl (lv_at hl 3 rfl) ?_
            refine va_get (D := D) (ci := 5) (v := .ref qn0) (C := RX5) (T := TX5) (N := 11) hx hb hts hi_RX5 hown hK hP 0 rfl rfl 0 (by decide) (hts (.fieldLink RX5 10 "TravelMarks" "now" "LTravelMarks$Port;") (List.mem_of_getElem? (i := 2) rfl)) (fun _ h9 => h9) rfl dX5_stir_54 ?_
            obtain ⟨v13, h14, hf⟩ := ob1_e hf
            refine kcv (Wx := (oTM q0 qn0 qk0 qr0 qc0 qt0 qd0 qs0 qf0 qw0 rowCount anyKept (oPort C qn0 qn1 qn2 qn3 qn4 qn5 qn6 now (oPort C qr0 qr1 qr2 qr3 qr4 qr5 qr6 v13 (oPort C qc0 qc1 qc2 qc3 qc4 qc5 qc6 v5 []))))) (va_runV (As := [.ref qn0]) (rest := []) ⟨hx, hb, hml, hown, hts⟩ (c_X1_become l E D C qr0 qr1 qr2 qr3 qr4 qr5 qr6 qn0 qn1 qn2 qn3 qn4 qn5 qn6 H.size v11 now v13 h14) (cwV 1 hts gX5_stir_X1_become rfl rfl rfl hdX1_become ⟨Nat.le_of_ble_eq_true rfl, Nat.le_of_ble_eq_true rfl⟩) (kpreV hP hD hK hS hE hA [8, 9, 10, 11, 12, 13, 14, 1, 2, 3, 4, 5, 6, 7] rfl rfl 8 rfl rfl rfl) rfl rfl hl.1 rfl (lv_room (Nat.le_of_ble_eq_true rfl)) dX5_stir_57 ⟨Nat.zero_le _, Nat.zero_le _⟩) hP hD hS hA [8, 9, 10, 11, 12, 13, 14, 1, 2, 3, 4, 5, 6, 7] rfl rfl rfl (fun H locs hP hD hS => ?_)
            refine lv_aload_n hx hb dX5_stir_60 rfl (lv_at hl 3 rfl) ?_
            refine va_get (D := D) (ci := 5) (v := .ref qr0) (C := RX5) (T := TX5) (N := 11) hx hb hts hi_RX5 hown hK hP 0 rfl rfl 2 (by decide) (hts (.fieldLink RX5 19 "TravelMarks" "trial" "LTravelMarks$Port;") (List.mem_of_getElem? (i := 4) rfl)) (fun _ h9 => h9) rfl dX5_stir_61 ?_
            refine lv_iload_n hx hb dX5_stir_64 rfl (lv_at hl 2 rfl) ?_
            refine va_put (D := D) (ci := 1) (v := .int i10) (ty := .int) (C := RX1) (T := TX1) (N := 10) hx hb hts hi_RX1 tyX1 tyX1_ok nmX1 hown hK hP hD hS 8 rfl rfl 8 (by decide) (hts (.fieldLink RX5 68 "TravelMarks$Port" "z" "I") (List.mem_of_getElem? (i := 3) rfl)) (fun _ h9 => h9) rfl (tyX1_ok 8 (by decide)) rfl rfl (Nat.le_of_ble_eq_true rfl) dX5_stir_65 (fun H locs hP hD hS => ?_)
            obtain ⟨v15, ev15, hf⟩ := lj_e hf
            have hP : va_P D vwCl (oTM q0 qn0 qk0 qr0 qc0 qt0 qd0 qs0 qf0 qw0 rowCount anyKept (oPort C qn0 qn1 qn2 qn3 qn4 qn5 qn6 now (oPort C qr0 qr1 qr2 qr3 qr4 qr5 qr6 v15 (oPort C qc0 qc1 qc2 qc3 qc4 qc5 qc6 v5 [])))) H := by rw [ev15]; exact hP
            have hD : va_D A (oTM q0 qn0 qk0 qr0 qc0 qt0 qd0 qs0 qf0 qw0 rowCount anyKept (oPort C qn0 qn1 qn2 qn3 qn4 qn5 qn6 now (oPort C qr0 qr1 qr2 qr3 qr4 qr5 qr6 v15 (oPort C qc0 qc1 qc2 qc3 qc4 qc5 qc6 v5 [])))) := by rw [ev15]; exact hD
            refine lv_aload_n hx hb dX5_stir_68 rfl (lv_at hl 3 rfl) ?_
            refine va_get (D := D) (ci := 5) (v := .ref qr0) (C := RX5) (T := TX5) (N := 11) hx hb hts hi_RX5 hown hK hP 0 rfl rfl 2 (by decide) (hts (.fieldLink RX5 19 "TravelMarks" "trial" "LTravelMarks$Port;") (List.mem_of_getElem? (i := 4) rfl)) (fun _ h9 => h9) rfl dX5_stir_69 ?_
            obtain ⟨v16, h17, hf⟩ := ob1_e hf
            refine kcv (Wx := (oTM q0 qn0 qk0 qr0 qc0 qt0 qd0 qs0 qf0 qw0 rowCount anyKept (oPort C qn0 qn1 qn2 qn3 qn4 qn5 qn6 now (oPort C qr0 qr1 qr2 qr3 qr4 qr5 qr6 v16 (oPort C qc0 qc1 qc2 qc3 qc4 qc5 qc6 v5 []))))) (va_runV (As := []) (rest := []) ⟨hx, hb, hml, hown, hts⟩ (c_X1_passHourByDraws l E D C qr0 qr1 qr2 qr3 qr4 qr5 qr6 H.size N v15 v16 h17) (cwV 0 hts gX5_stir_X1_passHourByDraws rfl rfl rfl hdX1_passHourByDraws ⟨Nat.le_of_ble_eq_true rfl, Nat.le_of_ble_eq_true rfl⟩) (kpreV hP hD hK hS hE hA [8, 9, 10, 11, 12, 13, 14] rfl rfl 8 rfl rfl rfl) rfl rfl hl.1 rfl (lv_room (Nat.le_of_ble_eq_true rfl)) dX5_stir_72 ⟨Nat.zero_le _, Nat.zero_le _⟩) hP hD hS hA [8, 9, 10, 11, 12, 13, 14] rfl rfl rfl (fun H locs hP hD hS => ?_)
            refine lv_aload_n hx hb dX5_stir_75 rfl (lv_at hl 3 rfl) ?_
            refine va_get (D := D) (ci := 5) (v := .ref qr0) (C := RX5) (T := TX5) (N := 11) hx hb hts hi_RX5 hown hK hP 0 rfl rfl 2 (by decide) (hts (.fieldLink RX5 19 "TravelMarks" "trial" "LTravelMarks$Port;") (List.mem_of_getElem? (i := 4) rfl)) (fun _ h9 => h9) rfl dX5_stir_76 ?_
            refine va_get (D := D) (ci := 1) (v := .int (pZ v16)) (C := RX1) (T := TX1) (N := 10) hx hb hts hi_RX1 hown hK hP 8 rfl rfl 8 (by decide) (hts (.fieldLink RX5 68 "TravelMarks$Port" "z" "I") (List.mem_of_getElem? (i := 3) rfl)) (fun _ h9 => h9) rfl dX5_stir_79 ?_
            obtain ⟨t18, et18, hf⟩ := lj_e hf
            refine lv_ren et18 ?_
            refine lv_istore_n (lv' := [(2, .int t18), (4, .int i8), (3, .int i9), (0, .ref q0), (1, .int x0)]) hx hb dX5_stir_82 rfl hl (by decide) rfl (fun ls hl => ?_)
            refine lv_aload_n hx hb dX5_stir_83 rfl (lv_at hl 3 rfl) ?_
            refine va_get (D := D) (ci := 5) (v := .ref qr0) (C := RX5) (T := TX5) (N := 11) hx hb hts hi_RX5 hown hK hP 0 rfl rfl 2 (by decide) (hts (.fieldLink RX5 19 "TravelMarks" "trial" "LTravelMarks$Port;") (List.mem_of_getElem? (i := 4) rfl)) (fun _ h9 => h9) rfl dX5_stir_84 ?_
            refine lv_aload_n hx hb dX5_stir_87 rfl (lv_at hl 3 rfl) ?_
            refine va_get (D := D) (ci := 5) (v := .ref qc0) (C := RX5) (T := TX5) (N := 11) hx hb hts hi_RX5 hown hK hP 0 rfl rfl 3 (by decide) (hts (.fieldLink RX5 22 "TravelMarks" "calm" "LTravelMarks$Port;") (List.mem_of_getElem? (i := 1) rfl)) (fun _ h9 => h9) rfl dX5_stir_88 ?_
            obtain ⟨r19, h20, hf⟩ := ob1_e hf
            refine kcz (Wx := (oTM q0 qn0 qk0 qr0 qc0 qt0 qd0 qs0 qf0 qw0 rowCount anyKept (oPort C qn0 qn1 qn2 qn3 qn4 qn5 qn6 now (oPort C qr0 qr1 qr2 qr3 qr4 qr5 qr6 v16 (oPort C qc0 qc1 qc2 qc3 qc4 qc5 qc6 v5 []))))) (va_runV (As := [.ref qc0]) (rest := []) ⟨hx, hb, hml, hown, hts⟩ (c_X1_liesAs l E D C qr0 qr1 qr2 qr3 qr4 qr5 qr6 qc0 qc1 qc2 qc3 qc4 qc5 qc6 H.size N v16 v5 r19 h20) (cwV 1 hts gX5_stir_X1_liesAs rfl rfl rfl hdX1_liesAs ⟨Nat.le_of_ble_eq_true rfl, Nat.le_of_ble_eq_true rfl⟩) (kpreV hP hD hK hS hE hA [8, 9, 10, 11, 12, 13, 14, 15, 16, 17, 18, 19, 20, 21] rfl rfl 8 rfl rfl rfl) rfl rfl hl.1 rfl (lv_room (Nat.le_of_ble_eq_true rfl)) dX5_stir_91 ⟨Nat.zero_le _, Nat.zero_le _⟩) hP hD hS hA [8, 9, 10, 11, 12, 13, 14, 15, 16, 17, 18, 19, 20, 21] rfl rfl rfl (fun H locs hz21 hP hD hS => ?_)
            obtain ⟨j23, hj23, hf⟩ := lj_e hf
            have Hj23 : ∀ (i22 : Int32) (H : Heap) (locs : List Loc) (ls : Array Slot), va_P D vwCl (oTM q0 qn0 qk0 qr0 qc0 qt0 qd0 qs0 qf0 qw0 rowCount anyKept (oPort C qn0 qn1 qn2 qn3 qn4 qn5 qn6 now (oPort C qr0 qr1 qr2 qr3 qr4 qr5 qr6 v16 (oPort C qc0 qc1 qc2 qc3 qc4 qc5 qc6 v5 [])))) H → va_D A (oTM q0 qn0 qk0 qr0 qc0 qt0 qd0 qs0 qf0 qw0 rowCount anyKept (oPort C qn0 qn1 qn2 qn3 qn4 qn5 qn6 now (oPort C qr0 qr1 qr2 qr3 qr4 qr5 qr6 v16 (oPort C qc0 qc1 qc2 qc3 qc4 qc5 qc6 v5 [])))) → va_S A s.heap H locs → lv_has ls 5 [(2, .int t18), (4, .int i8), (3, .int i22), (0, .ref q0), (1, .int x0)] → j23 i22 = some (r, trial', calm') → W p l e (headSpec wsX5_stir (rmX5_stir)).room s m (List.toArray [Value.ref q0, Value.int x0]) below meth c H locs 0 0 Q (F0 m 100 ls []) := by
              intro i22 H locs ls hP hD hS hl hf
              rw [hj23] at hf
              obtain ⟨t24, et24, hf⟩ := lj_e hf
              refine lv_iinc (v := t24) (lv' := [(4, .int t24), (2, .int t18), (3, .int i22), (0, .ref q0), (1, .int x0)]) hx hb dX5_stir_100 hl (k := 1) rfl (by rw [et24]; rfl) (by decide) rfl (fun ls hl => ?_)
              refine lv_goto (tgt := 43) hx hb dX5_stir_103 (by decide) ?_
              exact ih t24 i22 t18 v16 H locs ls hP hD hS (lv_sub hl [0, 2, 1, 3, 4] rfl) hf
            refine lv_if_ne (tgt := 100) hx hb dX5_stir_94 (by decide) (fun c25 => ?_) (fun c25 => ?_)
            · replace hf := if_fe c25 hf
              exact Hj23 i9 H locs ls hP hD hS (lv_sub hl [0, 1, 2, 3, 4] rfl) hf
            · replace hf := if_te c25 hf
              obtain ⟨t26, et26, hf⟩ := lj_e hf
              refine lv_iinc (v := t26) (lv' := [(3, .int t26), (2, .int t18), (4, .int i8), (0, .ref q0), (1, .int x0)]) hx hb dX5_stir_97 hl (k := 2) rfl (by rw [et26]; rfl) (by decide) rfl (fun ls hl => ?_)
              exact Hj23 t26 H locs ls hP hD hS (lv_sub hl [1, 2, 0, 3, 4] rfl) hf
      exact hL43 N 0 0 t7 trial H locs ls hP hD hS (lv_sub hl [0, 1, 2, 3, 4] rfl) hf
    · replace hf := if_te c2 hf
      refine lv_iconst (v := (-1)) hx hb dX5_stir_10 rfl ?_
      cases hf
      exact kri hQ hAe hx hb hr hlocks hP hD hK hS dX5_stir_11
  exact main _ _ hP hD hS

def rmX5_state : Room := { frames := 3, cells := 0, slots := 0, locals := 67 }
theorem hdX5_state : yX5_state.cls = RX5 ∧ yX5_state.cls ≠ "java/lang/invoke/MethodHandle" ∧ yX5_state.cls ≠ "java/lang/invoke/VarHandle" ∧ (parseMethodDescriptor yX5_state.desc).map (fun d => d.parameters.length) = some 1 := by decide +kernel
set_option maxHeartbeats 40000000 in
set_option maxRecDepth 100000 in
theorem c_X5_state (l : Launch) (E : Nat → Nat) (D : va_G) (C : Nat → ClassId) (q0 qn0 qk0 qr0 qc0 qt0 qd0 qs0 qf0 qw0 qn1 qn2 qn3 qn4 qn5 qn6 : Nat) (sz : Nat) (N : Nat) (rowCount : Int32) (anyKept : Int32) (now : PV) (x0 : Int32) (r : Int32) (hf : f_X5_state N now x0 = some r) : Met l yX5_state wsX5_state rmX5_state (PC E D C [.ref q0, .int x0] (oTM q0 qn0 qk0 qr0 qc0 qt0 qd0 qs0 qf0 qw0 rowCount anyKept (oPort C qn0 qn1 qn2 qn3 qn4 qn5 qn6 now [])) sz) (QI D C (oTM q0 qn0 qk0 qr0 qc0 qt0 qd0 qs0 qf0 qw0 rowCount anyKept (oPort C qn0 qn1 qn2 qn3 qn4 qn5 qn6 now [])) (oTM q0 qn0 qk0 qr0 qc0 qt0 qd0 qs0 qf0 qw0 rowCount anyKept (oPort C qn0 qn1 qn2 qn3 qn4 qn5 qn6 now [])) sz r) 0 0 (va_A (oTM q0 qn0 qk0 qr0 qc0 qt0 qd0 qs0 qf0 qw0 rowCount anyKept (oPort C qn0 qn1 qn2 qn3 qn4 qn5 qn6 now [])) sz) := by
  refine Met.ofW (cc := cX5_state) (maxL := 2) (ret := (some .int)) (by decide) rfl ?_
  intro p e s m args below meth c s₁ B hml hv
  obtain ⟨rfl, hsz, hP, hK, hD0, hE⟩ := hv
  have hx := B.exec
  have hb := B.bytes
  have hr := B.returns
  have hts := atoms_spec (ws := wsX5_state) B.pre
  have hown : s.vm.findClass RX5 = some m.cls := findClass_of_methodNamed B.named
  have hlocks := B.notSynchronized
  subst hsz
  have hi_RX1 : ∀ w ∈ wsX10, w ∈ wsX5_state := fun _ h => List.mem_cons_of_mem _ (List.mem_append_right _ h)
  have hi_RX5 : ∀ w ∈ wsX50, w ∈ wsX5_state := fun _ h => List.mem_cons_of_mem _ (List.mem_append_left _ (List.mem_append_right _ h))
  have hD := hD0.self (sz := s.heap.size)
  obtain ⟨A, hAe⟩ := nm_ex (va_A (oTM q0 qn0 qk0 qr0 qc0 qt0 qd0 qs0 qf0 qw0 rowCount anyKept (oPort C qn0 qn1 qn2 qn3 qn4 qn5 qn6 now [])) s.heap.size)
  rw [← hAe] at hD hE ⊢
  have hA : ∀ q : Nat, s.heap.size ≤ q → A q := fun q h => by rw [hAe]; exact Or.inr h
  have hS : va_S A s.heap s.heap [] := va_S.rf
  have hl := lv_entry ([.ref q0, .int x0]) (n := 2) (Nat.le_of_ble_eq_true rfl)
  rw [lg_entry_eq]
  generalize (lg_sl ([.ref q0, .int x0]) ++ List.replicate (2 - (lg_sl ([.ref q0, .int x0])).length) Slot.unset).toArray = ls at hl ⊢
  have hl : lv_has ls 2 [(0, .ref q0), (1, .int x0)] := hl
  obtain ⟨Q, hQ⟩ := nm_ex (MQ below (QI D C (oTM q0 qn0 qk0 qr0 qc0 qt0 qd0 qs0 qf0 qw0 rowCount anyKept (oPort C qn0 qn1 qn2 qn3 qn4 qn5 qn6 now [])) (oTM q0 qn0 qk0 qr0 qc0 qt0 qd0 qs0 qf0 qw0 rowCount anyKept (oPort C qn0 qn1 qn2 qn3 qn4 qn5 qn6 now [])) s.heap.size r) (List.toArray [Value.ref q0, Value.int x0]) s 0 0 A)
  show W p l e (headSpec wsX5_state (rmX5_state)).room s m (List.toArray [Value.ref q0, Value.int x0]) below meth c s.heap [] 0 0 (MQ below (QI D C (oTM q0 qn0 qk0 qr0 qc0 qt0 qd0 qs0 qf0 qw0 rowCount anyKept (oPort C qn0 qn1 qn2 qn3 qn4 qn5 qn6 now [])) (oTM q0 qn0 qk0 qr0 qc0 qt0 qd0 qs0 qf0 qw0 rowCount anyKept (oPort C qn0 qn1 qn2 qn3 qn4 qn5 qn6 now [])) s.heap.size r) (List.toArray [Value.ref q0, Value.int x0]) s 0 0 A) _
  rw [← hQ]
  unfold f_X5_state at hf
  have main : ∀ (H : Heap) (locs : List Loc), va_P D vwCl (oTM q0 qn0 qk0 qr0 qc0 qt0 qd0 qs0 qf0 qw0 rowCount anyKept (oPort C qn0 qn1 qn2 qn3 qn4 qn5 qn6 now [])) H → va_D A (oTM q0 qn0 qk0 qr0 qc0 qt0 qd0 qs0 qf0 qw0 rowCount anyKept (oPort C qn0 qn1 qn2 qn3 qn4 qn5 qn6 now [])) → va_S A s.heap H locs → W p l e (headSpec wsX5_state (rmX5_state)).room s m (List.toArray [Value.ref q0, Value.int x0]) below meth c H locs 0 0 Q (F0 m 0 ls []) := by
    intro H locs hP hD hS
    refine lv_iload_n hx hb dX5_state_0 rfl (lv_at hl 1 rfl) ?_
    by_cases c1 : x0 = 0
    · replace hf := if_te c1 hf
      refine lv_tableIn (x := x0) (tgt := 40) (off := 39) hx hb dX5_state_1 (by rw [c1]; decide) (by rw [c1]; decide) (by rw [c1]; try rfl) (by decide) ?_
      refine lv_aload_n hx hb dX5_state_40 rfl (lv_at hl 0 rfl) ?_
      refine va_get (D := D) (ci := 5) (v := .ref qn0) (C := RX5) (T := TX5) (N := 11) hx hb hts hi_RX5 hown hK hP 0 rfl rfl 0 (by decide) (hts (.fieldLink RX5 10 "TravelMarks" "now" "LTravelMarks$Port;") (List.mem_of_getElem? (i := 1) rfl)) (fun _ h9 => h9) rfl dX5_state_41 ?_
      refine va_get (D := D) (ci := 1) (v := .int (pHour now)) (C := RX1) (T := TX1) (N := 10) hx hb hts hi_RX1 hown hK hP 1 rfl rfl 7 (by decide) (hts (.fieldLink RX5 168 "TravelMarks$Port" "hour" "I") (List.mem_of_getElem? (i := 2) rfl)) (fun _ h9 => h9) rfl dX5_state_44 ?_
      obtain ⟨t2, et2, hf⟩ := lj_e hf
      refine lv_ren et2 ?_
      cases hf
      exact kri hQ hAe hx hb hr hlocks hP hD hK hS dX5_state_47
    replace hf := if_fe c1 hf
    by_cases c3 : x0 = 1
    · replace hf := if_te c3 hf
      refine lv_tableIn (x := x0) (tgt := 48) (off := 47) hx hb dX5_state_1 (by rw [c3]; decide) (by rw [c3]; decide) (by rw [c3]; try rfl) (by decide) ?_
      refine lv_aload_n hx hb dX5_state_48 rfl (lv_at hl 0 rfl) ?_
      refine va_get (D := D) (ci := 5) (v := .ref qn0) (C := RX5) (T := TX5) (N := 11) hx hb hts hi_RX5 hown hK hP 0 rfl rfl 0 (by decide) (hts (.fieldLink RX5 10 "TravelMarks" "now" "LTravelMarks$Port;") (List.mem_of_getElem? (i := 1) rfl)) (fun _ h9 => h9) rfl dX5_state_49 ?_
      obtain ⟨r4, h5, hf⟩ := ob1_e hf
      refine kci (Wx := (oTM q0 qn0 qk0 qr0 qc0 qt0 qd0 qs0 qf0 qw0 rowCount anyKept (oPort C qn0 qn1 qn2 qn3 qn4 qn5 qn6 now []))) (va_runV (As := []) (rest := []) ⟨hx, hb, hml, hown, hts⟩ (c_X1_allInk l E D C qn0 qn1 qn2 qn3 qn4 qn5 qn6 H.size N now r4 h5) (cwV 0 hts gX5_state_X1_allInk rfl rfl rfl hdX1_allInk ⟨Nat.le_of_ble_eq_true rfl, Nat.le_of_ble_eq_true rfl⟩) (kpreV hP hD hK hS hE hA [1, 2, 3, 4, 5, 6, 7] rfl rfl 1 rfl rfl rfl) rfl rfl hl.1 rfl (lv_room (Nat.le_of_ble_eq_true rfl)) dX5_state_52 ⟨Nat.zero_le _, Nat.zero_le _⟩) hP hD hS hA [1, 2, 3, 4, 5, 6, 7] rfl rfl rfl (fun H locs hP hD hS => ?_)
      cases hf
      exact kri hQ hAe hx hb hr hlocks hP hD hK hS dX5_state_55
    replace hf := if_fe c3 hf
    by_cases c6 : x0 = 2
    · replace hf := if_te c6 hf
      refine lv_tableIn (x := x0) (tgt := 56) (off := 55) hx hb dX5_state_1 (by rw [c6]; decide) (by rw [c6]; decide) (by rw [c6]; try rfl) (by decide) ?_
      refine lv_aload_n hx hb dX5_state_56 rfl (lv_at hl 0 rfl) ?_
      refine va_get (D := D) (ci := 5) (v := .ref qn0) (C := RX5) (T := TX5) (N := 11) hx hb hts hi_RX5 hown hK hP 0 rfl rfl 0 (by decide) (hts (.fieldLink RX5 10 "TravelMarks" "now" "LTravelMarks$Port;") (List.mem_of_getElem? (i := 1) rfl)) (fun _ h9 => h9) rfl dX5_state_57 ?_
      obtain ⟨r7, h8, hf⟩ := ob1_e hf
      refine kci (Wx := (oTM q0 qn0 qk0 qr0 qc0 qt0 qd0 qs0 qf0 qw0 rowCount anyKept (oPort C qn0 qn1 qn2 qn3 qn4 qn5 qn6 now []))) (va_runV (As := []) (rest := []) ⟨hx, hb, hml, hown, hts⟩ (c_X1_marked l E D C qn0 qn1 qn2 qn3 qn4 qn5 qn6 H.size N now r7 h8) (cwV 0 hts gX5_state_X1_marked rfl rfl rfl hdX1_marked ⟨Nat.le_of_ble_eq_true rfl, Nat.le_of_ble_eq_true rfl⟩) (kpreV hP hD hK hS hE hA [1, 2, 3, 4, 5, 6, 7] rfl rfl 1 rfl rfl rfl) rfl rfl hl.1 rfl (lv_room (Nat.le_of_ble_eq_true rfl)) dX5_state_60 ⟨Nat.zero_le _, Nat.zero_le _⟩) hP hD hS hA [1, 2, 3, 4, 5, 6, 7] rfl rfl rfl (fun H locs hP hD hS => ?_)
      cases hf
      exact kri hQ hAe hx hb hr hlocks hP hD hK hS dX5_state_63
    replace hf := if_fe c6 hf
    by_cases c9 : x0 = 3
    · replace hf := if_te c9 hf
      refine lv_tableIn (x := x0) (tgt := 64) (off := 63) hx hb dX5_state_1 (by rw [c9]; decide) (by rw [c9]; decide) (by rw [c9]; try rfl) (by decide) ?_
      refine lv_aload_n hx hb dX5_state_64 rfl (lv_at hl 0 rfl) ?_
      refine va_get (D := D) (ci := 5) (v := .ref qn0) (C := RX5) (T := TX5) (N := 11) hx hb hts hi_RX5 hown hK hP 0 rfl rfl 0 (by decide) (hts (.fieldLink RX5 10 "TravelMarks" "now" "LTravelMarks$Port;") (List.mem_of_getElem? (i := 1) rfl)) (fun _ h9 => h9) rfl dX5_state_65 ?_
      obtain ⟨r10, h11, hf⟩ := ob1_e hf
      refine kci (Wx := (oTM q0 qn0 qk0 qr0 qc0 qt0 qd0 qs0 qf0 qw0 rowCount anyKept (oPort C qn0 qn1 qn2 qn3 qn4 qn5 qn6 now []))) (va_runV (As := []) (rest := []) ⟨hx, hb, hml, hown, hts⟩ (c_X1_circles l E D C qn0 qn1 qn2 qn3 qn4 qn5 qn6 H.size N now r10 h11) (cwV 0 hts gX5_state_X1_circles rfl rfl rfl hdX1_circles ⟨Nat.le_of_ble_eq_true rfl, Nat.le_of_ble_eq_true rfl⟩) (kpreV hP hD hK hS hE hA [1, 2, 3, 4, 5, 6, 7] rfl rfl 1 rfl rfl rfl) rfl rfl hl.1 rfl (lv_room (Nat.le_of_ble_eq_true rfl)) dX5_state_68 ⟨Nat.zero_le _, Nat.zero_le _⟩) hP hD hS hA [1, 2, 3, 4, 5, 6, 7] rfl rfl rfl (fun H locs hP hD hS => ?_)
      cases hf
      exact kri hQ hAe hx hb hr hlocks hP hD hK hS dX5_state_71
    replace hf := if_fe c9 hf
    by_cases c12 : x0 = 4
    · replace hf := if_te c12 hf
      refine lv_tableIn (x := x0) (tgt := 72) (off := 71) hx hb dX5_state_1 (by rw [c12]; decide) (by rw [c12]; decide) (by rw [c12]; try rfl) (by decide) ?_
      refine lv_aload_n hx hb dX5_state_72 rfl (lv_at hl 0 rfl) ?_
      refine va_get (D := D) (ci := 5) (v := .ref qn0) (C := RX5) (T := TX5) (N := 11) hx hb hts hi_RX5 hown hK hP 0 rfl rfl 0 (by decide) (hts (.fieldLink RX5 10 "TravelMarks" "now" "LTravelMarks$Port;") (List.mem_of_getElem? (i := 1) rfl)) (fun _ h9 => h9) rfl dX5_state_73 ?_
      obtain ⟨r13, h14, hf⟩ := ob1_e hf
      refine kci (Wx := (oTM q0 qn0 qk0 qr0 qc0 qt0 qd0 qs0 qf0 qw0 rowCount anyKept (oPort C qn0 qn1 qn2 qn3 qn4 qn5 qn6 now []))) (va_runV (As := []) (rest := []) ⟨hx, hb, hml, hown, hts⟩ (c_X1_dried l E D C qn0 qn1 qn2 qn3 qn4 qn5 qn6 H.size N now r13 h14) (cwV 0 hts gX5_state_X1_dried rfl rfl rfl hdX1_dried ⟨Nat.le_of_ble_eq_true rfl, Nat.le_of_ble_eq_true rfl⟩) (kpreV hP hD hK hS hE hA [1, 2, 3, 4, 5, 6, 7] rfl rfl 1 rfl rfl rfl) rfl rfl hl.1 rfl (lv_room (Nat.le_of_ble_eq_true rfl)) dX5_state_76 ⟨Nat.zero_le _, Nat.zero_le _⟩) hP hD hS hA [1, 2, 3, 4, 5, 6, 7] rfl rfl rfl (fun H locs hP hD hS => ?_)
      cases hf
      exact kri hQ hAe hx hb hr hlocks hP hD hK hS dX5_state_79
    replace hf := if_fe c12 hf
    by_cases c15 : x0 = 5
    · replace hf := if_te c15 hf
      refine lv_tableIn (x := x0) (tgt := 80) (off := 79) hx hb dX5_state_1 (by rw [c15]; decide) (by rw [c15]; decide) (by rw [c15]; try rfl) (by decide) ?_
      refine lv_aload_n hx hb dX5_state_80 rfl (lv_at hl 0 rfl) ?_
      refine va_get (D := D) (ci := 5) (v := .ref qn0) (C := RX5) (T := TX5) (N := 11) hx hb hts hi_RX5 hown hK hP 0 rfl rfl 0 (by decide) (hts (.fieldLink RX5 10 "TravelMarks" "now" "LTravelMarks$Port;") (List.mem_of_getElem? (i := 1) rfl)) (fun _ h9 => h9) rfl dX5_state_81 ?_
      obtain ⟨r16, h17, hf⟩ := ob1_e hf
      refine kci (Wx := (oTM q0 qn0 qk0 qr0 qc0 qt0 qd0 qs0 qf0 qw0 rowCount anyKept (oPort C qn0 qn1 qn2 qn3 qn4 qn5 qn6 now []))) (va_runV (As := []) (rest := []) ⟨hx, hb, hml, hown, hts⟩ (c_X1_mostOnOne l E D C qn0 qn1 qn2 qn3 qn4 qn5 qn6 H.size N now r16 h17) (cwV 0 hts gX5_state_X1_mostOnOne rfl rfl rfl hdX1_mostOnOne ⟨Nat.le_of_ble_eq_true rfl, Nat.le_of_ble_eq_true rfl⟩) (kpreV hP hD hK hS hE hA [1, 2, 3, 4, 5, 6, 7] rfl rfl 1 rfl rfl rfl) rfl rfl hl.1 rfl (lv_room (Nat.le_of_ble_eq_true rfl)) dX5_state_84 ⟨Nat.zero_le _, Nat.zero_le _⟩) hP hD hS hA [1, 2, 3, 4, 5, 6, 7] rfl rfl rfl (fun H locs hP hD hS => ?_)
      cases hf
      exact kri hQ hAe hx hb hr hlocks hP hD hK hS dX5_state_87
    replace hf := if_fe c15 hf
    refine lv_tableOut (x := x0) (tgt := 88) hx hb dX5_state_1 (swo_0_5 c1 c3 c6 c9 c12 c15) (by decide) ?_
    refine lv_iconst (v := (-1)) hx hb dX5_state_88 rfl ?_
    cases hf
    exact kri hQ hAe hx hb hr hlocks hP hD hK hS dX5_state_89
  exact main _ _ hP hD hS

def rmX5_where : Room := { frames := 4, cells := 0, slots := 0, locals := 91 }
theorem hdX5_where : yX5_where.cls = RX5 ∧ yX5_where.cls ≠ "java/lang/invoke/MethodHandle" ∧ yX5_where.cls ≠ "java/lang/invoke/VarHandle" ∧ (parseMethodDescriptor yX5_where.desc).map (fun d => d.parameters.length) = some 2 := by decide +kernel
set_option maxHeartbeats 40000000 in
set_option maxRecDepth 100000 in
theorem c_X5_where (l : Launch) (E : Nat → Nat) (D : va_G) (C : Nat → ClassId) (q0 qn0 qk0 qr0 qc0 qt0 qd0 qs0 qf0 qw0 qn1 qn2 qn3 qn4 qn5 qn6 qr1 qr2 qr3 qr4 qr5 qr6 : Nat) (sz : Nat) (N : Nat) (rowCount : Int32) (anyKept : Int32) (now : PV) (trial : PV) (x0 : Int32) (x1 : Int32) (r : Int32) (trial' : PV) (hf : f_X5_where N now trial x0 x1 = some (r, trial')) : Met l yX5_where wsX5_where rmX5_where (PC E D C [.ref q0, .int x0, .int x1] (oTM q0 qn0 qk0 qr0 qc0 qt0 qd0 qs0 qf0 qw0 rowCount anyKept (oPort C qn0 qn1 qn2 qn3 qn4 qn5 qn6 now (oPort C qr0 qr1 qr2 qr3 qr4 qr5 qr6 trial []))) sz) (QI D C (oTM q0 qn0 qk0 qr0 qc0 qt0 qd0 qs0 qf0 qw0 rowCount anyKept (oPort C qn0 qn1 qn2 qn3 qn4 qn5 qn6 now (oPort C qr0 qr1 qr2 qr3 qr4 qr5 qr6 trial []))) (oTM q0 qn0 qk0 qr0 qc0 qt0 qd0 qs0 qf0 qw0 rowCount anyKept (oPort C qn0 qn1 qn2 qn3 qn4 qn5 qn6 now (oPort C qr0 qr1 qr2 qr3 qr4 qr5 qr6 (trial') []))) sz r) 0 0 (va_A (oTM q0 qn0 qk0 qr0 qc0 qt0 qd0 qs0 qf0 qw0 rowCount anyKept (oPort C qn0 qn1 qn2 qn3 qn4 qn5 qn6 now (oPort C qr0 qr1 qr2 qr3 qr4 qr5 qr6 trial []))) sz) := by
  refine Met.ofW (cc := cX5_where) (maxL := 4) (ret := (some .int)) (by decide) rfl ?_
  intro p e s m args below meth c s₁ B hml hv
  obtain ⟨rfl, hsz, hP, hK, hD0, hE⟩ := hv
  have hx := B.exec
  have hb := B.bytes
  have hr := B.returns
  have hts := atoms_spec (ws := wsX5_where) B.pre
  have hown : s.vm.findClass RX5 = some m.cls := findClass_of_methodNamed B.named
  have hlocks := B.notSynchronized
  subst hsz
  have hi_RX1 : ∀ w ∈ wsX10, w ∈ wsX5_where := fun _ h => List.mem_cons_of_mem _ (List.mem_append_right _ h)
  have hi_RX5 : ∀ w ∈ wsX50, w ∈ wsX5_where := fun _ h => List.mem_cons_of_mem _ (List.mem_append_left _ (List.mem_append_right _ h))
  have hD := hD0.self (sz := s.heap.size)
  obtain ⟨A, hAe⟩ := nm_ex (va_A (oTM q0 qn0 qk0 qr0 qc0 qt0 qd0 qs0 qf0 qw0 rowCount anyKept (oPort C qn0 qn1 qn2 qn3 qn4 qn5 qn6 now (oPort C qr0 qr1 qr2 qr3 qr4 qr5 qr6 trial []))) s.heap.size)
  rw [← hAe] at hD hE ⊢
  have hA : ∀ q : Nat, s.heap.size ≤ q → A q := fun q h => by rw [hAe]; exact Or.inr h
  have hS : va_S A s.heap s.heap [] := va_S.rf
  have hl := lv_entry ([.ref q0, .int x0, .int x1]) (n := 4) (Nat.le_of_ble_eq_true rfl)
  rw [lg_entry_eq]
  generalize (lg_sl ([.ref q0, .int x0, .int x1]) ++ List.replicate (4 - (lg_sl ([.ref q0, .int x0, .int x1])).length) Slot.unset).toArray = ls at hl ⊢
  have hl : lv_has ls 4 [(0, .ref q0), (1, .int x0), (2, .int x1)] := hl
  obtain ⟨Q, hQ⟩ := nm_ex (MQ below (QI D C (oTM q0 qn0 qk0 qr0 qc0 qt0 qd0 qs0 qf0 qw0 rowCount anyKept (oPort C qn0 qn1 qn2 qn3 qn4 qn5 qn6 now (oPort C qr0 qr1 qr2 qr3 qr4 qr5 qr6 trial []))) (oTM q0 qn0 qk0 qr0 qc0 qt0 qd0 qs0 qf0 qw0 rowCount anyKept (oPort C qn0 qn1 qn2 qn3 qn4 qn5 qn6 now (oPort C qr0 qr1 qr2 qr3 qr4 qr5 qr6 (trial') []))) s.heap.size r) (List.toArray [Value.ref q0, Value.int x0, Value.int x1]) s 0 0 A)
  show W p l e (headSpec wsX5_where (rmX5_where)).room s m (List.toArray [Value.ref q0, Value.int x0, Value.int x1]) below meth c s.heap [] 0 0 (MQ below (QI D C (oTM q0 qn0 qk0 qr0 qc0 qt0 qd0 qs0 qf0 qw0 rowCount anyKept (oPort C qn0 qn1 qn2 qn3 qn4 qn5 qn6 now (oPort C qr0 qr1 qr2 qr3 qr4 qr5 qr6 trial []))) (oTM q0 qn0 qk0 qr0 qc0 qt0 qd0 qs0 qf0 qw0 rowCount anyKept (oPort C qn0 qn1 qn2 qn3 qn4 qn5 qn6 now (oPort C qr0 qr1 qr2 qr3 qr4 qr5 qr6 (trial') []))) s.heap.size r) (List.toArray [Value.ref q0, Value.int x0, Value.int x1]) s 0 0 A) _
  rw [← hQ]
  unfold f_X5_where at hf
  have main : ∀ (H : Heap) (locs : List Loc), va_P D vwCl (oTM q0 qn0 qk0 qr0 qc0 qt0 qd0 qs0 qf0 qw0 rowCount anyKept (oPort C qn0 qn1 qn2 qn3 qn4 qn5 qn6 now (oPort C qr0 qr1 qr2 qr3 qr4 qr5 qr6 trial []))) H → va_D A (oTM q0 qn0 qk0 qr0 qc0 qt0 qd0 qs0 qf0 qw0 rowCount anyKept (oPort C qn0 qn1 qn2 qn3 qn4 qn5 qn6 now (oPort C qr0 qr1 qr2 qr3 qr4 qr5 qr6 trial []))) → va_S A s.heap H locs → W p l e (headSpec wsX5_where (rmX5_where)).room s m (List.toArray [Value.ref q0, Value.int x0, Value.int x1]) below meth c H locs 0 0 Q (F0 m 0 ls []) := by
    intro H locs hP hD hS
    refine lv_aload_n hx hb dX5_where_0 rfl (lv_at hl 0 rfl) ?_
    refine lv_iload_n hx hb dX5_where_1 rfl (lv_at hl 1 rfl) ?_
    refine kcz (Wx := (oTM q0 qn0 qk0 qr0 qc0 qt0 qd0 qs0 qf0 qw0 rowCount anyKept (oPort C qn0 qn1 qn2 qn3 qn4 qn5 qn6 now (oPort C qr0 qr1 qr2 qr3 qr4 qr5 qr6 trial [])))) (va_runV (As := [.int x0]) (rest := []) ⟨hx, hb, hml, hown, hts⟩ (c_X5_isMark l E D C q0 qn0 qk0 qr0 qc0 qt0 qd0 qs0 qf0 qw0 qn1 qn2 qn3 qn4 qn5 qn6 H.size rowCount anyKept now x0 _ rfl) (cwV 1 hts gX5_where_X5_isMark rfl rfl rfl hdX5_isMark ⟨Nat.le_of_ble_eq_true rfl, Nat.le_of_ble_eq_true rfl⟩) (kpreV hP hD hK hS hE hA [0, 1, 2, 3, 4, 5, 6, 7] rfl rfl 0 rfl rfl rfl) rfl rfl hl.1 rfl (lv_room (Nat.le_of_ble_eq_true rfl)) dX5_where_2 ⟨Nat.zero_le _, Nat.zero_le _⟩) hP hD hS hA [0, 1, 2, 3, 4, 5, 6, 7] rfl rfl rfl (fun H locs hz1 hP hD hS => ?_)
    refine lv_if_eq (tgt := 18) hx hb dX5_where_5 (by decide) (fun c2 => ?_) (fun c2 => ?_)
    · replace hf := if_te c2 hf
      refine lv_iconst (v := (-1)) hx hb dX5_where_18 rfl ?_
      cases hf
      exact kri hQ hAe hx hb hr hlocks hP hD hK hS dX5_where_19
    · replace hf := if_fe c2 hf
      refine lv_iload_n hx hb dX5_where_8 rfl (lv_at hl 2 rfl) ?_
      refine lv_iconst (v := 0) hx hb dX5_where_9 rfl ?_
      refine lv_bipush (v := 60) hx hb dX5_where_10 rfl ?_
      refine kcz (Wx := (oTM q0 qn0 qk0 qr0 qc0 qt0 qd0 qs0 qf0 qw0 rowCount anyKept (oPort C qn0 qn1 qn2 qn3 qn4 qn5 qn6 now (oPort C qr0 qr1 qr2 qr3 qr4 qr5 qr6 trial [])))) (va_runS (As := [.int x1, .int 0, .int 60]) (rest := []) ⟨hx, hb, hml, hown, hts⟩ (c_X5_within l E D C H.size x1 0 60 _ rfl) (va_cwS 3 hts gX5_where_X5_within rfl rfl rfl hdX5_within ⟨Nat.le_of_ble_eq_true rfl, Nat.le_of_ble_eq_true rfl⟩) (kpre hP hD hK hS hE hA [] rfl rfl) rfl rfl hl.1 rfl (lv_room (Nat.le_of_ble_eq_true rfl)) dX5_where_12 ⟨Nat.zero_le _, Nat.zero_le _⟩) hP hD hS hA [] rfl rfl rfl (fun H locs hz3 hP hD hS => ?_)
      refine lv_if_ne (tgt := 20) hx hb dX5_where_15 (by decide) (fun c4 => ?_) (fun c4 => ?_)
      · replace hf := if_fe c4 hf
        refine lv_aload_n hx hb dX5_where_20 rfl (lv_at hl 0 rfl) ?_
        refine va_get (D := D) (ci := 5) (v := .ref qr0) (C := RX5) (T := TX5) (N := 11) hx hb hts hi_RX5 hown hK hP 0 rfl rfl 2 (by decide) (hts (.fieldLink RX5 19 "TravelMarks" "trial" "LTravelMarks$Port;") (List.mem_of_getElem? (i := 1) rfl)) (fun _ h9 => h9) rfl dX5_where_21 ?_
        refine lv_aload_n hx hb dX5_where_24 rfl (lv_at hl 0 rfl) ?_
        refine va_get (D := D) (ci := 5) (v := .ref qn0) (C := RX5) (T := TX5) (N := 11) hx hb hts hi_RX5 hown hK hP 0 rfl rfl 0 (by decide) (hts (.fieldLink RX5 10 "TravelMarks" "now" "LTravelMarks$Port;") (List.mem_of_getElem? (i := 2) rfl)) (fun _ h9 => h9) rfl dX5_where_25 ?_
        obtain ⟨v5, h6, hf⟩ := ob1_e hf
        refine kcv (Wx := (oTM q0 qn0 qk0 qr0 qc0 qt0 qd0 qs0 qf0 qw0 rowCount anyKept (oPort C qn0 qn1 qn2 qn3 qn4 qn5 qn6 now (oPort C qr0 qr1 qr2 qr3 qr4 qr5 qr6 v5 [])))) (va_runV (As := [.ref qn0]) (rest := []) ⟨hx, hb, hml, hown, hts⟩ (c_X1_become l E D C qr0 qr1 qr2 qr3 qr4 qr5 qr6 qn0 qn1 qn2 qn3 qn4 qn5 qn6 H.size trial now v5 h6) (cwV 1 hts gX5_where_X1_become rfl rfl rfl hdX1_become ⟨Nat.le_of_ble_eq_true rfl, Nat.le_of_ble_eq_true rfl⟩) (kpreV hP hD hK hS hE hA [8, 9, 10, 11, 12, 13, 14, 1, 2, 3, 4, 5, 6, 7] rfl rfl 8 rfl rfl rfl) rfl rfl hl.1 rfl (lv_room (Nat.le_of_ble_eq_true rfl)) dX5_where_28 ⟨Nat.zero_le _, Nat.zero_le _⟩) hP hD hS hA [8, 9, 10, 11, 12, 13, 14, 1, 2, 3, 4, 5, 6, 7] rfl rfl rfl (fun H locs hP hD hS => ?_)
        refine lv_iconst (v := 0) hx hb dX5_where_31 rfl ?_
        refine lv_istore_n (lv' := [(3, .int 0), (0, .ref q0), (1, .int x0), (2, .int x1)]) hx hb dX5_where_32 rfl hl (by decide) rfl (fun ls hl => ?_)
        obtain ⟨j8, hj8, hf⟩ := lj_e hf
        have Hj8 : ∀ (v7 : PV) (H : Heap) (locs : List Loc) (ls : Array Slot), va_P D vwCl (oTM q0 qn0 qk0 qr0 qc0 qt0 qd0 qs0 qf0 qw0 rowCount anyKept (oPort C qn0 qn1 qn2 qn3 qn4 qn5 qn6 now (oPort C qr0 qr1 qr2 qr3 qr4 qr5 qr6 v7 []))) H → va_D A (oTM q0 qn0 qk0 qr0 qc0 qt0 qd0 qs0 qf0 qw0 rowCount anyKept (oPort C qn0 qn1 qn2 qn3 qn4 qn5 qn6 now (oPort C qr0 qr1 qr2 qr3 qr4 qr5 qr6 v7 []))) → va_S A s.heap H locs → lv_has ls 4 [(0, .ref q0), (1, .int x0)] → j8 v7 = some (r, trial') → W p l e (headSpec wsX5_where (rmX5_where)).room s m (List.toArray [Value.ref q0, Value.int x0, Value.int x1]) below meth c H locs 0 0 Q (F0 m 51 ls []) := by
          intro v7 H locs ls hP hD hS hl hf
          rw [hj8] at hf
          refine lv_aload_n hx hb dX5_where_51 rfl (lv_at hl 0 rfl) ?_
          refine va_get (D := D) (ci := 5) (v := .ref qr0) (C := RX5) (T := TX5) (N := 11) hx hb hts hi_RX5 hown hK hP 0 rfl rfl 2 (by decide) (hts (.fieldLink RX5 19 "TravelMarks" "trial" "LTravelMarks$Port;") (List.mem_of_getElem? (i := 1) rfl)) (fun _ h9 => h9) rfl dX5_where_52 ?_
          refine va_get (D := D) (ci := 1) (v := .ref qr4) (C := RX1) (T := TX1) (N := 10) hx hb hts hi_RX1 hown hK hP 8 rfl rfl 3 (by decide) (hts (.fieldLink RX5 120 "TravelMarks$Port" "on" "[I") (List.mem_of_getElem? (i := 3) rfl)) (fun _ h9 => h9) rfl dX5_where_55 ?_
          refine lv_iload_n hx hb dX5_where_58 rfl (lv_at hl 1 rfl) ?_
          obtain ⟨y10, ey10, hi9, hf⟩ := rdA_x hf
          refine va_iald hx hb hK hP 12 0 rfl rfl hi9 dX5_where_59 ?_
          refine lv_ren ey10 ?_
          cases hf
          exact kri hQ hAe hx hb hr hlocks hP hD hK hS dX5_where_60
        have hL33 : ∀ (n : Nat) (i11 : Int32) (v12 : PV) (H : Heap) (locs : List Loc) (ls : Array Slot), va_P D vwCl (oTM q0 qn0 qk0 qr0 qc0 qt0 qd0 qs0 qf0 qw0 rowCount anyKept (oPort C qn0 qn1 qn2 qn3 qn4 qn5 qn6 now (oPort C qr0 qr1 qr2 qr3 qr4 qr5 qr6 v12 []))) H → va_D A (oTM q0 qn0 qk0 qr0 qc0 qt0 qd0 qs0 qf0 qw0 rowCount anyKept (oPort C qn0 qn1 qn2 qn3 qn4 qn5 qn6 now (oPort C qr0 qr1 qr2 qr3 qr4 qr5 qr6 v12 []))) → va_S A s.heap H locs → lv_has ls 4 [(3, .int i11), (0, .ref q0), (1, .int x0), (2, .int x1)] → f_X5_where_L33 N x1 j8 n i11 v12 = some (r, trial') → W p l e (headSpec wsX5_where (rmX5_where)).room s m (List.toArray [Value.ref q0, Value.int x0, Value.int x1]) below meth c H locs 0 0 Q (F0 m 33 ls []) := by
          intro n
          induction n with
          | zero =>
            intro i11 v12 H locs ls hP hD hS hl hf
            exact absurd hf (fun h => by cases h)
          | succ n ih =>
            intro i11 v12 H locs ls hP hD hS hl hf
            rw [f_X5_where_L33] at hf
            refine lv_iload_n hx hb dX5_where_33 rfl (lv_at hl 0 rfl) ?_
            refine lv_iload_n hx hb dX5_where_34 rfl (lv_at hl 3 rfl) ?_
            refine lv_icmp_ge (tgt := 51) hx hb dX5_where_35 (by decide) (fun c13 => ?_) (fun c13 => ?_)
            · replace hf := if_te c13 hf
              exact Hj8 v12 H locs ls hP hD hS (lv_sub hl [1, 2] rfl) hf
            · replace hf := if_fe c13 hf
              refine lv_aload_n hx hb dX5_where_38 rfl (lv_at hl 1 rfl) ?_
              refine va_get (D := D) (ci := 5) (v := .ref qr0) (C := RX5) (T := TX5) (N := 11) hx hb hts hi_RX5 hown hK hP 0 rfl rfl 2 (by decide) (hts (.fieldLink RX5 19 "TravelMarks" "trial" "LTravelMarks$Port;") (List.mem_of_getElem? (i := 1) rfl)) (fun _ h9 => h9) rfl dX5_where_39 ?_
              obtain ⟨v14, h15, hf⟩ := ob1_e hf
              refine kcv (Wx := (oTM q0 qn0 qk0 qr0 qc0 qt0 qd0 qs0 qf0 qw0 rowCount anyKept (oPort C qn0 qn1 qn2 qn3 qn4 qn5 qn6 now (oPort C qr0 qr1 qr2 qr3 qr4 qr5 qr6 v14 [])))) (va_runV (As := []) (rest := []) ⟨hx, hb, hml, hown, hts⟩ (c_X1_passHour l E D C qr0 qr1 qr2 qr3 qr4 qr5 qr6 H.size N v12 v14 h15) (cwV 0 hts gX5_where_X1_passHour rfl rfl rfl hdX1_passHour ⟨Nat.le_of_ble_eq_true rfl, Nat.le_of_ble_eq_true rfl⟩) (kpreV hP hD hK hS hE hA [8, 9, 10, 11, 12, 13, 14] rfl rfl 8 rfl rfl rfl) rfl rfl hl.1 rfl (lv_room (Nat.le_of_ble_eq_true rfl)) dX5_where_42 ⟨Nat.zero_le _, Nat.zero_le _⟩) hP hD hS hA [8, 9, 10, 11, 12, 13, 14] rfl rfl rfl (fun H locs hP hD hS => ?_)
              obtain ⟨t16, et16, hf⟩ := lj_e hf
              refine lv_iinc (v := t16) (lv' := [(3, .int t16), (0, .ref q0), (1, .int x0), (2, .int x1)]) hx hb dX5_where_45 hl (k := 0) rfl (by rw [et16]; rfl) (by decide) rfl (fun ls hl => ?_)
              refine lv_goto (tgt := 33) hx hb dX5_where_48 (by decide) ?_
              exact ih t16 v14 H locs ls hP hD hS (lv_sub hl [0, 1, 2, 3] rfl) hf
        exact hL33 N 0 v5 H locs ls hP hD hS (lv_sub hl [0, 1, 2, 3] rfl) hf
      · replace hf := if_te c4 hf
        refine lv_iconst (v := (-1)) hx hb dX5_where_18 rfl ?_
        cases hf
        exact kri hQ hAe hx hb hr hlocks hP hD hK hS dX5_where_19
  exact main _ _ hP hD hS

def rmX5_comes : Room := { frames := 5, cells := 0, slots := 0, locals := 115 }
theorem hdX5_comes : yX5_comes.cls = RX5 ∧ yX5_comes.cls ≠ "java/lang/invoke/MethodHandle" ∧ yX5_comes.cls ≠ "java/lang/invoke/VarHandle" ∧ (parseMethodDescriptor yX5_comes.desc).map (fun d => d.parameters.length) = some 2 := by decide +kernel
set_option maxHeartbeats 40000000 in
set_option maxRecDepth 100000 in
theorem c_X5_comes (l : Launch) (E : Nat → Nat) (D : va_G) (C : Nat → ClassId) (q0 qn0 qk0 qr0 qc0 qt0 qd0 qs0 qf0 qw0 qn1 qn2 qn3 qn4 qn5 qn6 qr1 qr2 qr3 qr4 qr5 qr6 : Nat) (sz : Nat) (N : Nat) (rowCount : Int32) (anyKept : Int32) (now : PV) (trial : PV) (x0 : Int32) (x1 : Int32) (r : Int32) (trial' : PV) (hf : f_X5_comes N now trial x0 x1 = some (r, trial')) : Met l yX5_comes wsX5_comes rmX5_comes (PC E D C [.ref q0, .int x0, .int x1] (oTM q0 qn0 qk0 qr0 qc0 qt0 qd0 qs0 qf0 qw0 rowCount anyKept (oPort C qn0 qn1 qn2 qn3 qn4 qn5 qn6 now (oPort C qr0 qr1 qr2 qr3 qr4 qr5 qr6 trial []))) sz) (QI D C (oTM q0 qn0 qk0 qr0 qc0 qt0 qd0 qs0 qf0 qw0 rowCount anyKept (oPort C qn0 qn1 qn2 qn3 qn4 qn5 qn6 now (oPort C qr0 qr1 qr2 qr3 qr4 qr5 qr6 trial []))) (oTM q0 qn0 qk0 qr0 qc0 qt0 qd0 qs0 qf0 qw0 rowCount anyKept (oPort C qn0 qn1 qn2 qn3 qn4 qn5 qn6 now (oPort C qr0 qr1 qr2 qr3 qr4 qr5 qr6 (trial') []))) sz r) 0 0 (va_A (oTM q0 qn0 qk0 qr0 qc0 qt0 qd0 qs0 qf0 qw0 rowCount anyKept (oPort C qn0 qn1 qn2 qn3 qn4 qn5 qn6 now (oPort C qr0 qr1 qr2 qr3 qr4 qr5 qr6 trial []))) sz) := by
  refine Met.ofW (cc := cX5_comes) (maxL := 3) (ret := (some .int)) (by decide) rfl ?_
  intro p e s m args below meth c s₁ B hml hv
  obtain ⟨rfl, hsz, hP, hK, hD0, hE⟩ := hv
  have hx := B.exec
  have hb := B.bytes
  have hr := B.returns
  have hts := atoms_spec (ws := wsX5_comes) B.pre
  have hown : s.vm.findClass RX5 = some m.cls := findClass_of_methodNamed B.named
  have hlocks := B.notSynchronized
  subst hsz
  have hi_RX5 : ∀ w ∈ wsX50, w ∈ wsX5_comes := fun _ h => List.mem_cons_of_mem _ (List.mem_append_left _ (List.mem_append_right _ h))
  have hD := hD0.self (sz := s.heap.size)
  obtain ⟨A, hAe⟩ := nm_ex (va_A (oTM q0 qn0 qk0 qr0 qc0 qt0 qd0 qs0 qf0 qw0 rowCount anyKept (oPort C qn0 qn1 qn2 qn3 qn4 qn5 qn6 now (oPort C qr0 qr1 qr2 qr3 qr4 qr5 qr6 trial []))) s.heap.size)
  rw [← hAe] at hD hE ⊢
  have hA : ∀ q : Nat, s.heap.size ≤ q → A q := fun q h => by rw [hAe]; exact Or.inr h
  have hS : va_S A s.heap s.heap [] := va_S.rf
  have hl := lv_entry ([.ref q0, .int x0, .int x1]) (n := 3) (Nat.le_of_ble_eq_true rfl)
  rw [lg_entry_eq]
  generalize (lg_sl ([.ref q0, .int x0, .int x1]) ++ List.replicate (3 - (lg_sl ([.ref q0, .int x0, .int x1])).length) Slot.unset).toArray = ls at hl ⊢
  have hl : lv_has ls 3 [(0, .ref q0), (1, .int x0), (2, .int x1)] := hl
  obtain ⟨Q, hQ⟩ := nm_ex (MQ below (QI D C (oTM q0 qn0 qk0 qr0 qc0 qt0 qd0 qs0 qf0 qw0 rowCount anyKept (oPort C qn0 qn1 qn2 qn3 qn4 qn5 qn6 now (oPort C qr0 qr1 qr2 qr3 qr4 qr5 qr6 trial []))) (oTM q0 qn0 qk0 qr0 qc0 qt0 qd0 qs0 qf0 qw0 rowCount anyKept (oPort C qn0 qn1 qn2 qn3 qn4 qn5 qn6 now (oPort C qr0 qr1 qr2 qr3 qr4 qr5 qr6 (trial') []))) s.heap.size r) (List.toArray [Value.ref q0, Value.int x0, Value.int x1]) s 0 0 A)
  show W p l e (headSpec wsX5_comes (rmX5_comes)).room s m (List.toArray [Value.ref q0, Value.int x0, Value.int x1]) below meth c s.heap [] 0 0 (MQ below (QI D C (oTM q0 qn0 qk0 qr0 qc0 qt0 qd0 qs0 qf0 qw0 rowCount anyKept (oPort C qn0 qn1 qn2 qn3 qn4 qn5 qn6 now (oPort C qr0 qr1 qr2 qr3 qr4 qr5 qr6 trial []))) (oTM q0 qn0 qk0 qr0 qc0 qt0 qd0 qs0 qf0 qw0 rowCount anyKept (oPort C qn0 qn1 qn2 qn3 qn4 qn5 qn6 now (oPort C qr0 qr1 qr2 qr3 qr4 qr5 qr6 (trial') []))) s.heap.size r) (List.toArray [Value.ref q0, Value.int x0, Value.int x1]) s 0 0 A) _
  rw [← hQ]
  unfold f_X5_comes at hf
  have main : ∀ (H : Heap) (locs : List Loc), va_P D vwCl (oTM q0 qn0 qk0 qr0 qc0 qt0 qd0 qs0 qf0 qw0 rowCount anyKept (oPort C qn0 qn1 qn2 qn3 qn4 qn5 qn6 now (oPort C qr0 qr1 qr2 qr3 qr4 qr5 qr6 trial []))) H → va_D A (oTM q0 qn0 qk0 qr0 qc0 qt0 qd0 qs0 qf0 qw0 rowCount anyKept (oPort C qn0 qn1 qn2 qn3 qn4 qn5 qn6 now (oPort C qr0 qr1 qr2 qr3 qr4 qr5 qr6 trial []))) → va_S A s.heap H locs → W p l e (headSpec wsX5_comes (rmX5_comes)).room s m (List.toArray [Value.ref q0, Value.int x0, Value.int x1]) below meth c H locs 0 0 Q (F0 m 0 ls []) := by
    intro H locs hP hD hS
    refine lv_aload_n hx hb dX5_comes_0 rfl (lv_at hl 0 rfl) ?_
    refine lv_iload_n hx hb dX5_comes_1 rfl (lv_at hl 1 rfl) ?_
    refine kcz (Wx := (oTM q0 qn0 qk0 qr0 qc0 qt0 qd0 qs0 qf0 qw0 rowCount anyKept (oPort C qn0 qn1 qn2 qn3 qn4 qn5 qn6 now (oPort C qr0 qr1 qr2 qr3 qr4 qr5 qr6 trial [])))) (va_runV (As := [.int x0]) (rest := []) ⟨hx, hb, hml, hown, hts⟩ (c_X5_isMark l E D C q0 qn0 qk0 qr0 qc0 qt0 qd0 qs0 qf0 qw0 qn1 qn2 qn3 qn4 qn5 qn6 H.size rowCount anyKept now x0 _ rfl) (cwV 1 hts gX5_comes_X5_isMark rfl rfl rfl hdX5_isMark ⟨Nat.le_of_ble_eq_true rfl, Nat.le_of_ble_eq_true rfl⟩) (kpreV hP hD hK hS hE hA [0, 1, 2, 3, 4, 5, 6, 7] rfl rfl 0 rfl rfl rfl) rfl rfl hl.1 rfl (lv_room (Nat.le_of_ble_eq_true rfl)) dX5_comes_2 ⟨Nat.zero_le _, Nat.zero_le _⟩) hP hD hS hA [0, 1, 2, 3, 4, 5, 6, 7] rfl rfl rfl (fun H locs hz1 hP hD hS => ?_)
    refine lv_if_eq (tgt := 15) hx hb dX5_comes_5 (by decide) (fun c2 => ?_) (fun c2 => ?_)
    · replace hf := if_te c2 hf
      refine lv_iconst (v := (-1)) hx hb dX5_comes_15 rfl ?_
      cases hf
      exact kri hQ hAe hx hb hr hlocks hP hD hK hS dX5_comes_16
    · replace hf := if_fe c2 hf
      refine lv_iload_n hx hb dX5_comes_8 rfl (lv_at hl 2 rfl) ?_
      refine kcz (Wx := (oTM q0 qn0 qk0 qr0 qc0 qt0 qd0 qs0 qf0 qw0 rowCount anyKept (oPort C qn0 qn1 qn2 qn3 qn4 qn5 qn6 now (oPort C qr0 qr1 qr2 qr3 qr4 qr5 qr6 trial [])))) (va_runS (As := [.int x1]) (rest := []) ⟨hx, hb, hml, hown, hts⟩ (c_X5_isOne l E D C H.size x1 _ rfl) (va_cwS 1 hts gX5_comes_X5_isOne rfl rfl rfl hdX5_isOne ⟨Nat.le_of_ble_eq_true rfl, Nat.le_of_ble_eq_true rfl⟩) (kpre hP hD hK hS hE hA [] rfl rfl) rfl rfl hl.1 rfl (lv_room (Nat.le_of_ble_eq_true rfl)) dX5_comes_9 ⟨Nat.zero_le _, Nat.zero_le _⟩) hP hD hS hA [] rfl rfl rfl (fun H locs hz3 hP hD hS => ?_)
      refine lv_if_ne (tgt := 17) hx hb dX5_comes_12 (by decide) (fun c4 => ?_) (fun c4 => ?_)
      · replace hf := if_fe c4 hf
        refine lv_aload_n hx hb dX5_comes_17 rfl (lv_at hl 0 rfl) ?_
        refine va_get (D := D) (ci := 5) (v := .ref qr0) (C := RX5) (T := TX5) (N := 11) hx hb hts hi_RX5 hown hK hP 0 rfl rfl 2 (by decide) (hts (.fieldLink RX5 19 "TravelMarks" "trial" "LTravelMarks$Port;") (List.mem_of_getElem? (i := 1) rfl)) (fun _ h9 => h9) rfl dX5_comes_18 ?_
        refine lv_aload_n hx hb dX5_comes_21 rfl (lv_at hl 0 rfl) ?_
        refine va_get (D := D) (ci := 5) (v := .ref qn0) (C := RX5) (T := TX5) (N := 11) hx hb hts hi_RX5 hown hK hP 0 rfl rfl 0 (by decide) (hts (.fieldLink RX5 10 "TravelMarks" "now" "LTravelMarks$Port;") (List.mem_of_getElem? (i := 2) rfl)) (fun _ h9 => h9) rfl dX5_comes_22 ?_
        obtain ⟨v5, h6, hf⟩ := ob1_e hf
        refine kcv (Wx := (oTM q0 qn0 qk0 qr0 qc0 qt0 qd0 qs0 qf0 qw0 rowCount anyKept (oPort C qn0 qn1 qn2 qn3 qn4 qn5 qn6 now (oPort C qr0 qr1 qr2 qr3 qr4 qr5 qr6 v5 [])))) (va_runV (As := [.ref qn0]) (rest := []) ⟨hx, hb, hml, hown, hts⟩ (c_X1_become l E D C qr0 qr1 qr2 qr3 qr4 qr5 qr6 qn0 qn1 qn2 qn3 qn4 qn5 qn6 H.size trial now v5 h6) (cwV 1 hts gX5_comes_X1_become rfl rfl rfl hdX1_become ⟨Nat.le_of_ble_eq_true rfl, Nat.le_of_ble_eq_true rfl⟩) (kpreV hP hD hK hS hE hA [8, 9, 10, 11, 12, 13, 14, 1, 2, 3, 4, 5, 6, 7] rfl rfl 8 rfl rfl rfl) rfl rfl hl.1 rfl (lv_room (Nat.le_of_ble_eq_true rfl)) dX5_comes_25 ⟨Nat.zero_le _, Nat.zero_le _⟩) hP hD hS hA [8, 9, 10, 11, 12, 13, 14, 1, 2, 3, 4, 5, 6, 7] rfl rfl rfl (fun H locs hP hD hS => ?_)
        refine lv_aload_n hx hb dX5_comes_28 rfl (lv_at hl 0 rfl) ?_
        refine va_get (D := D) (ci := 5) (v := .ref qr0) (C := RX5) (T := TX5) (N := 11) hx hb hts hi_RX5 hown hK hP 0 rfl rfl 2 (by decide) (hts (.fieldLink RX5 19 "TravelMarks" "trial" "LTravelMarks$Port;") (List.mem_of_getElem? (i := 1) rfl)) (fun _ h9 => h9) rfl dX5_comes_29 ?_
        refine lv_iload_n hx hb dX5_comes_32 rfl (lv_at hl 1 rfl) ?_
        refine lv_iload_n hx hb dX5_comes_33 rfl (lv_at hl 2 rfl) ?_
        refine lv_bipush (v := 60) hx hb dX5_comes_34 rfl ?_
        obtain ⟨r7, v8, h9, hf⟩ := ob2_e hf
        refine kci (Wx := (oTM q0 qn0 qk0 qr0 qc0 qt0 qd0 qs0 qf0 qw0 rowCount anyKept (oPort C qn0 qn1 qn2 qn3 qn4 qn5 qn6 now (oPort C qr0 qr1 qr2 qr3 qr4 qr5 qr6 v8 [])))) (va_runV (As := [.int x0, .int x1, .int 60]) (rest := []) ⟨hx, hb, hml, hown, hts⟩ (c_X1_hoursUntilOn l E D C qr0 qr1 qr2 qr3 qr4 qr5 qr6 H.size N v5 x0 x1 60 r7 v8 h9) (cwV 3 hts gX5_comes_X1_hoursUntilOn rfl rfl rfl hdX1_hoursUntilOn ⟨Nat.le_of_ble_eq_true rfl, Nat.le_of_ble_eq_true rfl⟩) (kpreV hP hD hK hS hE hA [8, 9, 10, 11, 12, 13, 14] rfl rfl 8 rfl rfl rfl) rfl rfl hl.1 rfl (lv_room (Nat.le_of_ble_eq_true rfl)) dX5_comes_36 ⟨Nat.zero_le _, Nat.zero_le _⟩) hP hD hS hA [8, 9, 10, 11, 12, 13, 14] rfl rfl rfl (fun H locs hP hD hS => ?_)
        cases hf
        exact kri hQ hAe hx hb hr hlocks hP hD hK hS dX5_comes_39
      · replace hf := if_te c4 hf
        refine lv_iconst (v := (-1)) hx hb dX5_comes_15 rfl ?_
        cases hf
        exact kri hQ hAe hx hb hr hlocks hP hD hK hS dX5_comes_16
  exact main _ _ hP hD hS

def rmX5_bare : Room := { frames := 5, cells := 0, slots := 0, locals := 114 }
theorem hdX5_bare : yX5_bare.cls = RX5 ∧ yX5_bare.cls ≠ "java/lang/invoke/MethodHandle" ∧ yX5_bare.cls ≠ "java/lang/invoke/VarHandle" ∧ (parseMethodDescriptor yX5_bare.desc).map (fun d => d.parameters.length) = some 1 := by decide +kernel
set_option maxHeartbeats 40000000 in
set_option maxRecDepth 100000 in
theorem c_X5_bare (l : Launch) (E : Nat → Nat) (D : va_G) (C : Nat → ClassId) (q0 qn0 qk0 qr0 qc0 qt0 qd0 qs0 qf0 qw0 qn1 qn2 qn3 qn4 qn5 qn6 qr1 qr2 qr3 qr4 qr5 qr6 : Nat) (sz : Nat) (N : Nat) (rowCount : Int32) (anyKept : Int32) (now : PV) (trial : PV) (x0 : Int32) (r : Int32) (trial' : PV) (hf : f_X5_bare N now trial x0 = some (r, trial')) : Met l yX5_bare wsX5_bare rmX5_bare (PC E D C [.ref q0, .int x0] (oTM q0 qn0 qk0 qr0 qc0 qt0 qd0 qs0 qf0 qw0 rowCount anyKept (oPort C qn0 qn1 qn2 qn3 qn4 qn5 qn6 now (oPort C qr0 qr1 qr2 qr3 qr4 qr5 qr6 trial []))) sz) (QI D C (oTM q0 qn0 qk0 qr0 qc0 qt0 qd0 qs0 qf0 qw0 rowCount anyKept (oPort C qn0 qn1 qn2 qn3 qn4 qn5 qn6 now (oPort C qr0 qr1 qr2 qr3 qr4 qr5 qr6 trial []))) (oTM q0 qn0 qk0 qr0 qc0 qt0 qd0 qs0 qf0 qw0 rowCount anyKept (oPort C qn0 qn1 qn2 qn3 qn4 qn5 qn6 now (oPort C qr0 qr1 qr2 qr3 qr4 qr5 qr6 (trial') []))) sz r) 0 0 (va_A (oTM q0 qn0 qk0 qr0 qc0 qt0 qd0 qs0 qf0 qw0 rowCount anyKept (oPort C qn0 qn1 qn2 qn3 qn4 qn5 qn6 now (oPort C qr0 qr1 qr2 qr3 qr4 qr5 qr6 trial []))) sz) := by
  refine Met.ofW (cc := cX5_bare) (maxL := 2) (ret := (some .int)) (by decide) rfl ?_
  intro p e s m args below meth c s₁ B hml hv
  obtain ⟨rfl, hsz, hP, hK, hD0, hE⟩ := hv
  have hx := B.exec
  have hb := B.bytes
  have hr := B.returns
  have hts := atoms_spec (ws := wsX5_bare) B.pre
  have hown : s.vm.findClass RX5 = some m.cls := findClass_of_methodNamed B.named
  have hlocks := B.notSynchronized
  subst hsz
  have hi_RX5 : ∀ w ∈ wsX50, w ∈ wsX5_bare := fun _ h => List.mem_cons_of_mem _ (List.mem_append_left _ (List.mem_append_right _ h))
  have hD := hD0.self (sz := s.heap.size)
  obtain ⟨A, hAe⟩ := nm_ex (va_A (oTM q0 qn0 qk0 qr0 qc0 qt0 qd0 qs0 qf0 qw0 rowCount anyKept (oPort C qn0 qn1 qn2 qn3 qn4 qn5 qn6 now (oPort C qr0 qr1 qr2 qr3 qr4 qr5 qr6 trial []))) s.heap.size)
  rw [← hAe] at hD hE ⊢
  have hA : ∀ q : Nat, s.heap.size ≤ q → A q := fun q h => by rw [hAe]; exact Or.inr h
  have hS : va_S A s.heap s.heap [] := va_S.rf
  have hl := lv_entry ([.ref q0, .int x0]) (n := 2) (Nat.le_of_ble_eq_true rfl)
  rw [lg_entry_eq]
  generalize (lg_sl ([.ref q0, .int x0]) ++ List.replicate (2 - (lg_sl ([.ref q0, .int x0])).length) Slot.unset).toArray = ls at hl ⊢
  have hl : lv_has ls 2 [(0, .ref q0), (1, .int x0)] := hl
  obtain ⟨Q, hQ⟩ := nm_ex (MQ below (QI D C (oTM q0 qn0 qk0 qr0 qc0 qt0 qd0 qs0 qf0 qw0 rowCount anyKept (oPort C qn0 qn1 qn2 qn3 qn4 qn5 qn6 now (oPort C qr0 qr1 qr2 qr3 qr4 qr5 qr6 trial []))) (oTM q0 qn0 qk0 qr0 qc0 qt0 qd0 qs0 qf0 qw0 rowCount anyKept (oPort C qn0 qn1 qn2 qn3 qn4 qn5 qn6 now (oPort C qr0 qr1 qr2 qr3 qr4 qr5 qr6 (trial') []))) s.heap.size r) (List.toArray [Value.ref q0, Value.int x0]) s 0 0 A)
  show W p l e (headSpec wsX5_bare (rmX5_bare)).room s m (List.toArray [Value.ref q0, Value.int x0]) below meth c s.heap [] 0 0 (MQ below (QI D C (oTM q0 qn0 qk0 qr0 qc0 qt0 qd0 qs0 qf0 qw0 rowCount anyKept (oPort C qn0 qn1 qn2 qn3 qn4 qn5 qn6 now (oPort C qr0 qr1 qr2 qr3 qr4 qr5 qr6 trial []))) (oTM q0 qn0 qk0 qr0 qc0 qt0 qd0 qs0 qf0 qw0 rowCount anyKept (oPort C qn0 qn1 qn2 qn3 qn4 qn5 qn6 now (oPort C qr0 qr1 qr2 qr3 qr4 qr5 qr6 (trial') []))) s.heap.size r) (List.toArray [Value.ref q0, Value.int x0]) s 0 0 A) _
  rw [← hQ]
  unfold f_X5_bare at hf
  have main : ∀ (H : Heap) (locs : List Loc), va_P D vwCl (oTM q0 qn0 qk0 qr0 qc0 qt0 qd0 qs0 qf0 qw0 rowCount anyKept (oPort C qn0 qn1 qn2 qn3 qn4 qn5 qn6 now (oPort C qr0 qr1 qr2 qr3 qr4 qr5 qr6 trial []))) H → va_D A (oTM q0 qn0 qk0 qr0 qc0 qt0 qd0 qs0 qf0 qw0 rowCount anyKept (oPort C qn0 qn1 qn2 qn3 qn4 qn5 qn6 now (oPort C qr0 qr1 qr2 qr3 qr4 qr5 qr6 trial []))) → va_S A s.heap H locs → W p l e (headSpec wsX5_bare (rmX5_bare)).room s m (List.toArray [Value.ref q0, Value.int x0]) below meth c H locs 0 0 Q (F0 m 0 ls []) := by
    intro H locs hP hD hS
    refine lv_iload_n hx hb dX5_bare_0 rfl (lv_at hl 1 rfl) ?_
    refine kcz (Wx := (oTM q0 qn0 qk0 qr0 qc0 qt0 qd0 qs0 qf0 qw0 rowCount anyKept (oPort C qn0 qn1 qn2 qn3 qn4 qn5 qn6 now (oPort C qr0 qr1 qr2 qr3 qr4 qr5 qr6 trial [])))) (va_runS (As := [.int x0]) (rest := []) ⟨hx, hb, hml, hown, hts⟩ (c_X5_isOne l E D C H.size x0 _ rfl) (va_cwS 1 hts gX5_bare_X5_isOne rfl rfl rfl hdX5_isOne ⟨Nat.le_of_ble_eq_true rfl, Nat.le_of_ble_eq_true rfl⟩) (kpre hP hD hK hS hE hA [] rfl rfl) rfl rfl hl.1 rfl (lv_room (Nat.le_of_ble_eq_true rfl)) dX5_bare_1 ⟨Nat.zero_le _, Nat.zero_le _⟩) hP hD hS hA [] rfl rfl rfl (fun H locs hz1 hP hD hS => ?_)
    refine lv_if_ne (tgt := 9) hx hb dX5_bare_4 (by decide) (fun c2 => ?_) (fun c2 => ?_)
    · replace hf := if_fe c2 hf
      refine lv_aload_n hx hb dX5_bare_9 rfl (lv_at hl 0 rfl) ?_
      refine va_get (D := D) (ci := 5) (v := .ref qr0) (C := RX5) (T := TX5) (N := 11) hx hb hts hi_RX5 hown hK hP 0 rfl rfl 2 (by decide) (hts (.fieldLink RX5 19 "TravelMarks" "trial" "LTravelMarks$Port;") (List.mem_of_getElem? (i := 1) rfl)) (fun _ h9 => h9) rfl dX5_bare_10 ?_
      refine lv_aload_n hx hb dX5_bare_13 rfl (lv_at hl 0 rfl) ?_
      refine va_get (D := D) (ci := 5) (v := .ref qn0) (C := RX5) (T := TX5) (N := 11) hx hb hts hi_RX5 hown hK hP 0 rfl rfl 0 (by decide) (hts (.fieldLink RX5 10 "TravelMarks" "now" "LTravelMarks$Port;") (List.mem_of_getElem? (i := 2) rfl)) (fun _ h9 => h9) rfl dX5_bare_14 ?_
      obtain ⟨v3, h4, hf⟩ := ob1_e hf
      refine kcv (Wx := (oTM q0 qn0 qk0 qr0 qc0 qt0 qd0 qs0 qf0 qw0 rowCount anyKept (oPort C qn0 qn1 qn2 qn3 qn4 qn5 qn6 now (oPort C qr0 qr1 qr2 qr3 qr4 qr5 qr6 v3 [])))) (va_runV (As := [.ref qn0]) (rest := []) ⟨hx, hb, hml, hown, hts⟩ (c_X1_become l E D C qr0 qr1 qr2 qr3 qr4 qr5 qr6 qn0 qn1 qn2 qn3 qn4 qn5 qn6 H.size trial now v3 h4) (cwV 1 hts gX5_bare_X1_become rfl rfl rfl hdX1_become ⟨Nat.le_of_ble_eq_true rfl, Nat.le_of_ble_eq_true rfl⟩) (kpreV hP hD hK hS hE hA [8, 9, 10, 11, 12, 13, 14, 1, 2, 3, 4, 5, 6, 7] rfl rfl 8 rfl rfl rfl) rfl rfl hl.1 rfl (lv_room (Nat.le_of_ble_eq_true rfl)) dX5_bare_17 ⟨Nat.zero_le _, Nat.zero_le _⟩) hP hD hS hA [8, 9, 10, 11, 12, 13, 14, 1, 2, 3, 4, 5, 6, 7] rfl rfl rfl (fun H locs hP hD hS => ?_)
      refine lv_aload_n hx hb dX5_bare_20 rfl (lv_at hl 0 rfl) ?_
      refine va_get (D := D) (ci := 5) (v := .ref qr0) (C := RX5) (T := TX5) (N := 11) hx hb hts hi_RX5 hown hK hP 0 rfl rfl 2 (by decide) (hts (.fieldLink RX5 19 "TravelMarks" "trial" "LTravelMarks$Port;") (List.mem_of_getElem? (i := 1) rfl)) (fun _ h9 => h9) rfl dX5_bare_21 ?_
      refine lv_iload_n hx hb dX5_bare_24 rfl (lv_at hl 1 rfl) ?_
      refine lv_bipush (v := 60) hx hb dX5_bare_25 rfl ?_
      obtain ⟨r5, v6, h7, hf⟩ := ob2_e hf
      refine kci (Wx := (oTM q0 qn0 qk0 qr0 qc0 qt0 qd0 qs0 qf0 qw0 rowCount anyKept (oPort C qn0 qn1 qn2 qn3 qn4 qn5 qn6 now (oPort C qr0 qr1 qr2 qr3 qr4 qr5 qr6 v6 [])))) (va_runV (As := [.int x0, .int 60]) (rest := []) ⟨hx, hb, hml, hown, hts⟩ (c_X1_hoursUntilBare l E D C qr0 qr1 qr2 qr3 qr4 qr5 qr6 H.size N v3 x0 60 r5 v6 h7) (cwV 2 hts gX5_bare_X1_hoursUntilBare rfl rfl rfl hdX1_hoursUntilBare ⟨Nat.le_of_ble_eq_true rfl, Nat.le_of_ble_eq_true rfl⟩) (kpreV hP hD hK hS hE hA [8, 9, 10, 11, 12, 13, 14] rfl rfl 8 rfl rfl rfl) rfl rfl hl.1 rfl (lv_room (Nat.le_of_ble_eq_true rfl)) dX5_bare_27 ⟨Nat.zero_le _, Nat.zero_le _⟩) hP hD hS hA [8, 9, 10, 11, 12, 13, 14] rfl rfl rfl (fun H locs hP hD hS => ?_)
      cases hf
      exact kri hQ hAe hx hb hr hlocks hP hD hK hS dX5_bare_30
    · replace hf := if_te c2 hf
      refine lv_iconst (v := (-1)) hx hb dX5_bare_7 rfl ?_
      cases hf
      exact kri hQ hAe hx hb hr hlocks hP hD hK hS dX5_bare_8
  exact main _ _ hP hD hS

def rmX5_dry : Room := { frames := 5, cells := 0, slots := 0, locals := 113 }
theorem hdX5_dry : yX5_dry.cls = RX5 ∧ yX5_dry.cls ≠ "java/lang/invoke/MethodHandle" ∧ yX5_dry.cls ≠ "java/lang/invoke/VarHandle" ∧ (parseMethodDescriptor yX5_dry.desc).map (fun d => d.parameters.length) = some 0 := by decide +kernel
set_option maxHeartbeats 40000000 in
set_option maxRecDepth 100000 in
theorem c_X5_dry (l : Launch) (E : Nat → Nat) (D : va_G) (C : Nat → ClassId) (q0 qn0 qk0 qr0 qc0 qt0 qd0 qs0 qf0 qw0 qn1 qn2 qn3 qn4 qn5 qn6 qr1 qr2 qr3 qr4 qr5 qr6 : Nat) (sz : Nat) (N : Nat) (rowCount : Int32) (anyKept : Int32) (now : PV) (trial : PV)  (r : Int32) (trial' : PV) (hf : f_X5_dry N now trial = some (r, trial')) : Met l yX5_dry wsX5_dry rmX5_dry (PC E D C [.ref q0] (oTM q0 qn0 qk0 qr0 qc0 qt0 qd0 qs0 qf0 qw0 rowCount anyKept (oPort C qn0 qn1 qn2 qn3 qn4 qn5 qn6 now (oPort C qr0 qr1 qr2 qr3 qr4 qr5 qr6 trial []))) sz) (QI D C (oTM q0 qn0 qk0 qr0 qc0 qt0 qd0 qs0 qf0 qw0 rowCount anyKept (oPort C qn0 qn1 qn2 qn3 qn4 qn5 qn6 now (oPort C qr0 qr1 qr2 qr3 qr4 qr5 qr6 trial []))) (oTM q0 qn0 qk0 qr0 qc0 qt0 qd0 qs0 qf0 qw0 rowCount anyKept (oPort C qn0 qn1 qn2 qn3 qn4 qn5 qn6 now (oPort C qr0 qr1 qr2 qr3 qr4 qr5 qr6 (trial') []))) sz r) 0 0 (va_A (oTM q0 qn0 qk0 qr0 qc0 qt0 qd0 qs0 qf0 qw0 rowCount anyKept (oPort C qn0 qn1 qn2 qn3 qn4 qn5 qn6 now (oPort C qr0 qr1 qr2 qr3 qr4 qr5 qr6 trial []))) sz) := by
  refine Met.ofW (cc := cX5_dry) (maxL := 1) (ret := (some .int)) (by decide) rfl ?_
  intro p e s m args below meth c s₁ B hml hv
  obtain ⟨rfl, hsz, hP, hK, hD0, hE⟩ := hv
  have hx := B.exec
  have hb := B.bytes
  have hr := B.returns
  have hts := atoms_spec (ws := wsX5_dry) B.pre
  have hown : s.vm.findClass RX5 = some m.cls := findClass_of_methodNamed B.named
  have hlocks := B.notSynchronized
  subst hsz
  have hi_RX5 : ∀ w ∈ wsX50, w ∈ wsX5_dry := fun _ h => List.mem_cons_of_mem _ (List.mem_append_left _ (List.mem_append_right _ h))
  have hD := hD0.self (sz := s.heap.size)
  obtain ⟨A, hAe⟩ := nm_ex (va_A (oTM q0 qn0 qk0 qr0 qc0 qt0 qd0 qs0 qf0 qw0 rowCount anyKept (oPort C qn0 qn1 qn2 qn3 qn4 qn5 qn6 now (oPort C qr0 qr1 qr2 qr3 qr4 qr5 qr6 trial []))) s.heap.size)
  rw [← hAe] at hD hE ⊢
  have hA : ∀ q : Nat, s.heap.size ≤ q → A q := fun q h => by rw [hAe]; exact Or.inr h
  have hS : va_S A s.heap s.heap [] := va_S.rf
  have hl := lv_entry ([.ref q0]) (n := 1) (Nat.le_of_ble_eq_true rfl)
  rw [lg_entry_eq]
  generalize (lg_sl ([.ref q0]) ++ List.replicate (1 - (lg_sl ([.ref q0])).length) Slot.unset).toArray = ls at hl ⊢
  have hl : lv_has ls 1 [(0, .ref q0)] := hl
  obtain ⟨Q, hQ⟩ := nm_ex (MQ below (QI D C (oTM q0 qn0 qk0 qr0 qc0 qt0 qd0 qs0 qf0 qw0 rowCount anyKept (oPort C qn0 qn1 qn2 qn3 qn4 qn5 qn6 now (oPort C qr0 qr1 qr2 qr3 qr4 qr5 qr6 trial []))) (oTM q0 qn0 qk0 qr0 qc0 qt0 qd0 qs0 qf0 qw0 rowCount anyKept (oPort C qn0 qn1 qn2 qn3 qn4 qn5 qn6 now (oPort C qr0 qr1 qr2 qr3 qr4 qr5 qr6 (trial') []))) s.heap.size r) (List.toArray [Value.ref q0]) s 0 0 A)
  show W p l e (headSpec wsX5_dry (rmX5_dry)).room s m (List.toArray [Value.ref q0]) below meth c s.heap [] 0 0 (MQ below (QI D C (oTM q0 qn0 qk0 qr0 qc0 qt0 qd0 qs0 qf0 qw0 rowCount anyKept (oPort C qn0 qn1 qn2 qn3 qn4 qn5 qn6 now (oPort C qr0 qr1 qr2 qr3 qr4 qr5 qr6 trial []))) (oTM q0 qn0 qk0 qr0 qc0 qt0 qd0 qs0 qf0 qw0 rowCount anyKept (oPort C qn0 qn1 qn2 qn3 qn4 qn5 qn6 now (oPort C qr0 qr1 qr2 qr3 qr4 qr5 qr6 (trial') []))) s.heap.size r) (List.toArray [Value.ref q0]) s 0 0 A) _
  rw [← hQ]
  unfold f_X5_dry at hf
  have main : ∀ (H : Heap) (locs : List Loc), va_P D vwCl (oTM q0 qn0 qk0 qr0 qc0 qt0 qd0 qs0 qf0 qw0 rowCount anyKept (oPort C qn0 qn1 qn2 qn3 qn4 qn5 qn6 now (oPort C qr0 qr1 qr2 qr3 qr4 qr5 qr6 trial []))) H → va_D A (oTM q0 qn0 qk0 qr0 qc0 qt0 qd0 qs0 qf0 qw0 rowCount anyKept (oPort C qn0 qn1 qn2 qn3 qn4 qn5 qn6 now (oPort C qr0 qr1 qr2 qr3 qr4 qr5 qr6 trial []))) → va_S A s.heap H locs → W p l e (headSpec wsX5_dry (rmX5_dry)).room s m (List.toArray [Value.ref q0]) below meth c H locs 0 0 Q (F0 m 0 ls []) := by
    intro H locs hP hD hS
    refine lv_aload_n hx hb dX5_dry_0 rfl (lv_at hl 0 rfl) ?_
    refine va_get (D := D) (ci := 5) (v := .ref qr0) (C := RX5) (T := TX5) (N := 11) hx hb hts hi_RX5 hown hK hP 0 rfl rfl 2 (by decide) (hts (.fieldLink RX5 19 "TravelMarks" "trial" "LTravelMarks$Port;") (List.mem_of_getElem? (i := 1) rfl)) (fun _ h9 => h9) rfl dX5_dry_1 ?_
    refine lv_aload_n hx hb dX5_dry_4 rfl (lv_at hl 0 rfl) ?_
    refine va_get (D := D) (ci := 5) (v := .ref qn0) (C := RX5) (T := TX5) (N := 11) hx hb hts hi_RX5 hown hK hP 0 rfl rfl 0 (by decide) (hts (.fieldLink RX5 10 "TravelMarks" "now" "LTravelMarks$Port;") (List.mem_of_getElem? (i := 2) rfl)) (fun _ h9 => h9) rfl dX5_dry_5 ?_
    obtain ⟨v1, h2, hf⟩ := ob1_e hf
    refine kcv (Wx := (oTM q0 qn0 qk0 qr0 qc0 qt0 qd0 qs0 qf0 qw0 rowCount anyKept (oPort C qn0 qn1 qn2 qn3 qn4 qn5 qn6 now (oPort C qr0 qr1 qr2 qr3 qr4 qr5 qr6 v1 [])))) (va_runV (As := [.ref qn0]) (rest := []) ⟨hx, hb, hml, hown, hts⟩ (c_X1_become l E D C qr0 qr1 qr2 qr3 qr4 qr5 qr6 qn0 qn1 qn2 qn3 qn4 qn5 qn6 H.size trial now v1 h2) (cwV 1 hts gX5_dry_X1_become rfl rfl rfl hdX1_become ⟨Nat.le_of_ble_eq_true rfl, Nat.le_of_ble_eq_true rfl⟩) (kpreV hP hD hK hS hE hA [8, 9, 10, 11, 12, 13, 14, 1, 2, 3, 4, 5, 6, 7] rfl rfl 8 rfl rfl rfl) rfl rfl hl.1 rfl (lv_room (Nat.le_of_ble_eq_true rfl)) dX5_dry_8 ⟨Nat.zero_le _, Nat.zero_le _⟩) hP hD hS hA [8, 9, 10, 11, 12, 13, 14, 1, 2, 3, 4, 5, 6, 7] rfl rfl rfl (fun H locs hP hD hS => ?_)
    refine lv_aload_n hx hb dX5_dry_11 rfl (lv_at hl 0 rfl) ?_
    refine va_get (D := D) (ci := 5) (v := .ref qr0) (C := RX5) (T := TX5) (N := 11) hx hb hts hi_RX5 hown hK hP 0 rfl rfl 2 (by decide) (hts (.fieldLink RX5 19 "TravelMarks" "trial" "LTravelMarks$Port;") (List.mem_of_getElem? (i := 1) rfl)) (fun _ h9 => h9) rfl dX5_dry_12 ?_
    refine lv_bipush (v := 60) hx hb dX5_dry_15 rfl ?_
    obtain ⟨r3, v4, h5, hf⟩ := ob2_e hf
    refine kci (Wx := (oTM q0 qn0 qk0 qr0 qc0 qt0 qd0 qs0 qf0 qw0 rowCount anyKept (oPort C qn0 qn1 qn2 qn3 qn4 qn5 qn6 now (oPort C qr0 qr1 qr2 qr3 qr4 qr5 qr6 v4 [])))) (va_runV (As := [.int 60]) (rest := []) ⟨hx, hb, hml, hown, hts⟩ (c_X1_hoursUntilDry l E D C qr0 qr1 qr2 qr3 qr4 qr5 qr6 H.size N v1 60 r3 v4 h5) (cwV 1 hts gX5_dry_X1_hoursUntilDry rfl rfl rfl hdX1_hoursUntilDry ⟨Nat.le_of_ble_eq_true rfl, Nat.le_of_ble_eq_true rfl⟩) (kpreV hP hD hK hS hE hA [8, 9, 10, 11, 12, 13, 14] rfl rfl 8 rfl rfl rfl) rfl rfl hl.1 rfl (lv_room (Nat.le_of_ble_eq_true rfl)) dX5_dry_17 ⟨Nat.zero_le _, Nat.zero_le _⟩) hP hD hS hA [8, 9, 10, 11, 12, 13, 14] rfl rfl rfl (fun H locs hP hD hS => ?_)
    cases hf
    exact kri hQ hAe hx hb hr hlocks hP hD hK hS dX5_dry_20
  exact main _ _ hP hD hS

def rmX5_isWish : Room := { frames := 2, cells := 0, slots := 0, locals := 43 }
theorem hdX5_isWish : yX5_isWish.cls = RX5 ∧ yX5_isWish.cls ≠ "java/lang/invoke/MethodHandle" ∧ yX5_isWish.cls ≠ "java/lang/invoke/VarHandle" ∧ (parseMethodDescriptor yX5_isWish.desc).map (fun d => d.parameters.length) = some 3 := by decide +kernel
set_option maxHeartbeats 40000000 in
set_option maxRecDepth 100000 in
theorem c_X5_isWish (l : Launch) (E : Nat → Nat) (D : va_G) (C : Nat → ClassId) (q0 qn0 qk0 qr0 qc0 qt0 qd0 qs0 qf0 qw0 qn1 qn2 qn3 qn4 qn5 qn6 : Nat) (sz : Nat) (rowCount : Int32) (anyKept : Int32) (now : PV) (x0 : Int32) (x1 : Int32) (x2 : Int32) (r : Int32) (hf : f_X5_isWish now x0 x1 x2 = r) : Met l yX5_isWish wsX5_isWish rmX5_isWish (PC E D C [.ref q0, .int x0, .int x1, .int x2] (oTM q0 qn0 qk0 qr0 qc0 qt0 qd0 qs0 qf0 qw0 rowCount anyKept (oPort C qn0 qn1 qn2 qn3 qn4 qn5 qn6 now [])) sz) (QZ D C (oTM q0 qn0 qk0 qr0 qc0 qt0 qd0 qs0 qf0 qw0 rowCount anyKept (oPort C qn0 qn1 qn2 qn3 qn4 qn5 qn6 now [])) (oTM q0 qn0 qk0 qr0 qc0 qt0 qd0 qs0 qf0 qw0 rowCount anyKept (oPort C qn0 qn1 qn2 qn3 qn4 qn5 qn6 now [])) sz r) 0 0 (va_A (oTM q0 qn0 qk0 qr0 qc0 qt0 qd0 qs0 qf0 qw0 rowCount anyKept (oPort C qn0 qn1 qn2 qn3 qn4 qn5 qn6 now [])) sz) := by
  refine Met.ofW (cc := cX5_isWish) (maxL := 4) (ret := (some .boolean)) (by decide) rfl ?_
  intro p e s m args below meth c s₁ B hml hv
  obtain ⟨rfl, hsz, hP, hK, hD0, hE⟩ := hv
  have hx := B.exec
  have hb := B.bytes
  have hr := B.returns
  have hts := atoms_spec (ws := wsX5_isWish) B.pre
  have hown : s.vm.findClass RX5 = some m.cls := findClass_of_methodNamed B.named
  have hlocks := B.notSynchronized
  subst hsz
  have hD := hD0.self (sz := s.heap.size)
  obtain ⟨A, hAe⟩ := nm_ex (va_A (oTM q0 qn0 qk0 qr0 qc0 qt0 qd0 qs0 qf0 qw0 rowCount anyKept (oPort C qn0 qn1 qn2 qn3 qn4 qn5 qn6 now [])) s.heap.size)
  rw [← hAe] at hD hE ⊢
  have hA : ∀ q : Nat, s.heap.size ≤ q → A q := fun q h => by rw [hAe]; exact Or.inr h
  have hS : va_S A s.heap s.heap [] := va_S.rf
  have hl := lv_entry ([.ref q0, .int x0, .int x1, .int x2]) (n := 4) (Nat.le_of_ble_eq_true rfl)
  rw [lg_entry_eq]
  generalize (lg_sl ([.ref q0, .int x0, .int x1, .int x2]) ++ List.replicate (4 - (lg_sl ([.ref q0, .int x0, .int x1, .int x2])).length) Slot.unset).toArray = ls at hl ⊢
  have hl : lv_has ls 4 [(0, .ref q0), (1, .int x0), (2, .int x1), (3, .int x2)] := hl
  obtain ⟨Q, hQ⟩ := nm_ex (MQ below (QZ D C (oTM q0 qn0 qk0 qr0 qc0 qt0 qd0 qs0 qf0 qw0 rowCount anyKept (oPort C qn0 qn1 qn2 qn3 qn4 qn5 qn6 now [])) (oTM q0 qn0 qk0 qr0 qc0 qt0 qd0 qs0 qf0 qw0 rowCount anyKept (oPort C qn0 qn1 qn2 qn3 qn4 qn5 qn6 now [])) s.heap.size r) (List.toArray [Value.ref q0, Value.int x0, Value.int x1, Value.int x2]) s 0 0 A)
  show W p l e (headSpec wsX5_isWish (rmX5_isWish)).room s m (List.toArray [Value.ref q0, Value.int x0, Value.int x1, Value.int x2]) below meth c s.heap [] 0 0 (MQ below (QZ D C (oTM q0 qn0 qk0 qr0 qc0 qt0 qd0 qs0 qf0 qw0 rowCount anyKept (oPort C qn0 qn1 qn2 qn3 qn4 qn5 qn6 now [])) (oTM q0 qn0 qk0 qr0 qc0 qt0 qd0 qs0 qf0 qw0 rowCount anyKept (oPort C qn0 qn1 qn2 qn3 qn4 qn5 qn6 now [])) s.heap.size r) (List.toArray [Value.ref q0, Value.int x0, Value.int x1, Value.int x2]) s 0 0 A) _
  rw [← hQ]
  unfold f_X5_isWish at hf
  have main : ∀ (H : Heap) (locs : List Loc), va_P D vwCl (oTM q0 qn0 qk0 qr0 qc0 qt0 qd0 qs0 qf0 qw0 rowCount anyKept (oPort C qn0 qn1 qn2 qn3 qn4 qn5 qn6 now [])) H → va_D A (oTM q0 qn0 qk0 qr0 qc0 qt0 qd0 qs0 qf0 qw0 rowCount anyKept (oPort C qn0 qn1 qn2 qn3 qn4 qn5 qn6 now [])) → va_S A s.heap H locs → W p l e (headSpec wsX5_isWish (rmX5_isWish)).room s m (List.toArray [Value.ref q0, Value.int x0, Value.int x1, Value.int x2]) below meth c H locs 0 0 Q (F0 m 0 ls []) := by
    intro H locs hP hD hS
    refine lv_aload_n hx hb dX5_isWish_0 rfl (lv_at hl 0 rfl) ?_
    refine lv_iload_n hx hb dX5_isWish_1 rfl (lv_at hl 1 rfl) ?_
    refine kcz (Wx := (oTM q0 qn0 qk0 qr0 qc0 qt0 qd0 qs0 qf0 qw0 rowCount anyKept (oPort C qn0 qn1 qn2 qn3 qn4 qn5 qn6 now []))) (va_runV (As := [.int x0]) (rest := []) ⟨hx, hb, hml, hown, hts⟩ (c_X5_isMark l E D C q0 qn0 qk0 qr0 qc0 qt0 qd0 qs0 qf0 qw0 qn1 qn2 qn3 qn4 qn5 qn6 H.size rowCount anyKept now x0 _ rfl) (cwV 1 hts gX5_isWish_X5_isMark rfl rfl rfl hdX5_isMark ⟨Nat.le_of_ble_eq_true rfl, Nat.le_of_ble_eq_true rfl⟩) (kpreV hP hD hK hS hE hA [0, 1, 2, 3, 4, 5, 6, 7] rfl rfl 0 rfl rfl rfl) rfl rfl hl.1 rfl (lv_room (Nat.le_of_ble_eq_true rfl)) dX5_isWish_2 ⟨Nat.zero_le _, Nat.zero_le _⟩) hP hD hS hA [0, 1, 2, 3, 4, 5, 6, 7] rfl rfl rfl (fun H locs hz1 hP hD hS => ?_)
    refine lv_if_eq (tgt := 29) hx hb dX5_isWish_5 (by decide) (fun c2 => ?_) (fun c2 => ?_)
    · replace hf := if_te c2 hf
      refine lv_iconst (v := 0) hx hb dX5_isWish_29 rfl ?_
      cases hf
      exact krz hQ hAe hx hb hr hlocks zb_0 hP hD hK hS dX5_isWish_30
    · replace hf := if_fe c2 hf
      refine lv_iload_n hx hb dX5_isWish_8 rfl (lv_at hl 2 rfl) ?_
      refine kcz (Wx := (oTM q0 qn0 qk0 qr0 qc0 qt0 qd0 qs0 qf0 qw0 rowCount anyKept (oPort C qn0 qn1 qn2 qn3 qn4 qn5 qn6 now []))) (va_runS (As := [.int x1]) (rest := []) ⟨hx, hb, hml, hown, hts⟩ (c_X5_isOne l E D C H.size x1 _ rfl) (va_cwS 1 hts gX5_isWish_X5_isOne rfl rfl rfl hdX5_isOne ⟨Nat.le_of_ble_eq_true rfl, Nat.le_of_ble_eq_true rfl⟩) (kpre hP hD hK hS hE hA [] rfl rfl) rfl rfl hl.1 rfl (lv_room (Nat.le_of_ble_eq_true rfl)) dX5_isWish_9 ⟨Nat.zero_le _, Nat.zero_le _⟩) hP hD hS hA [] rfl rfl rfl (fun H locs hz3 hP hD hS => ?_)
      refine lv_if_eq (tgt := 29) hx hb dX5_isWish_12 (by decide) (fun c4 => ?_) (fun c4 => ?_)
      · replace hf := if_te c4 hf
        refine lv_iconst (v := 0) hx hb dX5_isWish_29 rfl ?_
        cases hf
        exact krz hQ hAe hx hb hr hlocks zb_0 hP hD hK hS dX5_isWish_30
      · replace hf := if_fe c4 hf
        refine lv_iload_n hx hb dX5_isWish_15 rfl (lv_at hl 3 rfl) ?_
        refine lv_iconst (v := 0) hx hb dX5_isWish_16 rfl ?_
        refine lv_bipush (v := 30) hx hb dX5_isWish_17 rfl ?_
        refine kcz (Wx := (oTM q0 qn0 qk0 qr0 qc0 qt0 qd0 qs0 qf0 qw0 rowCount anyKept (oPort C qn0 qn1 qn2 qn3 qn4 qn5 qn6 now []))) (va_runS (As := [.int x2, .int 0, .int 30]) (rest := []) ⟨hx, hb, hml, hown, hts⟩ (c_X5_within l E D C H.size x2 0 30 _ rfl) (va_cwS 3 hts gX5_isWish_X5_within rfl rfl rfl hdX5_within ⟨Nat.le_of_ble_eq_true rfl, Nat.le_of_ble_eq_true rfl⟩) (kpre hP hD hK hS hE hA [] rfl rfl) rfl rfl hl.1 rfl (lv_room (Nat.le_of_ble_eq_true rfl)) dX5_isWish_19 ⟨Nat.zero_le _, Nat.zero_le _⟩) hP hD hS hA [] rfl rfl rfl (fun H locs hz5 hP hD hS => ?_)
        refine lv_if_eq (tgt := 29) hx hb dX5_isWish_22 (by decide) (fun c6 => ?_) (fun c6 => ?_)
        · replace hf := if_te c6 hf
          refine lv_iconst (v := 0) hx hb dX5_isWish_29 rfl ?_
          cases hf
          exact krz hQ hAe hx hb hr hlocks zb_0 hP hD hK hS dX5_isWish_30
        · replace hf := if_fe c6 hf
          refine lv_iconst (v := 1) hx hb dX5_isWish_25 rfl ?_
          refine lv_goto (tgt := 30) hx hb dX5_isWish_26 (by decide) ?_
          cases hf
          exact krz hQ hAe hx hb hr hlocks zb_1 hP hD hK hS dX5_isWish_30
  exact main _ _ hP hD hS

def rmX5_kindFor : Room := { frames := 5, cells := 0, slots := 0, locals := 115 }
theorem hdX5_kindFor : yX5_kindFor.cls = RX5 ∧ yX5_kindFor.cls ≠ "java/lang/invoke/MethodHandle" ∧ yX5_kindFor.cls ≠ "java/lang/invoke/VarHandle" ∧ (parseMethodDescriptor yX5_kindFor.desc).map (fun d => d.parameters.length) = some 3 := by decide +kernel
set_option maxHeartbeats 40000000 in
set_option maxRecDepth 100000 in
theorem c_X5_kindFor (l : Launch) (E : Nat → Nat) (D : va_G) (C : Nat → ClassId) (q0 qn0 qk0 qr0 qc0 qt0 qd0 qs0 qf0 qw0 qn1 qn2 qn3 qn4 qn5 qn6 qr1 qr2 qr3 qr4 qr5 qr6 : Nat) (sz : Nat) (N : Nat) (rowCount : Int32) (anyKept : Int32) (now : PV) (trial : PV) (x0 : Int32) (x1 : Int32) (x2 : Int32) (r : Int32) (trial' : PV) (hf : f_X5_kindFor N now trial x0 x1 x2 = some (r, trial')) : Met l yX5_kindFor wsX5_kindFor rmX5_kindFor (PC E D C [.ref q0, .int x0, .int x1, .int x2] (oTM q0 qn0 qk0 qr0 qc0 qt0 qd0 qs0 qf0 qw0 rowCount anyKept (oPort C qn0 qn1 qn2 qn3 qn4 qn5 qn6 now (oPort C qr0 qr1 qr2 qr3 qr4 qr5 qr6 trial []))) sz) (QI D C (oTM q0 qn0 qk0 qr0 qc0 qt0 qd0 qs0 qf0 qw0 rowCount anyKept (oPort C qn0 qn1 qn2 qn3 qn4 qn5 qn6 now (oPort C qr0 qr1 qr2 qr3 qr4 qr5 qr6 trial []))) (oTM q0 qn0 qk0 qr0 qc0 qt0 qd0 qs0 qf0 qw0 rowCount anyKept (oPort C qn0 qn1 qn2 qn3 qn4 qn5 qn6 now (oPort C qr0 qr1 qr2 qr3 qr4 qr5 qr6 (trial') []))) sz r) 0 0 (va_A (oTM q0 qn0 qk0 qr0 qc0 qt0 qd0 qs0 qf0 qw0 rowCount anyKept (oPort C qn0 qn1 qn2 qn3 qn4 qn5 qn6 now (oPort C qr0 qr1 qr2 qr3 qr4 qr5 qr6 trial []))) sz) := by
  refine Met.ofW (cc := cX5_kindFor) (maxL := 8) (ret := (some .int)) (by decide) rfl ?_
  intro p e s m args below meth c s₁ B hml hv
  obtain ⟨rfl, hsz, hP, hK, hD0, hE⟩ := hv
  have hx := B.exec
  have hb := B.bytes
  have hr := B.returns
  have hts := atoms_spec (ws := wsX5_kindFor) B.pre
  have hown : s.vm.findClass RX5 = some m.cls := findClass_of_methodNamed B.named
  have hlocks := B.notSynchronized
  subst hsz
  have hi_RX1 : ∀ w ∈ wsX10, w ∈ wsX5_kindFor := fun _ h => List.mem_cons_of_mem _ (List.mem_append_right _ h)
  have hi_RX5 : ∀ w ∈ wsX50, w ∈ wsX5_kindFor := fun _ h => List.mem_cons_of_mem _ (List.mem_append_left _ (List.mem_append_right _ h))
  have hD := hD0.self (sz := s.heap.size)
  obtain ⟨A, hAe⟩ := nm_ex (va_A (oTM q0 qn0 qk0 qr0 qc0 qt0 qd0 qs0 qf0 qw0 rowCount anyKept (oPort C qn0 qn1 qn2 qn3 qn4 qn5 qn6 now (oPort C qr0 qr1 qr2 qr3 qr4 qr5 qr6 trial []))) s.heap.size)
  rw [← hAe] at hD hE ⊢
  have hA : ∀ q : Nat, s.heap.size ≤ q → A q := fun q h => by rw [hAe]; exact Or.inr h
  have hS : va_S A s.heap s.heap [] := va_S.rf
  have hl := lv_entry ([.ref q0, .int x0, .int x1, .int x2]) (n := 8) (Nat.le_of_ble_eq_true rfl)
  rw [lg_entry_eq]
  generalize (lg_sl ([.ref q0, .int x0, .int x1, .int x2]) ++ List.replicate (8 - (lg_sl ([.ref q0, .int x0, .int x1, .int x2])).length) Slot.unset).toArray = ls at hl ⊢
  have hl : lv_has ls 8 [(0, .ref q0), (1, .int x0), (2, .int x1), (3, .int x2)] := hl
  obtain ⟨Q, hQ⟩ := nm_ex (MQ below (QI D C (oTM q0 qn0 qk0 qr0 qc0 qt0 qd0 qs0 qf0 qw0 rowCount anyKept (oPort C qn0 qn1 qn2 qn3 qn4 qn5 qn6 now (oPort C qr0 qr1 qr2 qr3 qr4 qr5 qr6 trial []))) (oTM q0 qn0 qk0 qr0 qc0 qt0 qd0 qs0 qf0 qw0 rowCount anyKept (oPort C qn0 qn1 qn2 qn3 qn4 qn5 qn6 now (oPort C qr0 qr1 qr2 qr3 qr4 qr5 qr6 (trial') []))) s.heap.size r) (List.toArray [Value.ref q0, Value.int x0, Value.int x1, Value.int x2]) s 0 0 A)
  show W p l e (headSpec wsX5_kindFor (rmX5_kindFor)).room s m (List.toArray [Value.ref q0, Value.int x0, Value.int x1, Value.int x2]) below meth c s.heap [] 0 0 (MQ below (QI D C (oTM q0 qn0 qk0 qr0 qc0 qt0 qd0 qs0 qf0 qw0 rowCount anyKept (oPort C qn0 qn1 qn2 qn3 qn4 qn5 qn6 now (oPort C qr0 qr1 qr2 qr3 qr4 qr5 qr6 trial []))) (oTM q0 qn0 qk0 qr0 qc0 qt0 qd0 qs0 qf0 qw0 rowCount anyKept (oPort C qn0 qn1 qn2 qn3 qn4 qn5 qn6 now (oPort C qr0 qr1 qr2 qr3 qr4 qr5 qr6 (trial') []))) s.heap.size r) (List.toArray [Value.ref q0, Value.int x0, Value.int x1, Value.int x2]) s 0 0 A) _
  rw [← hQ]
  unfold f_X5_kindFor at hf
  have main : ∀ (H : Heap) (locs : List Loc), va_P D vwCl (oTM q0 qn0 qk0 qr0 qc0 qt0 qd0 qs0 qf0 qw0 rowCount anyKept (oPort C qn0 qn1 qn2 qn3 qn4 qn5 qn6 now (oPort C qr0 qr1 qr2 qr3 qr4 qr5 qr6 trial []))) H → va_D A (oTM q0 qn0 qk0 qr0 qc0 qt0 qd0 qs0 qf0 qw0 rowCount anyKept (oPort C qn0 qn1 qn2 qn3 qn4 qn5 qn6 now (oPort C qr0 qr1 qr2 qr3 qr4 qr5 qr6 trial []))) → va_S A s.heap H locs → W p l e (headSpec wsX5_kindFor (rmX5_kindFor)).room s m (List.toArray [Value.ref q0, Value.int x0, Value.int x1, Value.int x2]) below meth c H locs 0 0 Q (F0 m 0 ls []) := by
    intro H locs hP hD hS
    refine lv_aload_n hx hb dX5_kindFor_0 rfl (lv_at hl 0 rfl) ?_
    refine lv_iload_n hx hb dX5_kindFor_1 rfl (lv_at hl 1 rfl) ?_
    refine lv_iload_n hx hb dX5_kindFor_2 rfl (lv_at hl 2 rfl) ?_
    refine lv_iload_n hx hb dX5_kindFor_3 rfl (lv_at hl 3 rfl) ?_
    refine kcz (Wx := (oTM q0 qn0 qk0 qr0 qc0 qt0 qd0 qs0 qf0 qw0 rowCount anyKept (oPort C qn0 qn1 qn2 qn3 qn4 qn5 qn6 now (oPort C qr0 qr1 qr2 qr3 qr4 qr5 qr6 trial [])))) (va_runV (As := [.int x0, .int x1, .int x2]) (rest := []) ⟨hx, hb, hml, hown, hts⟩ (c_X5_isWish l E D C q0 qn0 qk0 qr0 qc0 qt0 qd0 qs0 qf0 qw0 qn1 qn2 qn3 qn4 qn5 qn6 H.size rowCount anyKept now x0 x1 x2 _ rfl) (cwV 3 hts gX5_kindFor_X5_isWish rfl rfl rfl hdX5_isWish ⟨Nat.le_of_ble_eq_true rfl, Nat.le_of_ble_eq_true rfl⟩) (kpreV hP hD hK hS hE hA [0, 1, 2, 3, 4, 5, 6, 7] rfl rfl 0 rfl rfl rfl) rfl rfl hl.1 rfl (lv_room (Nat.le_of_ble_eq_true rfl)) dX5_kindFor_4 ⟨Nat.zero_le _, Nat.zero_le _⟩) hP hD hS hA [0, 1, 2, 3, 4, 5, 6, 7] rfl rfl rfl (fun H locs hz1 hP hD hS => ?_)
    refine lv_if_ne (tgt := 12) hx hb dX5_kindFor_7 (by decide) (fun c2 => ?_) (fun c2 => ?_)
    · replace hf := if_fe c2 hf
      refine lv_iconst (v := 0) hx hb dX5_kindFor_12 rfl ?_
      refine lv_istore (lv' := [(4, .int 0), (0, .ref q0), (1, .int x0), (2, .int x1), (3, .int x2)]) hx hb dX5_kindFor_13 hl (by decide) rfl (fun ls hl => ?_)
      refine lv_iload_n hx hb dX5_kindFor_15 rfl (lv_at hl 4 rfl) ?_
      refine lv_iconst (v := 1) hx hb dX5_kindFor_16 rfl ?_
      refine lv_iadd hx hb dX5_kindFor_17 ?_
      obtain ⟨t3, et3, hf⟩ := lj_e hf
      refine lv_ren et3 ?_
      refine lv_istore (lv' := [(5, .int t3), (4, .int 0), (0, .ref q0), (1, .int x0), (2, .int x1), (3, .int x2)]) hx hb dX5_kindFor_18 hl (by decide) rfl (fun ls hl => ?_)
      refine lv_iconst (v := 0) hx hb dX5_kindFor_20 rfl ?_
      refine lv_istore (lv' := [(6, .int 0), (5, .int t3), (4, .int 0), (0, .ref q0), (1, .int x0), (2, .int x1), (3, .int x2)]) hx hb dX5_kindFor_21 hl (by decide) rfl (fun ls hl => ?_)
      have hL23 : ∀ (n : Nat) (i4 : Int32) (i5 : Int32) (i6 : Int32) (v7 : PV) (H : Heap) (locs : List Loc) (ls : Array Slot), va_P D vwCl (oTM q0 qn0 qk0 qr0 qc0 qt0 qd0 qs0 qf0 qw0 rowCount anyKept (oPort C qn0 qn1 qn2 qn3 qn4 qn5 qn6 now (oPort C qr0 qr1 qr2 qr3 qr4 qr5 qr6 v7 []))) H → va_D A (oTM q0 qn0 qk0 qr0 qc0 qt0 qd0 qs0 qf0 qw0 rowCount anyKept (oPort C qn0 qn1 qn2 qn3 qn4 qn5 qn6 now (oPort C qr0 qr1 qr2 qr3 qr4 qr5 qr6 v7 []))) → va_S A s.heap H locs → lv_has ls 8 [(6, .int i4), (5, .int i5), (4, .int i6), (0, .ref q0), (1, .int x0), (2, .int x1)] → f_X5_kindFor_L23 N now x0 x1 n i4 i5 i6 v7 = some (r, trial') → W p l e (headSpec wsX5_kindFor (rmX5_kindFor)).room s m (List.toArray [Value.ref q0, Value.int x0, Value.int x1, Value.int x2]) below meth c H locs 0 0 Q (F0 m 23 ls []) := by
        intro n
        induction n with
        | zero =>
          intro i4 i5 i6 v7 H locs ls hP hD hS hl hf
          exact absurd hf (fun h => by cases h)
        | succ n ih =>
          intro i4 i5 i6 v7 H locs ls hP hD hS hl hf
          rw [f_X5_kindFor_L23] at hf
          refine lv_iload hx hb dX5_kindFor_23 (lv_at hl 0 rfl) ?_
          refine lv_bipush (v := 6) hx hb dX5_kindFor_25 rfl ?_
          refine lv_icmp_ge (tgt := 86) hx hb dX5_kindFor_27 (by decide) (fun c8 => ?_) (fun c8 => ?_)
          · replace hf := if_te c8 hf
            refine lv_iload hx hb dX5_kindFor_86 (lv_at hl 2 rfl) ?_
            cases hf
            exact kri hQ hAe hx hb hr hlocks hP hD hK hS dX5_kindFor_88
          · replace hf := if_fe c8 hf
            refine lv_aload_n hx hb dX5_kindFor_30 rfl (lv_at hl 3 rfl) ?_
            refine va_get (D := D) (ci := 5) (v := .ref qr0) (C := RX5) (T := TX5) (N := 11) hx hb hts hi_RX5 hown hK hP 0 rfl rfl 2 (by decide) (hts (.fieldLink RX5 19 "TravelMarks" "trial" "LTravelMarks$Port;") (List.mem_of_getElem? (i := 1) rfl)) (fun _ h9 => h9) rfl dX5_kindFor_31 ?_
            refine lv_aload_n hx hb dX5_kindFor_34 rfl (lv_at hl 3 rfl) ?_
            refine va_get (D := D) (ci := 5) (v := .ref qn0) (C := RX5) (T := TX5) (N := 11) hx hb hts hi_RX5 hown hK hP 0 rfl rfl 0 (by decide) (hts (.fieldLink RX5 10 "TravelMarks" "now" "LTravelMarks$Port;") (List.mem_of_getElem? (i := 2) rfl)) (fun _ h9 => h9) rfl dX5_kindFor_35 ?_
            obtain ⟨v9, h10, hf⟩ := ob1_e hf
            refine kcv (Wx := (oTM q0 qn0 qk0 qr0 qc0 qt0 qd0 qs0 qf0 qw0 rowCount anyKept (oPort C qn0 qn1 qn2 qn3 qn4 qn5 qn6 now (oPort C qr0 qr1 qr2 qr3 qr4 qr5 qr6 v9 [])))) (va_runV (As := [.ref qn0]) (rest := []) ⟨hx, hb, hml, hown, hts⟩ (c_X1_become l E D C qr0 qr1 qr2 qr3 qr4 qr5 qr6 qn0 qn1 qn2 qn3 qn4 qn5 qn6 H.size v7 now v9 h10) (cwV 1 hts gX5_kindFor_X1_become rfl rfl rfl hdX1_become ⟨Nat.le_of_ble_eq_true rfl, Nat.le_of_ble_eq_true rfl⟩) (kpreV hP hD hK hS hE hA [8, 9, 10, 11, 12, 13, 14, 1, 2, 3, 4, 5, 6, 7] rfl rfl 8 rfl rfl rfl) rfl rfl hl.1 rfl (lv_room (Nat.le_of_ble_eq_true rfl)) dX5_kindFor_38 ⟨Nat.zero_le _, Nat.zero_le _⟩) hP hD hS hA [8, 9, 10, 11, 12, 13, 14, 1, 2, 3, 4, 5, 6, 7] rfl rfl rfl (fun H locs hP hD hS => ?_)
            refine lv_aload_n hx hb dX5_kindFor_41 rfl (lv_at hl 3 rfl) ?_
            refine va_get (D := D) (ci := 5) (v := .ref qr0) (C := RX5) (T := TX5) (N := 11) hx hb hts hi_RX5 hown hK hP 0 rfl rfl 2 (by decide) (hts (.fieldLink RX5 19 "TravelMarks" "trial" "LTravelMarks$Port;") (List.mem_of_getElem? (i := 1) rfl)) (fun _ h9 => h9) rfl dX5_kindFor_42 ?_
            refine va_get (D := D) (ci := 1) (v := .ref qr2) (C := RX1) (T := TX1) (N := 10) hx hb hts hi_RX1 hown hK hP 8 rfl rfl 1 (by decide) (hts (.fieldLink RX5 114 "TravelMarks$Port" "kind" "[I") (List.mem_of_getElem? (i := 3) rfl)) (fun _ h9 => h9) rfl dX5_kindFor_45 ?_
            refine lv_iload_n hx hb dX5_kindFor_48 rfl (lv_at hl 4 rfl) ?_
            refine lv_iload hx hb dX5_kindFor_49 (lv_at hl 0 rfl) ?_
            obtain ⟨hi11, hf⟩ := ckA_e hf
            refine va_iast hx hb hK hP hD hS 10 0 rfl rfl hi11 dX5_kindFor_51 (fun H locs hP hD hS => ?_)
            obtain ⟨v12, ev12, hf⟩ := lj_e hf
            have hP : va_P D vwCl (oTM q0 qn0 qk0 qr0 qc0 qt0 qd0 qs0 qf0 qw0 rowCount anyKept (oPort C qn0 qn1 qn2 qn3 qn4 qn5 qn6 now (oPort C qr0 qr1 qr2 qr3 qr4 qr5 qr6 v12 []))) H := by rw [ev12]; exact hP
            have hD : va_D A (oTM q0 qn0 qk0 qr0 qc0 qt0 qd0 qs0 qf0 qw0 rowCount anyKept (oPort C qn0 qn1 qn2 qn3 qn4 qn5 qn6 now (oPort C qr0 qr1 qr2 qr3 qr4 qr5 qr6 v12 []))) := by rw [ev12]; exact hD
            refine lv_aload_n hx hb dX5_kindFor_52 rfl (lv_at hl 3 rfl) ?_
            refine va_get (D := D) (ci := 5) (v := .ref qr0) (C := RX5) (T := TX5) (N := 11) hx hb hts hi_RX5 hown hK hP 0 rfl rfl 2 (by decide) (hts (.fieldLink RX5 19 "TravelMarks" "trial" "LTravelMarks$Port;") (List.mem_of_getElem? (i := 1) rfl)) (fun _ h9 => h9) rfl dX5_kindFor_53 ?_
            refine lv_iload_n hx hb dX5_kindFor_56 rfl (lv_at hl 4 rfl) ?_
            refine lv_iload_n hx hb dX5_kindFor_57 rfl (lv_at hl 5 rfl) ?_
            refine lv_iload hx hb dX5_kindFor_58 (lv_at hl 1 rfl) ?_
            refine lv_iconst (v := 1) hx hb dX5_kindFor_60 rfl ?_
            refine lv_isub hx hb dX5_kindFor_61 ?_
            obtain ⟨r13, v14, h15, hf⟩ := ob2_e hf
            refine kci (Wx := (oTM q0 qn0 qk0 qr0 qc0 qt0 qd0 qs0 qf0 qw0 rowCount anyKept (oPort C qn0 qn1 qn2 qn3 qn4 qn5 qn6 now (oPort C qr0 qr1 qr2 qr3 qr4 qr5 qr6 v14 [])))) (va_runV (As := [.int x0, .int x1, .int (i5 - 1)]) (rest := []) ⟨hx, hb, hml, hown, hts⟩ (c_X1_hoursUntilOn l E D C qr0 qr1 qr2 qr3 qr4 qr5 qr6 H.size N v12 x0 x1 (i5 - 1) r13 v14 h15) (cwV 3 hts gX5_kindFor_X1_hoursUntilOn rfl rfl rfl hdX1_hoursUntilOn ⟨Nat.le_of_ble_eq_true rfl, Nat.le_of_ble_eq_true rfl⟩) (kpreV hP hD hK hS hE hA [8, 9, 10, 11, 12, 13, 14] rfl rfl 8 rfl rfl rfl) rfl rfl hl.1 rfl (lv_room (Nat.le_of_ble_eq_true rfl)) dX5_kindFor_62 ⟨Nat.zero_le _, Nat.zero_le _⟩) hP hD hS hA [8, 9, 10, 11, 12, 13, 14] rfl rfl rfl (fun H locs hP hD hS => ?_)
            refine lv_istore (lv' := [(7, .int r13), (6, .int i4), (5, .int i5), (4, .int i6), (0, .ref q0), (1, .int x0), (2, .int x1)]) hx hb dX5_kindFor_65 hl (by decide) rfl (fun ls hl => ?_)
            refine lv_iload hx hb dX5_kindFor_67 (lv_at hl 0 rfl) ?_
            obtain ⟨j18, hj18, hf⟩ := lj_e hf
            have Hj18 : ∀ (i16 : Int32) (i17 : Int32) (H : Heap) (locs : List Loc) (ls : Array Slot), va_P D vwCl (oTM q0 qn0 qk0 qr0 qc0 qt0 qd0 qs0 qf0 qw0 rowCount anyKept (oPort C qn0 qn1 qn2 qn3 qn4 qn5 qn6 now (oPort C qr0 qr1 qr2 qr3 qr4 qr5 qr6 v14 []))) H → va_D A (oTM q0 qn0 qk0 qr0 qc0 qt0 qd0 qs0 qf0 qw0 rowCount anyKept (oPort C qn0 qn1 qn2 qn3 qn4 qn5 qn6 now (oPort C qr0 qr1 qr2 qr3 qr4 qr5 qr6 v14 []))) → va_S A s.heap H locs → lv_has ls 8 [(6, .int i4), (5, .int i16), (4, .int i17), (0, .ref q0), (1, .int x0), (2, .int x1)] → j18 i16 i17 = some (r, trial') → W p l e (headSpec wsX5_kindFor (rmX5_kindFor)).room s m (List.toArray [Value.ref q0, Value.int x0, Value.int x1, Value.int x2]) below meth c H locs 0 0 Q (F0 m 80 ls []) := by
              intro i16 i17 H locs ls hP hD hS hl hf
              rw [hj18] at hf
              obtain ⟨t19, et19, hf⟩ := lj_e hf
              refine lv_iinc (v := t19) (lv' := [(6, .int t19), (5, .int i16), (4, .int i17), (0, .ref q0), (1, .int x0), (2, .int x1)]) hx hb dX5_kindFor_80 hl (k := 0) rfl (by rw [et19]; rfl) (by decide) rfl (fun ls hl => ?_)
              refine lv_goto (tgt := 23) hx hb dX5_kindFor_83 (by decide) ?_
              exact ih t19 i16 i17 v14 H locs ls hP hD hS (lv_sub hl [0, 1, 2, 3, 4, 5] rfl) hf
            refine lv_if_lt (tgt := 80) hx hb dX5_kindFor_69 (by decide) (fun c20 => ?_) (fun c20 => ?_)
            · replace hf := if_te c20 hf
              exact Hj18 i5 i6 H locs ls hP hD hS (lv_sub hl [1, 2, 3, 4, 5, 6] rfl) hf
            · replace hf := if_fe c20 hf
              refine lv_iload hx hb dX5_kindFor_72 (lv_at hl 1 rfl) ?_
              refine lv_istore (lv' := [(4, .int i4), (7, .int r13), (6, .int i4), (5, .int i5), (0, .ref q0), (1, .int x0), (2, .int x1)]) hx hb dX5_kindFor_74 hl (by decide) rfl (fun ls hl => ?_)
              refine lv_iload hx hb dX5_kindFor_76 (lv_at hl 1 rfl) ?_
              refine lv_istore (lv' := [(5, .int r13), (4, .int i4), (7, .int r13), (6, .int i4), (0, .ref q0), (1, .int x0), (2, .int x1)]) hx hb dX5_kindFor_78 hl (by decide) rfl (fun ls hl => ?_)
              exact Hj18 r13 i4 H locs ls hP hD hS (lv_sub hl [3, 0, 1, 4, 5, 6] rfl) hf
      exact hL23 N 0 t3 0 trial H locs ls hP hD hS (lv_sub hl [0, 1, 2, 3, 4, 5] rfl) hf
    · replace hf := if_te c2 hf
      refine lv_iconst (v := (-1)) hx hb dX5_kindFor_10 rfl ?_
      cases hf
      exact kri hQ hAe hx hb hr hlocks hP hD hK hS dX5_kindFor_11
  exact main _ _ hP hD hS

def rmX5_inkFor : Room := { frames := 5, cells := 0, slots := 0, locals := 115 }
theorem hdX5_inkFor : yX5_inkFor.cls = RX5 ∧ yX5_inkFor.cls ≠ "java/lang/invoke/MethodHandle" ∧ yX5_inkFor.cls ≠ "java/lang/invoke/VarHandle" ∧ (parseMethodDescriptor yX5_inkFor.desc).map (fun d => d.parameters.length) = some 3 := by decide +kernel
set_option maxHeartbeats 40000000 in
set_option maxRecDepth 100000 in
theorem c_X5_inkFor (l : Launch) (E : Nat → Nat) (D : va_G) (C : Nat → ClassId) (q0 qn0 qk0 qr0 qc0 qt0 qd0 qs0 qf0 qw0 qn1 qn2 qn3 qn4 qn5 qn6 qr1 qr2 qr3 qr4 qr5 qr6 : Nat) (sz : Nat) (N : Nat) (rowCount : Int32) (anyKept : Int32) (now : PV) (trial : PV) (x0 : Int32) (x1 : Int32) (x2 : Int32) (r : Int32) (trial' : PV) (hf : f_X5_inkFor N now trial x0 x1 x2 = some (r, trial')) : Met l yX5_inkFor wsX5_inkFor rmX5_inkFor (PC E D C [.ref q0, .int x0, .int x1, .int x2] (oTM q0 qn0 qk0 qr0 qc0 qt0 qd0 qs0 qf0 qw0 rowCount anyKept (oPort C qn0 qn1 qn2 qn3 qn4 qn5 qn6 now (oPort C qr0 qr1 qr2 qr3 qr4 qr5 qr6 trial []))) sz) (QI D C (oTM q0 qn0 qk0 qr0 qc0 qt0 qd0 qs0 qf0 qw0 rowCount anyKept (oPort C qn0 qn1 qn2 qn3 qn4 qn5 qn6 now (oPort C qr0 qr1 qr2 qr3 qr4 qr5 qr6 trial []))) (oTM q0 qn0 qk0 qr0 qc0 qt0 qd0 qs0 qf0 qw0 rowCount anyKept (oPort C qn0 qn1 qn2 qn3 qn4 qn5 qn6 now (oPort C qr0 qr1 qr2 qr3 qr4 qr5 qr6 (trial') []))) sz r) 0 0 (va_A (oTM q0 qn0 qk0 qr0 qc0 qt0 qd0 qs0 qf0 qw0 rowCount anyKept (oPort C qn0 qn1 qn2 qn3 qn4 qn5 qn6 now (oPort C qr0 qr1 qr2 qr3 qr4 qr5 qr6 trial []))) sz) := by
  refine Met.ofW (cc := cX5_inkFor) (maxL := 5) (ret := (some .int)) (by decide) rfl ?_
  intro p e s m args below meth c s₁ B hml hv
  obtain ⟨rfl, hsz, hP, hK, hD0, hE⟩ := hv
  have hx := B.exec
  have hb := B.bytes
  have hr := B.returns
  have hts := atoms_spec (ws := wsX5_inkFor) B.pre
  have hown : s.vm.findClass RX5 = some m.cls := findClass_of_methodNamed B.named
  have hlocks := B.notSynchronized
  subst hsz
  have hi_RX1 : ∀ w ∈ wsX10, w ∈ wsX5_inkFor := fun _ h => List.mem_cons_of_mem _ (List.mem_append_right _ h)
  have hi_RX5 : ∀ w ∈ wsX50, w ∈ wsX5_inkFor := fun _ h => List.mem_cons_of_mem _ (List.mem_append_left _ (List.mem_append_right _ h))
  have hD := hD0.self (sz := s.heap.size)
  obtain ⟨A, hAe⟩ := nm_ex (va_A (oTM q0 qn0 qk0 qr0 qc0 qt0 qd0 qs0 qf0 qw0 rowCount anyKept (oPort C qn0 qn1 qn2 qn3 qn4 qn5 qn6 now (oPort C qr0 qr1 qr2 qr3 qr4 qr5 qr6 trial []))) s.heap.size)
  rw [← hAe] at hD hE ⊢
  have hA : ∀ q : Nat, s.heap.size ≤ q → A q := fun q h => by rw [hAe]; exact Or.inr h
  have hS : va_S A s.heap s.heap [] := va_S.rf
  have hl := lv_entry ([.ref q0, .int x0, .int x1, .int x2]) (n := 5) (Nat.le_of_ble_eq_true rfl)
  rw [lg_entry_eq]
  generalize (lg_sl ([.ref q0, .int x0, .int x1, .int x2]) ++ List.replicate (5 - (lg_sl ([.ref q0, .int x0, .int x1, .int x2])).length) Slot.unset).toArray = ls at hl ⊢
  have hl : lv_has ls 5 [(0, .ref q0), (1, .int x0), (2, .int x1), (3, .int x2)] := hl
  obtain ⟨Q, hQ⟩ := nm_ex (MQ below (QI D C (oTM q0 qn0 qk0 qr0 qc0 qt0 qd0 qs0 qf0 qw0 rowCount anyKept (oPort C qn0 qn1 qn2 qn3 qn4 qn5 qn6 now (oPort C qr0 qr1 qr2 qr3 qr4 qr5 qr6 trial []))) (oTM q0 qn0 qk0 qr0 qc0 qt0 qd0 qs0 qf0 qw0 rowCount anyKept (oPort C qn0 qn1 qn2 qn3 qn4 qn5 qn6 now (oPort C qr0 qr1 qr2 qr3 qr4 qr5 qr6 (trial') []))) s.heap.size r) (List.toArray [Value.ref q0, Value.int x0, Value.int x1, Value.int x2]) s 0 0 A)
  show W p l e (headSpec wsX5_inkFor (rmX5_inkFor)).room s m (List.toArray [Value.ref q0, Value.int x0, Value.int x1, Value.int x2]) below meth c s.heap [] 0 0 (MQ below (QI D C (oTM q0 qn0 qk0 qr0 qc0 qt0 qd0 qs0 qf0 qw0 rowCount anyKept (oPort C qn0 qn1 qn2 qn3 qn4 qn5 qn6 now (oPort C qr0 qr1 qr2 qr3 qr4 qr5 qr6 trial []))) (oTM q0 qn0 qk0 qr0 qc0 qt0 qd0 qs0 qf0 qw0 rowCount anyKept (oPort C qn0 qn1 qn2 qn3 qn4 qn5 qn6 now (oPort C qr0 qr1 qr2 qr3 qr4 qr5 qr6 (trial') []))) s.heap.size r) (List.toArray [Value.ref q0, Value.int x0, Value.int x1, Value.int x2]) s 0 0 A) _
  rw [← hQ]
  unfold f_X5_inkFor at hf
  have main : ∀ (H : Heap) (locs : List Loc), va_P D vwCl (oTM q0 qn0 qk0 qr0 qc0 qt0 qd0 qs0 qf0 qw0 rowCount anyKept (oPort C qn0 qn1 qn2 qn3 qn4 qn5 qn6 now (oPort C qr0 qr1 qr2 qr3 qr4 qr5 qr6 trial []))) H → va_D A (oTM q0 qn0 qk0 qr0 qc0 qt0 qd0 qs0 qf0 qw0 rowCount anyKept (oPort C qn0 qn1 qn2 qn3 qn4 qn5 qn6 now (oPort C qr0 qr1 qr2 qr3 qr4 qr5 qr6 trial []))) → va_S A s.heap H locs → W p l e (headSpec wsX5_inkFor (rmX5_inkFor)).room s m (List.toArray [Value.ref q0, Value.int x0, Value.int x1, Value.int x2]) below meth c H locs 0 0 Q (F0 m 0 ls []) := by
    intro H locs hP hD hS
    refine lv_aload_n hx hb dX5_inkFor_0 rfl (lv_at hl 0 rfl) ?_
    refine lv_iload_n hx hb dX5_inkFor_1 rfl (lv_at hl 1 rfl) ?_
    refine lv_iload_n hx hb dX5_inkFor_2 rfl (lv_at hl 2 rfl) ?_
    refine lv_iload_n hx hb dX5_inkFor_3 rfl (lv_at hl 3 rfl) ?_
    refine kcz (Wx := (oTM q0 qn0 qk0 qr0 qc0 qt0 qd0 qs0 qf0 qw0 rowCount anyKept (oPort C qn0 qn1 qn2 qn3 qn4 qn5 qn6 now (oPort C qr0 qr1 qr2 qr3 qr4 qr5 qr6 trial [])))) (va_runV (As := [.int x0, .int x1, .int x2]) (rest := []) ⟨hx, hb, hml, hown, hts⟩ (c_X5_isWish l E D C q0 qn0 qk0 qr0 qc0 qt0 qd0 qs0 qf0 qw0 qn1 qn2 qn3 qn4 qn5 qn6 H.size rowCount anyKept now x0 x1 x2 _ rfl) (cwV 3 hts gX5_inkFor_X5_isWish rfl rfl rfl hdX5_isWish ⟨Nat.le_of_ble_eq_true rfl, Nat.le_of_ble_eq_true rfl⟩) (kpreV hP hD hK hS hE hA [0, 1, 2, 3, 4, 5, 6, 7] rfl rfl 0 rfl rfl rfl) rfl rfl hl.1 rfl (lv_room (Nat.le_of_ble_eq_true rfl)) dX5_inkFor_4 ⟨Nat.zero_le _, Nat.zero_le _⟩) hP hD hS hA [0, 1, 2, 3, 4, 5, 6, 7] rfl rfl rfl (fun H locs hz1 hP hD hS => ?_)
    refine lv_if_ne (tgt := 12) hx hb dX5_inkFor_7 (by decide) (fun c2 => ?_) (fun c2 => ?_)
    · replace hf := if_fe c2 hf
      refine lv_iconst (v := 0) hx hb dX5_inkFor_12 rfl ?_
      refine lv_istore (lv' := [(4, .int 0), (0, .ref q0), (1, .int x0), (2, .int x1), (3, .int x2)]) hx hb dX5_inkFor_13 hl (by decide) rfl (fun ls hl => ?_)
      have hL15 : ∀ (n : Nat) (i3 : Int32) (v4 : PV) (H : Heap) (locs : List Loc) (ls : Array Slot), va_P D vwCl (oTM q0 qn0 qk0 qr0 qc0 qt0 qd0 qs0 qf0 qw0 rowCount anyKept (oPort C qn0 qn1 qn2 qn3 qn4 qn5 qn6 now (oPort C qr0 qr1 qr2 qr3 qr4 qr5 qr6 v4 []))) H → va_D A (oTM q0 qn0 qk0 qr0 qc0 qt0 qd0 qs0 qf0 qw0 rowCount anyKept (oPort C qn0 qn1 qn2 qn3 qn4 qn5 qn6 now (oPort C qr0 qr1 qr2 qr3 qr4 qr5 qr6 v4 []))) → va_S A s.heap H locs → lv_has ls 5 [(4, .int i3), (0, .ref q0), (1, .int x0), (2, .int x1), (3, .int x2)] → f_X5_inkFor_L15 N now x0 x1 x2 n i3 v4 = some (r, trial') → W p l e (headSpec wsX5_inkFor (rmX5_inkFor)).room s m (List.toArray [Value.ref q0, Value.int x0, Value.int x1, Value.int x2]) below meth c H locs 0 0 Q (F0 m 15 ls []) := by
        intro n
        induction n with
        | zero =>
          intro i3 v4 H locs ls hP hD hS hl hf
          exact absurd hf (fun h => by cases h)
        | succ n ih =>
          intro i3 v4 H locs ls hP hD hS hl hf
          rw [f_X5_inkFor_L15] at hf
          refine lv_iload hx hb dX5_inkFor_15 (lv_at hl 0 rfl) ?_
          refine lv_bipush (v := 99) hx hb dX5_inkFor_17 rfl ?_
          refine lv_icmp_gt (tgt := 66) hx hb dX5_inkFor_19 (by decide) (fun c5 => ?_) (fun c5 => ?_)
          · replace hf := if_te c5 hf
            refine lv_bipush (v := (-3)) hx hb dX5_inkFor_66 rfl ?_
            cases hf
            exact kri hQ hAe hx hb hr hlocks hP hD hK hS dX5_inkFor_68
          · replace hf := if_fe c5 hf
            refine lv_aload_n hx hb dX5_inkFor_22 rfl (lv_at hl 1 rfl) ?_
            refine va_get (D := D) (ci := 5) (v := .ref qr0) (C := RX5) (T := TX5) (N := 11) hx hb hts hi_RX5 hown hK hP 0 rfl rfl 2 (by decide) (hts (.fieldLink RX5 19 "TravelMarks" "trial" "LTravelMarks$Port;") (List.mem_of_getElem? (i := 1) rfl)) (fun _ h9 => h9) rfl dX5_inkFor_23 ?_
            refine lv_aload_n hx hb dX5_inkFor_26 rfl (lv_at hl 1 rfl) ?_
            refine va_get (D := D) (ci := 5) (v := .ref qn0) (C := RX5) (T := TX5) (N := 11) hx hb hts hi_RX5 hown hK hP 0 rfl rfl 0 (by decide) (hts (.fieldLink RX5 10 "TravelMarks" "now" "LTravelMarks$Port;") (List.mem_of_getElem? (i := 2) rfl)) (fun _ h9 => h9) rfl dX5_inkFor_27 ?_
            obtain ⟨v6, h7, hf⟩ := ob1_e hf
            refine kcv (Wx := (oTM q0 qn0 qk0 qr0 qc0 qt0 qd0 qs0 qf0 qw0 rowCount anyKept (oPort C qn0 qn1 qn2 qn3 qn4 qn5 qn6 now (oPort C qr0 qr1 qr2 qr3 qr4 qr5 qr6 v6 [])))) (va_runV (As := [.ref qn0]) (rest := []) ⟨hx, hb, hml, hown, hts⟩ (c_X1_become l E D C qr0 qr1 qr2 qr3 qr4 qr5 qr6 qn0 qn1 qn2 qn3 qn4 qn5 qn6 H.size v4 now v6 h7) (cwV 1 hts gX5_inkFor_X1_become rfl rfl rfl hdX1_become ⟨Nat.le_of_ble_eq_true rfl, Nat.le_of_ble_eq_true rfl⟩) (kpreV hP hD hK hS hE hA [8, 9, 10, 11, 12, 13, 14, 1, 2, 3, 4, 5, 6, 7] rfl rfl 8 rfl rfl rfl) rfl rfl hl.1 rfl (lv_room (Nat.le_of_ble_eq_true rfl)) dX5_inkFor_30 ⟨Nat.zero_le _, Nat.zero_le _⟩) hP hD hS hA [8, 9, 10, 11, 12, 13, 14, 1, 2, 3, 4, 5, 6, 7] rfl rfl rfl (fun H locs hP hD hS => ?_)
            refine lv_aload_n hx hb dX5_inkFor_33 rfl (lv_at hl 1 rfl) ?_
            refine va_get (D := D) (ci := 5) (v := .ref qr0) (C := RX5) (T := TX5) (N := 11) hx hb hts hi_RX5 hown hK hP 0 rfl rfl 2 (by decide) (hts (.fieldLink RX5 19 "TravelMarks" "trial" "LTravelMarks$Port;") (List.mem_of_getElem? (i := 1) rfl)) (fun _ h9 => h9) rfl dX5_inkFor_34 ?_
            refine va_get (D := D) (ci := 1) (v := .ref qr3) (C := RX1) (T := TX1) (N := 10) hx hb hts hi_RX1 hown hK hP 8 rfl rfl 2 (by decide) (hts (.fieldLink RX5 117 "TravelMarks$Port" "ink" "[I") (List.mem_of_getElem? (i := 3) rfl)) (fun _ h9 => h9) rfl dX5_inkFor_37 ?_
            refine lv_iload_n hx hb dX5_inkFor_40 rfl (lv_at hl 2 rfl) ?_
            refine lv_iload hx hb dX5_inkFor_41 (lv_at hl 0 rfl) ?_
            obtain ⟨hi8, hf⟩ := ckA_e hf
            refine va_iast hx hb hK hP hD hS 11 0 rfl rfl hi8 dX5_inkFor_43 (fun H locs hP hD hS => ?_)
            obtain ⟨v9, ev9, hf⟩ := lj_e hf
            have hP : va_P D vwCl (oTM q0 qn0 qk0 qr0 qc0 qt0 qd0 qs0 qf0 qw0 rowCount anyKept (oPort C qn0 qn1 qn2 qn3 qn4 qn5 qn6 now (oPort C qr0 qr1 qr2 qr3 qr4 qr5 qr6 v9 []))) H := by rw [ev9]; exact hP
            have hD : va_D A (oTM q0 qn0 qk0 qr0 qc0 qt0 qd0 qs0 qf0 qw0 rowCount anyKept (oPort C qn0 qn1 qn2 qn3 qn4 qn5 qn6 now (oPort C qr0 qr1 qr2 qr3 qr4 qr5 qr6 v9 []))) := by rw [ev9]; exact hD
            refine lv_aload_n hx hb dX5_inkFor_44 rfl (lv_at hl 1 rfl) ?_
            refine va_get (D := D) (ci := 5) (v := .ref qr0) (C := RX5) (T := TX5) (N := 11) hx hb hts hi_RX5 hown hK hP 0 rfl rfl 2 (by decide) (hts (.fieldLink RX5 19 "TravelMarks" "trial" "LTravelMarks$Port;") (List.mem_of_getElem? (i := 1) rfl)) (fun _ h9 => h9) rfl dX5_inkFor_45 ?_
            refine lv_iload_n hx hb dX5_inkFor_48 rfl (lv_at hl 2 rfl) ?_
            refine lv_iload_n hx hb dX5_inkFor_49 rfl (lv_at hl 3 rfl) ?_
            refine lv_iload_n hx hb dX5_inkFor_50 rfl (lv_at hl 4 rfl) ?_
            obtain ⟨r10, v11, h12, hf⟩ := ob2_e hf
            refine kci (Wx := (oTM q0 qn0 qk0 qr0 qc0 qt0 qd0 qs0 qf0 qw0 rowCount anyKept (oPort C qn0 qn1 qn2 qn3 qn4 qn5 qn6 now (oPort C qr0 qr1 qr2 qr3 qr4 qr5 qr6 v11 [])))) (va_runV (As := [.int x0, .int x1, .int x2]) (rest := []) ⟨hx, hb, hml, hown, hts⟩ (c_X1_hoursUntilOn l E D C qr0 qr1 qr2 qr3 qr4 qr5 qr6 H.size N v9 x0 x1 x2 r10 v11 h12) (cwV 3 hts gX5_inkFor_X1_hoursUntilOn rfl rfl rfl hdX1_hoursUntilOn ⟨Nat.le_of_ble_eq_true rfl, Nat.le_of_ble_eq_true rfl⟩) (kpreV hP hD hK hS hE hA [8, 9, 10, 11, 12, 13, 14] rfl rfl 8 rfl rfl rfl) rfl rfl hl.1 rfl (lv_room (Nat.le_of_ble_eq_true rfl)) dX5_inkFor_51 ⟨Nat.zero_le _, Nat.zero_le _⟩) hP hD hS hA [8, 9, 10, 11, 12, 13, 14] rfl rfl rfl (fun H locs hP hD hS => ?_)
            refine lv_if_lt (tgt := 60) hx hb dX5_inkFor_54 (by decide) (fun c13 => ?_) (fun c13 => ?_)
            · replace hf := if_te c13 hf
              obtain ⟨t14, et14, hf⟩ := lj_e hf
              refine lv_iinc (v := t14) (lv' := [(4, .int t14), (0, .ref q0), (1, .int x0), (2, .int x1), (3, .int x2)]) hx hb dX5_inkFor_60 hl (k := 0) rfl (by rw [et14]; rfl) (by decide) rfl (fun ls hl => ?_)
              refine lv_goto (tgt := 15) hx hb dX5_inkFor_63 (by decide) ?_
              exact ih t14 v11 H locs ls hP hD hS (lv_sub hl [0, 1, 2, 3, 4] rfl) hf
            · replace hf := if_fe c13 hf
              refine lv_iload hx hb dX5_inkFor_57 (lv_at hl 0 rfl) ?_
              cases hf
              exact kri hQ hAe hx hb hr hlocks hP hD hK hS dX5_inkFor_59
      exact hL15 N 0 trial H locs ls hP hD hS (lv_sub hl [0, 1, 2, 3, 4] rfl) hf
    · replace hf := if_te c2 hf
      refine lv_iconst (v := (-1)) hx hb dX5_inkFor_10 rfl ?_
      cases hf
      exact kri hQ hAe hx hb hr hlocks hP hD hK hS dX5_inkFor_11
  exact main _ _ hP hD hS

def rmX5_hoursByTouch : Room := { frames := 5, cells := 0, slots := 0, locals := 115 }
theorem hdX5_hoursByTouch : yX5_hoursByTouch.cls = RX5 ∧ yX5_hoursByTouch.cls ≠ "java/lang/invoke/MethodHandle" ∧ yX5_hoursByTouch.cls ≠ "java/lang/invoke/VarHandle" ∧ (parseMethodDescriptor yX5_hoursByTouch.desc).map (fun d => d.parameters.length) = some 6 := by decide +kernel
set_option maxHeartbeats 40000000 in
set_option maxRecDepth 100000 in
theorem c_X5_hoursByTouch (l : Launch) (E : Nat → Nat) (D : va_G) (C : Nat → ClassId) (q0 qn0 qk0 qr0 qc0 qt0 qd0 qs0 qf0 qw0 qn1 qn2 qn3 qn4 qn5 qn6 qr1 qr2 qr3 qr4 qr5 qr6 : Nat) (sz : Nat) (N : Nat) (rowCount : Int32) (anyKept : Int32) (now : PV) (trial : PV) (x0 : Int32) (x1 : Int32) (x2 : Int32) (x3 : Int32) (x4 : Int32) (x5 : Int32) (r : Int32) (trial' : PV) (hf : f_X5_hoursByTouch N now trial x0 x1 x2 x3 x4 x5 = some (r, trial')) : Met l yX5_hoursByTouch wsX5_hoursByTouch rmX5_hoursByTouch (PC E D C [.ref q0, .int x0, .int x1, .int x2, .int x3, .int x4, .int x5] (oTM q0 qn0 qk0 qr0 qc0 qt0 qd0 qs0 qf0 qw0 rowCount anyKept (oPort C qn0 qn1 qn2 qn3 qn4 qn5 qn6 now (oPort C qr0 qr1 qr2 qr3 qr4 qr5 qr6 trial []))) sz) (QI D C (oTM q0 qn0 qk0 qr0 qc0 qt0 qd0 qs0 qf0 qw0 rowCount anyKept (oPort C qn0 qn1 qn2 qn3 qn4 qn5 qn6 now (oPort C qr0 qr1 qr2 qr3 qr4 qr5 qr6 trial []))) (oTM q0 qn0 qk0 qr0 qc0 qt0 qd0 qs0 qf0 qw0 rowCount anyKept (oPort C qn0 qn1 qn2 qn3 qn4 qn5 qn6 now (oPort C qr0 qr1 qr2 qr3 qr4 qr5 qr6 (trial') []))) sz r) 0 0 (va_A (oTM q0 qn0 qk0 qr0 qc0 qt0 qd0 qs0 qf0 qw0 rowCount anyKept (oPort C qn0 qn1 qn2 qn3 qn4 qn5 qn6 now (oPort C qr0 qr1 qr2 qr3 qr4 qr5 qr6 trial []))) sz) := by
  refine Met.ofW (cc := cX5_hoursByTouch) (maxL := 7) (ret := (some .int)) (by decide) rfl ?_
  intro p e s m args below meth c s₁ B hml hv
  obtain ⟨rfl, hsz, hP, hK, hD0, hE⟩ := hv
  have hx := B.exec
  have hb := B.bytes
  have hr := B.returns
  have hts := atoms_spec (ws := wsX5_hoursByTouch) B.pre
  have hown : s.vm.findClass RX5 = some m.cls := findClass_of_methodNamed B.named
  have hlocks := B.notSynchronized
  subst hsz
  have hi_RX5 : ∀ w ∈ wsX50, w ∈ wsX5_hoursByTouch := fun _ h => List.mem_cons_of_mem _ (List.mem_append_left _ (List.mem_append_right _ h))
  have hD := hD0.self (sz := s.heap.size)
  obtain ⟨A, hAe⟩ := nm_ex (va_A (oTM q0 qn0 qk0 qr0 qc0 qt0 qd0 qs0 qf0 qw0 rowCount anyKept (oPort C qn0 qn1 qn2 qn3 qn4 qn5 qn6 now (oPort C qr0 qr1 qr2 qr3 qr4 qr5 qr6 trial []))) s.heap.size)
  rw [← hAe] at hD hE ⊢
  have hA : ∀ q : Nat, s.heap.size ≤ q → A q := fun q h => by rw [hAe]; exact Or.inr h
  have hS : va_S A s.heap s.heap [] := va_S.rf
  have hl := lv_entry ([.ref q0, .int x0, .int x1, .int x2, .int x3, .int x4, .int x5]) (n := 7) (Nat.le_of_ble_eq_true rfl)
  rw [lg_entry_eq]
  generalize (lg_sl ([.ref q0, .int x0, .int x1, .int x2, .int x3, .int x4, .int x5]) ++ List.replicate (7 - (lg_sl ([.ref q0, .int x0, .int x1, .int x2, .int x3, .int x4, .int x5])).length) Slot.unset).toArray = ls at hl ⊢
  have hl : lv_has ls 7 [(0, .ref q0), (1, .int x0), (2, .int x1), (3, .int x2), (4, .int x3), (5, .int x4), (6, .int x5)] := hl
  obtain ⟨Q, hQ⟩ := nm_ex (MQ below (QI D C (oTM q0 qn0 qk0 qr0 qc0 qt0 qd0 qs0 qf0 qw0 rowCount anyKept (oPort C qn0 qn1 qn2 qn3 qn4 qn5 qn6 now (oPort C qr0 qr1 qr2 qr3 qr4 qr5 qr6 trial []))) (oTM q0 qn0 qk0 qr0 qc0 qt0 qd0 qs0 qf0 qw0 rowCount anyKept (oPort C qn0 qn1 qn2 qn3 qn4 qn5 qn6 now (oPort C qr0 qr1 qr2 qr3 qr4 qr5 qr6 (trial') []))) s.heap.size r) (List.toArray [Value.ref q0, Value.int x0, Value.int x1, Value.int x2, Value.int x3, Value.int x4, Value.int x5]) s 0 0 A)
  show W p l e (headSpec wsX5_hoursByTouch (rmX5_hoursByTouch)).room s m (List.toArray [Value.ref q0, Value.int x0, Value.int x1, Value.int x2, Value.int x3, Value.int x4, Value.int x5]) below meth c s.heap [] 0 0 (MQ below (QI D C (oTM q0 qn0 qk0 qr0 qc0 qt0 qd0 qs0 qf0 qw0 rowCount anyKept (oPort C qn0 qn1 qn2 qn3 qn4 qn5 qn6 now (oPort C qr0 qr1 qr2 qr3 qr4 qr5 qr6 trial []))) (oTM q0 qn0 qk0 qr0 qc0 qt0 qd0 qs0 qf0 qw0 rowCount anyKept (oPort C qn0 qn1 qn2 qn3 qn4 qn5 qn6 now (oPort C qr0 qr1 qr2 qr3 qr4 qr5 qr6 (trial') []))) s.heap.size r) (List.toArray [Value.ref q0, Value.int x0, Value.int x1, Value.int x2, Value.int x3, Value.int x4, Value.int x5]) s 0 0 A) _
  rw [← hQ]
  unfold f_X5_hoursByTouch at hf
  have main : ∀ (H : Heap) (locs : List Loc), va_P D vwCl (oTM q0 qn0 qk0 qr0 qc0 qt0 qd0 qs0 qf0 qw0 rowCount anyKept (oPort C qn0 qn1 qn2 qn3 qn4 qn5 qn6 now (oPort C qr0 qr1 qr2 qr3 qr4 qr5 qr6 trial []))) H → va_D A (oTM q0 qn0 qk0 qr0 qc0 qt0 qd0 qs0 qf0 qw0 rowCount anyKept (oPort C qn0 qn1 qn2 qn3 qn4 qn5 qn6 now (oPort C qr0 qr1 qr2 qr3 qr4 qr5 qr6 trial []))) → va_S A s.heap H locs → W p l e (headSpec wsX5_hoursByTouch (rmX5_hoursByTouch)).room s m (List.toArray [Value.ref q0, Value.int x0, Value.int x1, Value.int x2, Value.int x3, Value.int x4, Value.int x5]) below meth c H locs 0 0 Q (F0 m 0 ls []) := by
    intro H locs hP hD hS
    refine lv_aload_n hx hb dX5_hoursByTouch_0 rfl (lv_at hl 0 rfl) ?_
    refine va_get (D := D) (ci := 5) (v := .ref qr0) (C := RX5) (T := TX5) (N := 11) hx hb hts hi_RX5 hown hK hP 0 rfl rfl 2 (by decide) (hts (.fieldLink RX5 19 "TravelMarks" "trial" "LTravelMarks$Port;") (List.mem_of_getElem? (i := 1) rfl)) (fun _ h9 => h9) rfl dX5_hoursByTouch_1 ?_
    refine lv_aload_n hx hb dX5_hoursByTouch_4 rfl (lv_at hl 0 rfl) ?_
    refine va_get (D := D) (ci := 5) (v := .ref qn0) (C := RX5) (T := TX5) (N := 11) hx hb hts hi_RX5 hown hK hP 0 rfl rfl 0 (by decide) (hts (.fieldLink RX5 10 "TravelMarks" "now" "LTravelMarks$Port;") (List.mem_of_getElem? (i := 2) rfl)) (fun _ h9 => h9) rfl dX5_hoursByTouch_5 ?_
    obtain ⟨v1, h2, hf⟩ := ob1_e hf
    refine kcv (Wx := (oTM q0 qn0 qk0 qr0 qc0 qt0 qd0 qs0 qf0 qw0 rowCount anyKept (oPort C qn0 qn1 qn2 qn3 qn4 qn5 qn6 now (oPort C qr0 qr1 qr2 qr3 qr4 qr5 qr6 v1 [])))) (va_runV (As := [.ref qn0]) (rest := []) ⟨hx, hb, hml, hown, hts⟩ (c_X1_become l E D C qr0 qr1 qr2 qr3 qr4 qr5 qr6 qn0 qn1 qn2 qn3 qn4 qn5 qn6 H.size trial now v1 h2) (cwV 1 hts gX5_hoursByTouch_X1_become rfl rfl rfl hdX1_become ⟨Nat.le_of_ble_eq_true rfl, Nat.le_of_ble_eq_true rfl⟩) (kpreV hP hD hK hS hE hA [8, 9, 10, 11, 12, 13, 14, 1, 2, 3, 4, 5, 6, 7] rfl rfl 8 rfl rfl rfl) rfl rfl hl.1 rfl (lv_room (Nat.le_of_ble_eq_true rfl)) dX5_hoursByTouch_8 ⟨Nat.zero_le _, Nat.zero_le _⟩) hP hD hS hA [8, 9, 10, 11, 12, 13, 14, 1, 2, 3, 4, 5, 6, 7] rfl rfl rfl (fun H locs hP hD hS => ?_)
    refine lv_aload_n hx hb dX5_hoursByTouch_11 rfl (lv_at hl 0 rfl) ?_
    refine va_get (D := D) (ci := 5) (v := .ref qr0) (C := RX5) (T := TX5) (N := 11) hx hb hts hi_RX5 hown hK hP 0 rfl rfl 2 (by decide) (hts (.fieldLink RX5 19 "TravelMarks" "trial" "LTravelMarks$Port;") (List.mem_of_getElem? (i := 1) rfl)) (fun _ h9 => h9) rfl dX5_hoursByTouch_12 ?_
    refine lv_iload hx hb dX5_hoursByTouch_15 (lv_at hl 4 rfl) ?_
    refine lv_iload hx hb dX5_hoursByTouch_17 (lv_at hl 5 rfl) ?_
    refine lv_iload hx hb dX5_hoursByTouch_19 (lv_at hl 6 rfl) ?_
    obtain ⟨v3, h4, hf⟩ := ob1_e hf
    refine kcv (Wx := (oTM q0 qn0 qk0 qr0 qc0 qt0 qd0 qs0 qf0 qw0 rowCount anyKept (oPort C qn0 qn1 qn2 qn3 qn4 qn5 qn6 now (oPort C qr0 qr1 qr2 qr3 qr4 qr5 qr6 v3 [])))) (va_runV (As := [.int x3, .int x4, .int x5]) (rest := []) ⟨hx, hb, hml, hown, hts⟩ (c_X1_join l E D C qr0 qr1 qr2 qr3 qr4 qr5 qr6 H.size v1 x3 x4 x5 v3 h4) (cwV 3 hts gX5_hoursByTouch_X1_join rfl rfl rfl hdX1_join ⟨Nat.le_of_ble_eq_true rfl, Nat.le_of_ble_eq_true rfl⟩) (kpreV hP hD hK hS hE hA [8, 9, 10, 11, 12, 13, 14] rfl rfl 8 rfl rfl rfl) rfl rfl hl.1 rfl (lv_room (Nat.le_of_ble_eq_true rfl)) dX5_hoursByTouch_21 ⟨Nat.zero_le _, Nat.zero_le _⟩) hP hD hS hA [8, 9, 10, 11, 12, 13, 14] rfl rfl rfl (fun H locs hP hD hS => ?_)
    refine lv_aload_n hx hb dX5_hoursByTouch_24 rfl (lv_at hl 0 rfl) ?_
    refine va_get (D := D) (ci := 5) (v := .ref qr0) (C := RX5) (T := TX5) (N := 11) hx hb hts hi_RX5 hown hK hP 0 rfl rfl 2 (by decide) (hts (.fieldLink RX5 19 "TravelMarks" "trial" "LTravelMarks$Port;") (List.mem_of_getElem? (i := 1) rfl)) (fun _ h9 => h9) rfl dX5_hoursByTouch_25 ?_
    refine lv_iload_n hx hb dX5_hoursByTouch_28 rfl (lv_at hl 1 rfl) ?_
    refine lv_iload_n hx hb dX5_hoursByTouch_29 rfl (lv_at hl 2 rfl) ?_
    refine lv_iload_n hx hb dX5_hoursByTouch_30 rfl (lv_at hl 3 rfl) ?_
    obtain ⟨r5, v6, h7, hf⟩ := ob2_e hf
    refine kci (Wx := (oTM q0 qn0 qk0 qr0 qc0 qt0 qd0 qs0 qf0 qw0 rowCount anyKept (oPort C qn0 qn1 qn2 qn3 qn4 qn5 qn6 now (oPort C qr0 qr1 qr2 qr3 qr4 qr5 qr6 v6 [])))) (va_runV (As := [.int x0, .int x1, .int x2]) (rest := []) ⟨hx, hb, hml, hown, hts⟩ (c_X1_hoursUntilOn l E D C qr0 qr1 qr2 qr3 qr4 qr5 qr6 H.size N v3 x0 x1 x2 r5 v6 h7) (cwV 3 hts gX5_hoursByTouch_X1_hoursUntilOn rfl rfl rfl hdX1_hoursUntilOn ⟨Nat.le_of_ble_eq_true rfl, Nat.le_of_ble_eq_true rfl⟩) (kpreV hP hD hK hS hE hA [8, 9, 10, 11, 12, 13, 14] rfl rfl 8 rfl rfl rfl) rfl rfl hl.1 rfl (lv_room (Nat.le_of_ble_eq_true rfl)) dX5_hoursByTouch_31 ⟨Nat.zero_le _, Nat.zero_le _⟩) hP hD hS hA [8, 9, 10, 11, 12, 13, 14] rfl rfl rfl (fun H locs hP hD hS => ?_)
    cases hf
    exact kri hQ hAe hx hb hr hlocks hP hD hK hS dX5_hoursByTouch_34
  exact main _ _ hP hD hS

def rmX5_touchFor : Room := { frames := 6, cells := 0, slots := 0, locals := 141 }
theorem hdX5_touchFor : yX5_touchFor.cls = RX5 ∧ yX5_touchFor.cls ≠ "java/lang/invoke/MethodHandle" ∧ yX5_touchFor.cls ≠ "java/lang/invoke/VarHandle" ∧ (parseMethodDescriptor yX5_touchFor.desc).map (fun d => d.parameters.length) = some 3 := by decide +kernel
set_option maxHeartbeats 40000000 in
set_option maxRecDepth 100000 in
theorem c_X5_touchFor (l : Launch) (E : Nat → Nat) (D : va_G) (C : Nat → ClassId) (q0 qn0 qk0 qr0 qc0 qt0 qd0 qs0 qf0 qw0 qn1 qn2 qn3 qn4 qn5 qn6 qr1 qr2 qr3 qr4 qr5 qr6 : Nat) (sz : Nat) (N : Nat) (rowCount : Int32) (anyKept : Int32) (now : PV) (trial : PV) (x0 : Int32) (x1 : Int32) (x2 : Int32) (r : Int32) (trial' : PV) (hf : f_X5_touchFor N now trial x0 x1 x2 = some (r, trial')) : Met l yX5_touchFor wsX5_touchFor rmX5_touchFor (PC E D C [.ref q0, .int x0, .int x1, .int x2] (oTM q0 qn0 qk0 qr0 qc0 qt0 qd0 qs0 qf0 qw0 rowCount anyKept (oPort C qn0 qn1 qn2 qn3 qn4 qn5 qn6 now (oPort C qr0 qr1 qr2 qr3 qr4 qr5 qr6 trial []))) sz) (QI D C (oTM q0 qn0 qk0 qr0 qc0 qt0 qd0 qs0 qf0 qw0 rowCount anyKept (oPort C qn0 qn1 qn2 qn3 qn4 qn5 qn6 now (oPort C qr0 qr1 qr2 qr3 qr4 qr5 qr6 trial []))) (oTM q0 qn0 qk0 qr0 qc0 qt0 qd0 qs0 qf0 qw0 rowCount anyKept (oPort C qn0 qn1 qn2 qn3 qn4 qn5 qn6 now (oPort C qr0 qr1 qr2 qr3 qr4 qr5 qr6 (trial') []))) sz r) 0 0 (va_A (oTM q0 qn0 qk0 qr0 qc0 qt0 qd0 qs0 qf0 qw0 rowCount anyKept (oPort C qn0 qn1 qn2 qn3 qn4 qn5 qn6 now (oPort C qr0 qr1 qr2 qr3 qr4 qr5 qr6 trial []))) sz) := by
  refine Met.ofW (cc := cX5_touchFor) (maxL := 12) (ret := (some .int)) (by decide) rfl ?_
  intro p e s m args below meth c s₁ B hml hv
  obtain ⟨rfl, hsz, hP, hK, hD0, hE⟩ := hv
  have hx := B.exec
  have hb := B.bytes
  have hr := B.returns
  have hts := atoms_spec (ws := wsX5_touchFor) B.pre
  have hown : s.vm.findClass RX5 = some m.cls := findClass_of_methodNamed B.named
  have hlocks := B.notSynchronized
  subst hsz
  have hi_RX5 : ∀ w ∈ wsX50, w ∈ wsX5_touchFor := fun _ h => List.mem_cons_of_mem _ (List.mem_append_left _ (List.mem_append_right _ h))
  have hD := hD0.self (sz := s.heap.size)
  obtain ⟨A, hAe⟩ := nm_ex (va_A (oTM q0 qn0 qk0 qr0 qc0 qt0 qd0 qs0 qf0 qw0 rowCount anyKept (oPort C qn0 qn1 qn2 qn3 qn4 qn5 qn6 now (oPort C qr0 qr1 qr2 qr3 qr4 qr5 qr6 trial []))) s.heap.size)
  rw [← hAe] at hD hE ⊢
  have hA : ∀ q : Nat, s.heap.size ≤ q → A q := fun q h => by rw [hAe]; exact Or.inr h
  have hS : va_S A s.heap s.heap [] := va_S.rf
  have hl := lv_entry ([.ref q0, .int x0, .int x1, .int x2]) (n := 12) (Nat.le_of_ble_eq_true rfl)
  rw [lg_entry_eq]
  generalize (lg_sl ([.ref q0, .int x0, .int x1, .int x2]) ++ List.replicate (12 - (lg_sl ([.ref q0, .int x0, .int x1, .int x2])).length) Slot.unset).toArray = ls at hl ⊢
  have hl : lv_has ls 12 [(0, .ref q0), (1, .int x0), (2, .int x1), (3, .int x2)] := hl
  obtain ⟨Q, hQ⟩ := nm_ex (MQ below (QI D C (oTM q0 qn0 qk0 qr0 qc0 qt0 qd0 qs0 qf0 qw0 rowCount anyKept (oPort C qn0 qn1 qn2 qn3 qn4 qn5 qn6 now (oPort C qr0 qr1 qr2 qr3 qr4 qr5 qr6 trial []))) (oTM q0 qn0 qk0 qr0 qc0 qt0 qd0 qs0 qf0 qw0 rowCount anyKept (oPort C qn0 qn1 qn2 qn3 qn4 qn5 qn6 now (oPort C qr0 qr1 qr2 qr3 qr4 qr5 qr6 (trial') []))) s.heap.size r) (List.toArray [Value.ref q0, Value.int x0, Value.int x1, Value.int x2]) s 0 0 A)
  show W p l e (headSpec wsX5_touchFor (rmX5_touchFor)).room s m (List.toArray [Value.ref q0, Value.int x0, Value.int x1, Value.int x2]) below meth c s.heap [] 0 0 (MQ below (QI D C (oTM q0 qn0 qk0 qr0 qc0 qt0 qd0 qs0 qf0 qw0 rowCount anyKept (oPort C qn0 qn1 qn2 qn3 qn4 qn5 qn6 now (oPort C qr0 qr1 qr2 qr3 qr4 qr5 qr6 trial []))) (oTM q0 qn0 qk0 qr0 qc0 qt0 qd0 qs0 qf0 qw0 rowCount anyKept (oPort C qn0 qn1 qn2 qn3 qn4 qn5 qn6 now (oPort C qr0 qr1 qr2 qr3 qr4 qr5 qr6 (trial') []))) s.heap.size r) (List.toArray [Value.ref q0, Value.int x0, Value.int x1, Value.int x2]) s 0 0 A) _
  rw [← hQ]
  unfold f_X5_touchFor at hf
  have main : ∀ (H : Heap) (locs : List Loc), va_P D vwCl (oTM q0 qn0 qk0 qr0 qc0 qt0 qd0 qs0 qf0 qw0 rowCount anyKept (oPort C qn0 qn1 qn2 qn3 qn4 qn5 qn6 now (oPort C qr0 qr1 qr2 qr3 qr4 qr5 qr6 trial []))) H → va_D A (oTM q0 qn0 qk0 qr0 qc0 qt0 qd0 qs0 qf0 qw0 rowCount anyKept (oPort C qn0 qn1 qn2 qn3 qn4 qn5 qn6 now (oPort C qr0 qr1 qr2 qr3 qr4 qr5 qr6 trial []))) → va_S A s.heap H locs → W p l e (headSpec wsX5_touchFor (rmX5_touchFor)).room s m (List.toArray [Value.ref q0, Value.int x0, Value.int x1, Value.int x2]) below meth c H locs 0 0 Q (F0 m 0 ls []) := by
    intro H locs hP hD hS
    refine lv_aload_n hx hb dX5_touchFor_0 rfl (lv_at hl 0 rfl) ?_
    refine lv_iload_n hx hb dX5_touchFor_1 rfl (lv_at hl 1 rfl) ?_
    refine lv_iload_n hx hb dX5_touchFor_2 rfl (lv_at hl 2 rfl) ?_
    refine lv_iload_n hx hb dX5_touchFor_3 rfl (lv_at hl 3 rfl) ?_
    refine kcz (Wx := (oTM q0 qn0 qk0 qr0 qc0 qt0 qd0 qs0 qf0 qw0 rowCount anyKept (oPort C qn0 qn1 qn2 qn3 qn4 qn5 qn6 now (oPort C qr0 qr1 qr2 qr3 qr4 qr5 qr6 trial [])))) (va_runV (As := [.int x0, .int x1, .int x2]) (rest := []) ⟨hx, hb, hml, hown, hts⟩ (c_X5_isWish l E D C q0 qn0 qk0 qr0 qc0 qt0 qd0 qs0 qf0 qw0 qn1 qn2 qn3 qn4 qn5 qn6 H.size rowCount anyKept now x0 x1 x2 _ rfl) (cwV 3 hts gX5_touchFor_X5_isWish rfl rfl rfl hdX5_isWish ⟨Nat.le_of_ble_eq_true rfl, Nat.le_of_ble_eq_true rfl⟩) (kpreV hP hD hK hS hE hA [0, 1, 2, 3, 4, 5, 6, 7] rfl rfl 0 rfl rfl rfl) rfl rfl hl.1 rfl (lv_room (Nat.le_of_ble_eq_true rfl)) dX5_touchFor_4 ⟨Nat.zero_le _, Nat.zero_le _⟩) hP hD hS hA [0, 1, 2, 3, 4, 5, 6, 7] rfl rfl rfl (fun H locs hz1 hP hD hS => ?_)
    refine lv_if_ne (tgt := 12) hx hb dX5_touchFor_7 (by decide) (fun c2 => ?_) (fun c2 => ?_)
    · replace hf := if_fe c2 hf
      refine lv_aload_n hx hb dX5_touchFor_12 rfl (lv_at hl 0 rfl) ?_
      refine va_get (D := D) (ci := 5) (v := .ref qr0) (C := RX5) (T := TX5) (N := 11) hx hb hts hi_RX5 hown hK hP 0 rfl rfl 2 (by decide) (hts (.fieldLink RX5 19 "TravelMarks" "trial" "LTravelMarks$Port;") (List.mem_of_getElem? (i := 1) rfl)) (fun _ h9 => h9) rfl dX5_touchFor_13 ?_
      refine lv_aload_n hx hb dX5_touchFor_16 rfl (lv_at hl 0 rfl) ?_
      refine va_get (D := D) (ci := 5) (v := .ref qn0) (C := RX5) (T := TX5) (N := 11) hx hb hts hi_RX5 hown hK hP 0 rfl rfl 0 (by decide) (hts (.fieldLink RX5 10 "TravelMarks" "now" "LTravelMarks$Port;") (List.mem_of_getElem? (i := 2) rfl)) (fun _ h9 => h9) rfl dX5_touchFor_17 ?_
      obtain ⟨v3, h4, hf⟩ := ob1_e hf
      refine kcv (Wx := (oTM q0 qn0 qk0 qr0 qc0 qt0 qd0 qs0 qf0 qw0 rowCount anyKept (oPort C qn0 qn1 qn2 qn3 qn4 qn5 qn6 now (oPort C qr0 qr1 qr2 qr3 qr4 qr5 qr6 v3 [])))) (va_runV (As := [.ref qn0]) (rest := []) ⟨hx, hb, hml, hown, hts⟩ (c_X1_become l E D C qr0 qr1 qr2 qr3 qr4 qr5 qr6 qn0 qn1 qn2 qn3 qn4 qn5 qn6 H.size trial now v3 h4) (cwV 1 hts gX5_touchFor_X1_become rfl rfl rfl hdX1_become ⟨Nat.le_of_ble_eq_true rfl, Nat.le_of_ble_eq_true rfl⟩) (kpreV hP hD hK hS hE hA [8, 9, 10, 11, 12, 13, 14, 1, 2, 3, 4, 5, 6, 7] rfl rfl 8 rfl rfl rfl) rfl rfl hl.1 rfl (lv_room (Nat.le_of_ble_eq_true rfl)) dX5_touchFor_20 ⟨Nat.zero_le _, Nat.zero_le _⟩) hP hD hS hA [8, 9, 10, 11, 12, 13, 14, 1, 2, 3, 4, 5, 6, 7] rfl rfl rfl (fun H locs hP hD hS => ?_)
      refine lv_aload_n hx hb dX5_touchFor_23 rfl (lv_at hl 0 rfl) ?_
      refine va_get (D := D) (ci := 5) (v := .ref qr0) (C := RX5) (T := TX5) (N := 11) hx hb hts hi_RX5 hown hK hP 0 rfl rfl 2 (by decide) (hts (.fieldLink RX5 19 "TravelMarks" "trial" "LTravelMarks$Port;") (List.mem_of_getElem? (i := 1) rfl)) (fun _ h9 => h9) rfl dX5_touchFor_24 ?_
      refine lv_iload_n hx hb dX5_touchFor_27 rfl (lv_at hl 1 rfl) ?_
      refine lv_iload_n hx hb dX5_touchFor_28 rfl (lv_at hl 2 rfl) ?_
      refine lv_iload_n hx hb dX5_touchFor_29 rfl (lv_at hl 3 rfl) ?_
      obtain ⟨r5, v6, h7, hf⟩ := ob2_e hf
      refine kci (Wx := (oTM q0 qn0 qk0 qr0 qc0 qt0 qd0 qs0 qf0 qw0 rowCount anyKept (oPort C qn0 qn1 qn2 qn3 qn4 qn5 qn6 now (oPort C qr0 qr1 qr2 qr3 qr4 qr5 qr6 v6 [])))) (va_runV (As := [.int x0, .int x1, .int x2]) (rest := []) ⟨hx, hb, hml, hown, hts⟩ (c_X1_hoursUntilOn l E D C qr0 qr1 qr2 qr3 qr4 qr5 qr6 H.size N v3 x0 x1 x2 r5 v6 h7) (cwV 3 hts gX5_touchFor_X1_hoursUntilOn rfl rfl rfl hdX1_hoursUntilOn ⟨Nat.le_of_ble_eq_true rfl, Nat.le_of_ble_eq_true rfl⟩) (kpreV hP hD hK hS hE hA [8, 9, 10, 11, 12, 13, 14] rfl rfl 8 rfl rfl rfl) rfl rfl hl.1 rfl (lv_room (Nat.le_of_ble_eq_true rfl)) dX5_touchFor_30 ⟨Nat.zero_le _, Nat.zero_le _⟩) hP hD hS hA [8, 9, 10, 11, 12, 13, 14] rfl rfl rfl (fun H locs hP hD hS => ?_)
      refine lv_istore (lv' := [(4, .int r5), (0, .ref q0), (1, .int x0), (2, .int x1), (3, .int x2)]) hx hb dX5_touchFor_33 hl (by decide) rfl (fun ls hl => ?_)
      refine lv_iload hx hb dX5_touchFor_35 (lv_at hl 0 rfl) ?_
      obtain ⟨j9, hj9, hf⟩ := lj_e hf
      have Hj9 : ∀ (k8 : Int32) (H : Heap) (locs : List Loc) (ls : Array Slot), va_P D vwCl (oTM q0 qn0 qk0 qr0 qc0 qt0 qd0 qs0 qf0 qw0 rowCount anyKept (oPort C qn0 qn1 qn2 qn3 qn4 qn5 qn6 now (oPort C qr0 qr1 qr2 qr3 qr4 qr5 qr6 v6 []))) H → va_D A (oTM q0 qn0 qk0 qr0 qc0 qt0 qd0 qs0 qf0 qw0 rowCount anyKept (oPort C qn0 qn1 qn2 qn3 qn4 qn5 qn6 now (oPort C qr0 qr1 qr2 qr3 qr4 qr5 qr6 v6 []))) → va_S A s.heap H locs → lv_has ls 12 [(0, .ref q0), (1, .int x0), (2, .int x1)] → j9 k8 = some (r, trial') → W p l e (headSpec wsX5_touchFor (rmX5_touchFor)).room s m (List.toArray [Value.ref q0, Value.int x0, Value.int x1, Value.int x2]) below meth c H locs 0 0 Q (F0 m 48 ls [.int k8]) := by
        intro k8 H locs ls hP hD hS hl hf
        rw [hj9] at hf
        refine lv_istore (lv' := [(5, .int k8), (0, .ref q0), (1, .int x0), (2, .int x1)]) hx hb dX5_touchFor_48 hl (by decide) rfl (fun ls hl => ?_)
        refine lv_bipush (v := (-3)) hx hb dX5_touchFor_50 rfl ?_
        refine lv_istore (lv' := [(6, .int (-3)), (5, .int k8), (0, .ref q0), (1, .int x0), (2, .int x1)]) hx hb dX5_touchFor_52 hl (by decide) rfl (fun ls hl => ?_)
        refine lv_iconst (v := 0) hx hb dX5_touchFor_54 rfl ?_
        refine lv_istore (lv' := [(7, .int 0), (6, .int (-3)), (5, .int k8), (0, .ref q0), (1, .int x0), (2, .int x1)]) hx hb dX5_touchFor_55 hl (by decide) rfl (fun ls hl => ?_)
        have hL57 : ∀ (n : Nat) (i10 : Int32) (i11 : Int32) (i12 : Int32) (v13 : PV) (H : Heap) (locs : List Loc) (ls : Array Slot), va_P D vwCl (oTM q0 qn0 qk0 qr0 qc0 qt0 qd0 qs0 qf0 qw0 rowCount anyKept (oPort C qn0 qn1 qn2 qn3 qn4 qn5 qn6 now (oPort C qr0 qr1 qr2 qr3 qr4 qr5 qr6 v13 []))) H → va_D A (oTM q0 qn0 qk0 qr0 qc0 qt0 qd0 qs0 qf0 qw0 rowCount anyKept (oPort C qn0 qn1 qn2 qn3 qn4 qn5 qn6 now (oPort C qr0 qr1 qr2 qr3 qr4 qr5 qr6 v13 []))) → va_S A s.heap H locs → lv_has ls 12 [(7, .int i10), (6, .int i11), (5, .int i12), (0, .ref q0), (1, .int x0), (2, .int x1)] → f_X5_touchFor_L57 N now x0 x1 n i10 i11 i12 v13 = some (r, trial') → W p l e (headSpec wsX5_touchFor (rmX5_touchFor)).room s m (List.toArray [Value.ref q0, Value.int x0, Value.int x1, Value.int x2]) below meth c H locs 0 0 Q (F0 m 57 ls []) := by
          intro n
          induction n with
          | zero =>
            intro i10 i11 i12 v13 H locs ls hP hD hS hl hf
            exact absurd hf (fun h => by cases h)
          | succ n ih =>
            intro i10 i11 i12 v13 H locs ls hP hD hS hl hf
            rw [f_X5_touchFor_L57] at hf
            refine lv_iload hx hb dX5_touchFor_57 (lv_at hl 0 rfl) ?_
            refine lv_bipush (v := 6) hx hb dX5_touchFor_59 rfl ?_
            refine lv_icmp_ge (tgt := 155) hx hb dX5_touchFor_61 (by decide) (fun c14 => ?_) (fun c14 => ?_)
            · replace hf := if_te c14 hf
              refine lv_iload hx hb dX5_touchFor_155 (lv_at hl 1 rfl) ?_
              cases hf
              exact kri hQ hAe hx hb hr hlocks hP hD hK hS dX5_touchFor_157
            · replace hf := if_fe c14 hf
              refine lv_iconst (v := 0) hx hb dX5_touchFor_64 rfl ?_
              refine lv_istore (lv' := [(8, .int 0), (7, .int i10), (6, .int i11), (5, .int i12), (0, .ref q0), (1, .int x0), (2, .int x1)]) hx hb dX5_touchFor_65 hl (by decide) rfl (fun ls hl => ?_)
              obtain ⟨j18, hj18, hf⟩ := lj_e hf
              have Hj18 : ∀ (i15 : Int32) (i16 : Int32) (v17 : PV) (H : Heap) (locs : List Loc) (ls : Array Slot), va_P D vwCl (oTM q0 qn0 qk0 qr0 qc0 qt0 qd0 qs0 qf0 qw0 rowCount anyKept (oPort C qn0 qn1 qn2 qn3 qn4 qn5 qn6 now (oPort C qr0 qr1 qr2 qr3 qr4 qr5 qr6 v17 []))) H → va_D A (oTM q0 qn0 qk0 qr0 qc0 qt0 qd0 qs0 qf0 qw0 rowCount anyKept (oPort C qn0 qn1 qn2 qn3 qn4 qn5 qn6 now (oPort C qr0 qr1 qr2 qr3 qr4 qr5 qr6 v17 []))) → va_S A s.heap H locs → lv_has ls 12 [(7, .int i10), (6, .int i15), (5, .int i16), (0, .ref q0), (1, .int x0), (2, .int x1)] → j18 i15 i16 v17 = some (r, trial') → W p l e (headSpec wsX5_touchFor (rmX5_touchFor)).room s m (List.toArray [Value.ref q0, Value.int x0, Value.int x1, Value.int x2]) below meth c H locs 0 0 Q (F0 m 149 ls []) := by
                intro i15 i16 v17 H locs ls hP hD hS hl hf
                rw [hj18] at hf
                obtain ⟨t19, et19, hf⟩ := lj_e hf
                refine lv_iinc (v := t19) (lv' := [(7, .int t19), (6, .int i15), (5, .int i16), (0, .ref q0), (1, .int x0), (2, .int x1)]) hx hb dX5_touchFor_149 hl (k := 0) rfl (by rw [et19]; rfl) (by decide) rfl (fun ls hl => ?_)
                refine lv_goto (tgt := 57) hx hb dX5_touchFor_152 (by decide) ?_
                exact ih t19 i15 i16 v17 H locs ls hP hD hS (lv_sub hl [0, 1, 2, 3, 4, 5] rfl) hf
              have hL67 : ∀ (n : Nat) (i20 : Int32) (i21 : Int32) (i22 : Int32) (v23 : PV) (H : Heap) (locs : List Loc) (ls : Array Slot), va_P D vwCl (oTM q0 qn0 qk0 qr0 qc0 qt0 qd0 qs0 qf0 qw0 rowCount anyKept (oPort C qn0 qn1 qn2 qn3 qn4 qn5 qn6 now (oPort C qr0 qr1 qr2 qr3 qr4 qr5 qr6 v23 []))) H → va_D A (oTM q0 qn0 qk0 qr0 qc0 qt0 qd0 qs0 qf0 qw0 rowCount anyKept (oPort C qn0 qn1 qn2 qn3 qn4 qn5 qn6 now (oPort C qr0 qr1 qr2 qr3 qr4 qr5 qr6 v23 []))) → va_S A s.heap H locs → lv_has ls 12 [(8, .int i20), (7, .int i10), (6, .int i21), (5, .int i22), (0, .ref q0), (1, .int x0), (2, .int x1)] → f_X5_touchFor_L67 N now x0 x1 i10 j18 n i20 i21 i22 v23 = some (r, trial') → W p l e (headSpec wsX5_touchFor (rmX5_touchFor)).room s m (List.toArray [Value.ref q0, Value.int x0, Value.int x1, Value.int x2]) below meth c H locs 0 0 Q (F0 m 67 ls []) := by
                intro n
                induction n with
                | zero =>
                  intro i20 i21 i22 v23 H locs ls hP hD hS hl hf
                  exact absurd hf (fun h => by cases h)
                | succ n ih =>
                  intro i20 i21 i22 v23 H locs ls hP hD hS hl hf
                  rw [f_X5_touchFor_L67] at hf
                  refine lv_iload hx hb dX5_touchFor_67 (lv_at hl 0 rfl) ?_
                  refine lv_bipush (v := 64) hx hb dX5_touchFor_69 rfl ?_
                  refine lv_icmp_ge (tgt := 149) hx hb dX5_touchFor_71 (by decide) (fun c24 => ?_) (fun c24 => ?_)
                  · replace hf := if_te c24 hf
                    exact Hj18 i21 i22 v23 H locs ls hP hD hS (lv_sub hl [1, 2, 3, 4, 5, 6] rfl) hf
                  · replace hf := if_fe c24 hf
                    refine lv_iload hx hb dX5_touchFor_74 (lv_at hl 0 rfl) ?_
                    refine lv_bipush (v := 8) hx hb dX5_touchFor_76 rfl ?_
                    refine lv_idiv hx hb dX5_touchFor_78 (by decide) ?_
                    obtain ⟨t25, et25, hf⟩ := lj_e hf
                    refine lv_ren et25 ?_
                    refine lv_istore (lv' := [(9, .int t25), (8, .int i20), (7, .int i10), (6, .int i21), (5, .int i22), (0, .ref q0), (1, .int x0), (2, .int x1)]) hx hb dX5_touchFor_79 hl (by decide) rfl (fun ls hl => ?_)
                    refine lv_iload hx hb dX5_touchFor_81 (lv_at hl 1 rfl) ?_
                    refine lv_bipush (v := 8) hx hb dX5_touchFor_83 rfl ?_
                    refine lv_irem hx hb dX5_touchFor_85 (by decide) ?_
                    obtain ⟨t26, et26, hf⟩ := lj_e hf
                    refine lv_ren et26 ?_
                    refine lv_istore (lv' := [(10, .int t26), (9, .int t25), (8, .int i20), (7, .int i10), (6, .int i21), (5, .int i22), (0, .ref q0), (1, .int x0), (2, .int x1)]) hx hb dX5_touchFor_86 hl (by decide) rfl (fun ls hl => ?_)
                    refine lv_iload hx hb dX5_touchFor_88 (lv_at hl 1 rfl) ?_
                    refine lv_iload hx hb dX5_touchFor_90 (lv_at hl 0 rfl) ?_
                    obtain ⟨j29, hj29, hf⟩ := lj_e hf
                    have Hj29 : ∀ (k27 : Int32) (v28 : PV) (H : Heap) (locs : List Loc) (ls : Array Slot), va_P D vwCl (oTM q0 qn0 qk0 qr0 qc0 qt0 qd0 qs0 qf0 qw0 rowCount anyKept (oPort C qn0 qn1 qn2 qn3 qn4 qn5 qn6 now (oPort C qr0 qr1 qr2 qr3 qr4 qr5 qr6 v28 []))) H → va_D A (oTM q0 qn0 qk0 qr0 qc0 qt0 qd0 qs0 qf0 qw0 rowCount anyKept (oPort C qn0 qn1 qn2 qn3 qn4 qn5 qn6 now (oPort C qr0 qr1 qr2 qr3 qr4 qr5 qr6 v28 []))) → va_S A s.heap H locs → lv_has ls 12 [(10, .int t26), (9, .int t25), (8, .int i20), (7, .int i10), (6, .int i21), (5, .int i22), (0, .ref q0), (1, .int x0), (2, .int x1)] → j29 k27 v28 = some (r, trial') → W p l e (headSpec wsX5_touchFor (rmX5_touchFor)).room s m (List.toArray [Value.ref q0, Value.int x0, Value.int x1, Value.int x2]) below meth c H locs 0 0 Q (F0 m 116 ls [.int k27]) := by
                      intro k27 v28 H locs ls hP hD hS hl hf
                      rw [hj29] at hf
                      refine lv_istore (lv' := [(11, .int k27), (10, .int t26), (9, .int t25), (8, .int i20), (7, .int i10), (6, .int i21), (5, .int i22), (0, .ref q0), (1, .int x0), (2, .int x1)]) hx hb dX5_touchFor_116 hl (by decide) rfl (fun ls hl => ?_)
                      refine lv_iload hx hb dX5_touchFor_118 (lv_at hl 0 rfl) ?_
                      obtain ⟨j32, hj32, hf⟩ := lj_e hf
                      have Hj32 : ∀ (i30 : Int32) (i31 : Int32) (H : Heap) (locs : List Loc) (ls : Array Slot), va_P D vwCl (oTM q0 qn0 qk0 qr0 qc0 qt0 qd0 qs0 qf0 qw0 rowCount anyKept (oPort C qn0 qn1 qn2 qn3 qn4 qn5 qn6 now (oPort C qr0 qr1 qr2 qr3 qr4 qr5 qr6 v28 []))) H → va_D A (oTM q0 qn0 qk0 qr0 qc0 qt0 qd0 qs0 qf0 qw0 rowCount anyKept (oPort C qn0 qn1 qn2 qn3 qn4 qn5 qn6 now (oPort C qr0 qr1 qr2 qr3 qr4 qr5 qr6 v28 []))) → va_S A s.heap H locs → lv_has ls 12 [(8, .int i20), (7, .int i10), (6, .int i30), (5, .int i31), (0, .ref q0), (1, .int x0), (2, .int x1)] → j32 i30 i31 = some (r, trial') → W p l e (headSpec wsX5_touchFor (rmX5_touchFor)).room s m (List.toArray [Value.ref q0, Value.int x0, Value.int x1, Value.int x2]) below meth c H locs 0 0 Q (F0 m 143 ls []) := by
                        intro i30 i31 H locs ls hP hD hS hl hf
                        rw [hj32] at hf
                        obtain ⟨t33, et33, hf⟩ := lj_e hf
                        refine lv_iinc (v := t33) (lv' := [(8, .int t33), (7, .int i10), (6, .int i30), (5, .int i31), (0, .ref q0), (1, .int x0), (2, .int x1)]) hx hb dX5_touchFor_143 hl (k := 0) rfl (by rw [et33]; rfl) (by decide) rfl (fun ls hl => ?_)
                        refine lv_goto (tgt := 67) hx hb dX5_touchFor_146 (by decide) ?_
                        exact ih t33 i30 i31 v28 H locs ls hP hD hS (lv_sub hl [0, 1, 2, 3, 4, 5, 6] rfl) hf
                      refine lv_if_lt (tgt := 143) hx hb dX5_touchFor_120 (by decide) (fun c34 => ?_) (fun c34 => ?_)
                      · replace hf := if_te c34 hf
                        exact Hj32 i21 i22 H locs ls hP hD hS (lv_sub hl [3, 4, 5, 6, 7, 8, 9] rfl) hf
                      · replace hf := if_fe c34 hf
                        refine lv_iload hx hb dX5_touchFor_123 (lv_at hl 4 rfl) ?_
                        refine lv_bipush (v := 100) hx hb dX5_touchFor_125 rfl ?_
                        refine lv_imul hx hb dX5_touchFor_127 ?_
                        refine lv_iload hx hb dX5_touchFor_128 (lv_at hl 2 rfl) ?_
                        refine lv_bipush (v := 10) hx hb dX5_touchFor_130 rfl ?_
                        refine lv_imul hx hb dX5_touchFor_132 ?_
                        refine lv_iadd hx hb dX5_touchFor_133 ?_
                        refine lv_iload hx hb dX5_touchFor_134 (lv_at hl 1 rfl) ?_
                        refine lv_iadd hx hb dX5_touchFor_136 ?_
                        obtain ⟨t35, et35, hf⟩ := lj_e hf
                        refine lv_ren et35 ?_
                        refine lv_istore (lv' := [(6, .int t35), (11, .int k27), (10, .int t26), (9, .int t25), (8, .int i20), (7, .int i10), (5, .int i22), (0, .ref q0), (1, .int x0), (2, .int x1)]) hx hb dX5_touchFor_137 hl (by decide) rfl (fun ls hl => ?_)
                        refine lv_iload hx hb dX5_touchFor_139 (lv_at hl 1 rfl) ?_
                        refine lv_istore (lv' := [(5, .int k27), (6, .int t35), (11, .int k27), (10, .int t26), (9, .int t25), (8, .int i20), (7, .int i10), (0, .ref q0), (1, .int x0), (2, .int x1)]) hx hb dX5_touchFor_141 hl (by decide) rfl (fun ls hl => ?_)
                        exact Hj32 t35 k27 H locs ls hP hD hS (lv_sub hl [5, 6, 1, 0, 7, 8, 9] rfl) hf
                    refine lv_icmp_ge (tgt := 114) hx hb dX5_touchFor_92 (by decide) (fun c36 => ?_) (fun c36 => ?_)
                    · replace hf := if_te c36 hf
                      refine lv_bipush (v := (-3)) hx hb dX5_touchFor_114 rfl ?_
                      exact Hj29 (-3) v23 H locs ls hP hD hS (lv_sub hl [0, 1, 2, 3, 4, 5, 6, 7, 8] rfl) hf
                    · replace hf := if_fe c36 hf
                      refine lv_aload_n hx hb dX5_touchFor_95 rfl (lv_at hl 6 rfl) ?_
                      refine lv_iload_n hx hb dX5_touchFor_96 rfl (lv_at hl 7 rfl) ?_
                      refine lv_iload_n hx hb dX5_touchFor_97 rfl (lv_at hl 8 rfl) ?_
                      refine lv_iload hx hb dX5_touchFor_98 (lv_at hl 5 rfl) ?_
                      refine lv_iconst (v := 1) hx hb dX5_touchFor_100 rfl ?_
                      refine lv_isub hx hb dX5_touchFor_101 ?_
                      refine lv_iload hx hb dX5_touchFor_102 (lv_at hl 3 rfl) ?_
                      refine lv_iload hx hb dX5_touchFor_104 (lv_at hl 1 rfl) ?_
                      refine lv_iload hx hb dX5_touchFor_106 (lv_at hl 0 rfl) ?_
                      obtain ⟨r37, v38, h39, hf⟩ := ob2_e hf
                      refine kci (Wx := (oTM q0 qn0 qk0 qr0 qc0 qt0 qd0 qs0 qf0 qw0 rowCount anyKept (oPort C qn0 qn1 qn2 qn3 qn4 qn5 qn6 now (oPort C qr0 qr1 qr2 qr3 qr4 qr5 qr6 v38 [])))) (va_runV (As := [.int x0, .int x1, .int (i22 - 1), .int i10, .int t25, .int t26]) (rest := []) ⟨hx, hb, hml, hown, hts⟩ (c_X5_hoursByTouch l E D C q0 qn0 qk0 qr0 qc0 qt0 qd0 qs0 qf0 qw0 qn1 qn2 qn3 qn4 qn5 qn6 qr1 qr2 qr3 qr4 qr5 qr6 H.size N rowCount anyKept now v23 x0 x1 (i22 - 1) i10 t25 t26 r37 v38 h39) (cwV 6 hts gX5_touchFor_X5_hoursByTouch rfl rfl rfl hdX5_hoursByTouch ⟨Nat.le_of_ble_eq_true rfl, Nat.le_of_ble_eq_true rfl⟩) (kpreV hP hD hK hS hE hA [0, 1, 2, 3, 4, 5, 6, 7, 8, 9, 10, 11, 12, 13, 14] rfl rfl 0 rfl rfl rfl) rfl rfl hl.1 rfl (lv_room (Nat.le_of_ble_eq_true rfl)) dX5_touchFor_108 ⟨Nat.zero_le _, Nat.zero_le _⟩) hP hD hS hA [0, 1, 2, 3, 4, 5, 6, 7, 8, 9, 10, 11, 12, 13, 14] rfl rfl rfl (fun H locs hP hD hS => ?_)
                      refine lv_goto (tgt := 116) hx hb dX5_touchFor_111 (by decide) ?_
                      exact Hj29 r37 v38 H locs ls hP hD hS (lv_sub hl [0, 1, 2, 3, 4, 5, 6, 7, 8] rfl) hf
              exact hL67 N 0 i11 i12 v13 H locs ls hP hD hS (lv_sub hl [0, 1, 2, 3, 4, 5, 6] rfl) hf
        exact hL57 N 0 (-3) k8 v6 H locs ls hP hD hS (lv_sub hl [0, 1, 2, 3, 4, 5] rfl) hf
      refine lv_if_lt (tgt := 45) hx hb dX5_touchFor_37 (by decide) (fun c40 => ?_) (fun c40 => ?_)
      · replace hf := if_te c40 hf
        refine lv_iload_n hx hb dX5_touchFor_45 rfl (lv_at hl 4 rfl) ?_
        refine lv_iconst (v := 1) hx hb dX5_touchFor_46 rfl ?_
        refine lv_iadd hx hb dX5_touchFor_47 ?_
        exact Hj9 (x2 + 1) H locs ls hP hD hS (lv_sub hl [1, 2, 3] rfl) hf
      · replace hf := if_fe c40 hf
        refine lv_iload hx hb dX5_touchFor_40 (lv_at hl 0 rfl) ?_
        refine lv_goto (tgt := 48) hx hb dX5_touchFor_42 (by decide) ?_
        exact Hj9 r5 H locs ls hP hD hS (lv_sub hl [1, 2, 3] rfl) hf
    · replace hf := if_te c2 hf
      refine lv_iconst (v := (-1)) hx hb dX5_touchFor_10 rfl ?_
      cases hf
      exact kri hQ hAe hx hb hr hlocks hP hD hK hS dX5_touchFor_11
  exact main _ _ hP hD hS

def rmX5_neverComesApart : Room := { frames := 5, cells := 0, slots := 0, locals := 115 }
theorem hdX5_neverComesApart : yX5_neverComesApart.cls = RX5 ∧ yX5_neverComesApart.cls ≠ "java/lang/invoke/MethodHandle" ∧ yX5_neverComesApart.cls ≠ "java/lang/invoke/VarHandle" ∧ (parseMethodDescriptor yX5_neverComesApart.desc).map (fun d => d.parameters.length) = some 4 := by decide +kernel
set_option maxHeartbeats 40000000 in
set_option maxRecDepth 100000 in
theorem c_X5_neverComesApart (l : Launch) (E : Nat → Nat) (D : va_G) (C : Nat → ClassId) (q0 qn0 qk0 qr0 qc0 qt0 qd0 qs0 qf0 qw0 qn1 qn2 qn3 qn4 qn5 qn6 qr1 qr2 qr3 qr4 qr5 qr6 : Nat) (sz : Nat) (N : Nat) (rowCount : Int32) (anyKept : Int32) (now : PV) (trial : PV) (x0 : Int32) (x1 : Int32) (x2 : Int32) (x3 : Int32) (r : Int32) (trial' : PV) (hf : f_X5_neverComesApart N now trial x0 x1 x2 x3 = some (r, trial')) : Met l yX5_neverComesApart wsX5_neverComesApart rmX5_neverComesApart (PC E D C [.ref q0, .int x0, .int x1, .int x2, .int x3] (oTM q0 qn0 qk0 qr0 qc0 qt0 qd0 qs0 qf0 qw0 rowCount anyKept (oPort C qn0 qn1 qn2 qn3 qn4 qn5 qn6 now (oPort C qr0 qr1 qr2 qr3 qr4 qr5 qr6 trial []))) sz) (QZ D C (oTM q0 qn0 qk0 qr0 qc0 qt0 qd0 qs0 qf0 qw0 rowCount anyKept (oPort C qn0 qn1 qn2 qn3 qn4 qn5 qn6 now (oPort C qr0 qr1 qr2 qr3 qr4 qr5 qr6 trial []))) (oTM q0 qn0 qk0 qr0 qc0 qt0 qd0 qs0 qf0 qw0 rowCount anyKept (oPort C qn0 qn1 qn2 qn3 qn4 qn5 qn6 now (oPort C qr0 qr1 qr2 qr3 qr4 qr5 qr6 (trial') []))) sz r) 0 0 (va_A (oTM q0 qn0 qk0 qr0 qc0 qt0 qd0 qs0 qf0 qw0 rowCount anyKept (oPort C qn0 qn1 qn2 qn3 qn4 qn5 qn6 now (oPort C qr0 qr1 qr2 qr3 qr4 qr5 qr6 trial []))) sz) := by
  refine Met.ofW (cc := cX5_neverComesApart) (maxL := 6) (ret := (some .boolean)) (by decide) rfl ?_
  intro p e s m args below meth c s₁ B hml hv
  obtain ⟨rfl, hsz, hP, hK, hD0, hE⟩ := hv
  have hx := B.exec
  have hb := B.bytes
  have hr := B.returns
  have hts := atoms_spec (ws := wsX5_neverComesApart) B.pre
  have hown : s.vm.findClass RX5 = some m.cls := findClass_of_methodNamed B.named
  have hlocks := B.notSynchronized
  subst hsz
  have hi_RX5 : ∀ w ∈ wsX50, w ∈ wsX5_neverComesApart := fun _ h => List.mem_cons_of_mem _ (List.mem_append_left _ (List.mem_append_right _ h))
  have hD := hD0.self (sz := s.heap.size)
  obtain ⟨A, hAe⟩ := nm_ex (va_A (oTM q0 qn0 qk0 qr0 qc0 qt0 qd0 qs0 qf0 qw0 rowCount anyKept (oPort C qn0 qn1 qn2 qn3 qn4 qn5 qn6 now (oPort C qr0 qr1 qr2 qr3 qr4 qr5 qr6 trial []))) s.heap.size)
  rw [← hAe] at hD hE ⊢
  have hA : ∀ q : Nat, s.heap.size ≤ q → A q := fun q h => by rw [hAe]; exact Or.inr h
  have hS : va_S A s.heap s.heap [] := va_S.rf
  have hl := lv_entry ([.ref q0, .int x0, .int x1, .int x2, .int x3]) (n := 6) (Nat.le_of_ble_eq_true rfl)
  rw [lg_entry_eq]
  generalize (lg_sl ([.ref q0, .int x0, .int x1, .int x2, .int x3]) ++ List.replicate (6 - (lg_sl ([.ref q0, .int x0, .int x1, .int x2, .int x3])).length) Slot.unset).toArray = ls at hl ⊢
  have hl : lv_has ls 6 [(0, .ref q0), (1, .int x0), (2, .int x1), (3, .int x2), (4, .int x3)] := hl
  obtain ⟨Q, hQ⟩ := nm_ex (MQ below (QZ D C (oTM q0 qn0 qk0 qr0 qc0 qt0 qd0 qs0 qf0 qw0 rowCount anyKept (oPort C qn0 qn1 qn2 qn3 qn4 qn5 qn6 now (oPort C qr0 qr1 qr2 qr3 qr4 qr5 qr6 trial []))) (oTM q0 qn0 qk0 qr0 qc0 qt0 qd0 qs0 qf0 qw0 rowCount anyKept (oPort C qn0 qn1 qn2 qn3 qn4 qn5 qn6 now (oPort C qr0 qr1 qr2 qr3 qr4 qr5 qr6 (trial') []))) s.heap.size r) (List.toArray [Value.ref q0, Value.int x0, Value.int x1, Value.int x2, Value.int x3]) s 0 0 A)
  show W p l e (headSpec wsX5_neverComesApart (rmX5_neverComesApart)).room s m (List.toArray [Value.ref q0, Value.int x0, Value.int x1, Value.int x2, Value.int x3]) below meth c s.heap [] 0 0 (MQ below (QZ D C (oTM q0 qn0 qk0 qr0 qc0 qt0 qd0 qs0 qf0 qw0 rowCount anyKept (oPort C qn0 qn1 qn2 qn3 qn4 qn5 qn6 now (oPort C qr0 qr1 qr2 qr3 qr4 qr5 qr6 trial []))) (oTM q0 qn0 qk0 qr0 qc0 qt0 qd0 qs0 qf0 qw0 rowCount anyKept (oPort C qn0 qn1 qn2 qn3 qn4 qn5 qn6 now (oPort C qr0 qr1 qr2 qr3 qr4 qr5 qr6 (trial') []))) s.heap.size r) (List.toArray [Value.ref q0, Value.int x0, Value.int x1, Value.int x2, Value.int x3]) s 0 0 A) _
  rw [← hQ]
  unfold f_X5_neverComesApart at hf
  have main : ∀ (H : Heap) (locs : List Loc), va_P D vwCl (oTM q0 qn0 qk0 qr0 qc0 qt0 qd0 qs0 qf0 qw0 rowCount anyKept (oPort C qn0 qn1 qn2 qn3 qn4 qn5 qn6 now (oPort C qr0 qr1 qr2 qr3 qr4 qr5 qr6 trial []))) H → va_D A (oTM q0 qn0 qk0 qr0 qc0 qt0 qd0 qs0 qf0 qw0 rowCount anyKept (oPort C qn0 qn1 qn2 qn3 qn4 qn5 qn6 now (oPort C qr0 qr1 qr2 qr3 qr4 qr5 qr6 trial []))) → va_S A s.heap H locs → W p l e (headSpec wsX5_neverComesApart (rmX5_neverComesApart)).room s m (List.toArray [Value.ref q0, Value.int x0, Value.int x1, Value.int x2, Value.int x3]) below meth c H locs 0 0 Q (F0 m 0 ls []) := by
    intro H locs hP hD hS
    refine lv_aload_n hx hb dX5_neverComesApart_0 rfl (lv_at hl 0 rfl) ?_
    refine va_get (D := D) (ci := 5) (v := .ref qr0) (C := RX5) (T := TX5) (N := 11) hx hb hts hi_RX5 hown hK hP 0 rfl rfl 2 (by decide) (hts (.fieldLink RX5 19 "TravelMarks" "trial" "LTravelMarks$Port;") (List.mem_of_getElem? (i := 1) rfl)) (fun _ h9 => h9) rfl dX5_neverComesApart_1 ?_
    refine lv_aload_n hx hb dX5_neverComesApart_4 rfl (lv_at hl 0 rfl) ?_
    refine va_get (D := D) (ci := 5) (v := .ref qn0) (C := RX5) (T := TX5) (N := 11) hx hb hts hi_RX5 hown hK hP 0 rfl rfl 0 (by decide) (hts (.fieldLink RX5 10 "TravelMarks" "now" "LTravelMarks$Port;") (List.mem_of_getElem? (i := 2) rfl)) (fun _ h9 => h9) rfl dX5_neverComesApart_5 ?_
    obtain ⟨v1, h2, hf⟩ := ob1_e hf
    refine kcv (Wx := (oTM q0 qn0 qk0 qr0 qc0 qt0 qd0 qs0 qf0 qw0 rowCount anyKept (oPort C qn0 qn1 qn2 qn3 qn4 qn5 qn6 now (oPort C qr0 qr1 qr2 qr3 qr4 qr5 qr6 v1 [])))) (va_runV (As := [.ref qn0]) (rest := []) ⟨hx, hb, hml, hown, hts⟩ (c_X1_become l E D C qr0 qr1 qr2 qr3 qr4 qr5 qr6 qn0 qn1 qn2 qn3 qn4 qn5 qn6 H.size trial now v1 h2) (cwV 1 hts gX5_neverComesApart_X1_become rfl rfl rfl hdX1_become ⟨Nat.le_of_ble_eq_true rfl, Nat.le_of_ble_eq_true rfl⟩) (kpreV hP hD hK hS hE hA [8, 9, 10, 11, 12, 13, 14, 1, 2, 3, 4, 5, 6, 7] rfl rfl 8 rfl rfl rfl) rfl rfl hl.1 rfl (lv_room (Nat.le_of_ble_eq_true rfl)) dX5_neverComesApart_8 ⟨Nat.zero_le _, Nat.zero_le _⟩) hP hD hS hA [8, 9, 10, 11, 12, 13, 14, 1, 2, 3, 4, 5, 6, 7] rfl rfl rfl (fun H locs hP hD hS => ?_)
    refine lv_iconst (v := 0) hx hb dX5_neverComesApart_11 rfl ?_
    refine lv_istore (lv' := [(5, .int 0), (0, .ref q0), (1, .int x0), (2, .int x1), (3, .int x2), (4, .int x3)]) hx hb dX5_neverComesApart_12 hl (by decide) rfl (fun ls hl => ?_)
    obtain ⟨j4, hj4, hf⟩ := lj_e hf
    have Hj4 : ∀ (v3 : PV) (H : Heap) (locs : List Loc) (ls : Array Slot), va_P D vwCl (oTM q0 qn0 qk0 qr0 qc0 qt0 qd0 qs0 qf0 qw0 rowCount anyKept (oPort C qn0 qn1 qn2 qn3 qn4 qn5 qn6 now (oPort C qr0 qr1 qr2 qr3 qr4 qr5 qr6 v3 []))) H → va_D A (oTM q0 qn0 qk0 qr0 qc0 qt0 qd0 qs0 qf0 qw0 rowCount anyKept (oPort C qn0 qn1 qn2 qn3 qn4 qn5 qn6 now (oPort C qr0 qr1 qr2 qr3 qr4 qr5 qr6 v3 []))) → va_S A s.heap H locs → lv_has ls 6 [(0, .ref q0), (1, .int x0), (2, .int x1), (3, .int x2)] → j4 v3 = some (r, trial') → W p l e (headSpec wsX5_neverComesApart (rmX5_neverComesApart)).room s m (List.toArray [Value.ref q0, Value.int x0, Value.int x1, Value.int x2, Value.int x3]) below meth c H locs 0 0 Q (F0 m 48 ls []) := by
      intro v3 H locs ls hP hD hS hl hf
      rw [hj4] at hf
      refine lv_aload_n hx hb dX5_neverComesApart_48 rfl (lv_at hl 0 rfl) ?_
      refine va_get (D := D) (ci := 5) (v := .ref qr0) (C := RX5) (T := TX5) (N := 11) hx hb hts hi_RX5 hown hK hP 0 rfl rfl 2 (by decide) (hts (.fieldLink RX5 19 "TravelMarks" "trial" "LTravelMarks$Port;") (List.mem_of_getElem? (i := 1) rfl)) (fun _ h9 => h9) rfl dX5_neverComesApart_49 ?_
      refine lv_iload_n hx hb dX5_neverComesApart_52 rfl (lv_at hl 1 rfl) ?_
      refine lv_iload_n hx hb dX5_neverComesApart_53 rfl (lv_at hl 2 rfl) ?_
      refine lv_iload_n hx hb dX5_neverComesApart_54 rfl (lv_at hl 3 rfl) ?_
      obtain ⟨r5, v6, h7, hf⟩ := ob2_e hf
      refine kci (Wx := (oTM q0 qn0 qk0 qr0 qc0 qt0 qd0 qs0 qf0 qw0 rowCount anyKept (oPort C qn0 qn1 qn2 qn3 qn4 qn5 qn6 now (oPort C qr0 qr1 qr2 qr3 qr4 qr5 qr6 v6 [])))) (va_runV (As := [.int x0, .int x1, .int x2]) (rest := []) ⟨hx, hb, hml, hown, hts⟩ (c_X1_hoursUntilOn l E D C qr0 qr1 qr2 qr3 qr4 qr5 qr6 H.size N v3 x0 x1 x2 r5 v6 h7) (cwV 3 hts gX5_neverComesApart_X1_hoursUntilOn rfl rfl rfl hdX1_hoursUntilOn ⟨Nat.le_of_ble_eq_true rfl, Nat.le_of_ble_eq_true rfl⟩) (kpreV hP hD hK hS hE hA [8, 9, 10, 11, 12, 13, 14] rfl rfl 8 rfl rfl rfl) rfl rfl hl.1 rfl (lv_room (Nat.le_of_ble_eq_true rfl)) dX5_neverComesApart_55 ⟨Nat.zero_le _, Nat.zero_le _⟩) hP hD hS hA [8, 9, 10, 11, 12, 13, 14] rfl rfl rfl (fun H locs hP hD hS => ?_)
      refine lv_if_ge (tgt := 65) hx hb dX5_neverComesApart_58 (by decide) (fun c8 => ?_) (fun c8 => ?_)
      · replace hf := if_te c8 hf
        refine lv_iconst (v := 0) hx hb dX5_neverComesApart_65 rfl ?_
        cases hf
        exact krz hQ hAe hx hb hr hlocks zb_0 hP hD hK hS dX5_neverComesApart_66
      · replace hf := if_fe c8 hf
        refine lv_iconst (v := 1) hx hb dX5_neverComesApart_61 rfl ?_
        refine lv_goto (tgt := 66) hx hb dX5_neverComesApart_62 (by decide) ?_
        cases hf
        exact krz hQ hAe hx hb hr hlocks zb_1 hP hD hK hS dX5_neverComesApart_66
    have hL14 : ∀ (n : Nat) (i9 : Int32) (v10 : PV) (H : Heap) (locs : List Loc) (ls : Array Slot), va_P D vwCl (oTM q0 qn0 qk0 qr0 qc0 qt0 qd0 qs0 qf0 qw0 rowCount anyKept (oPort C qn0 qn1 qn2 qn3 qn4 qn5 qn6 now (oPort C qr0 qr1 qr2 qr3 qr4 qr5 qr6 v10 []))) H → va_D A (oTM q0 qn0 qk0 qr0 qc0 qt0 qd0 qs0 qf0 qw0 rowCount anyKept (oPort C qn0 qn1 qn2 qn3 qn4 qn5 qn6 now (oPort C qr0 qr1 qr2 qr3 qr4 qr5 qr6 v10 []))) → va_S A s.heap H locs → lv_has ls 6 [(5, .int i9), (0, .ref q0), (1, .int x0), (2, .int x1), (3, .int x2), (4, .int x3)] → f_X5_neverComesApart_L14 x3 j4 n i9 v10 = some (r, trial') → W p l e (headSpec wsX5_neverComesApart (rmX5_neverComesApart)).room s m (List.toArray [Value.ref q0, Value.int x0, Value.int x1, Value.int x2, Value.int x3]) below meth c H locs 0 0 Q (F0 m 14 ls []) := by
      intro n
      induction n with
      | zero =>
        intro i9 v10 H locs ls hP hD hS hl hf
        exact absurd hf (fun h => by cases h)
      | succ n ih =>
        intro i9 v10 H locs ls hP hD hS hl hf
        rw [f_X5_neverComesApart_L14] at hf
        refine lv_iload hx hb dX5_neverComesApart_14 (lv_at hl 0 rfl) ?_
        refine lv_bipush (v := 6) hx hb dX5_neverComesApart_16 rfl ?_
        refine lv_icmp_ge (tgt := 48) hx hb dX5_neverComesApart_18 (by decide) (fun c11 => ?_) (fun c11 => ?_)
        · replace hf := if_te c11 hf
          exact Hj4 v10 H locs ls hP hD hS (lv_sub hl [1, 2, 3, 4] rfl) hf
        · replace hf := if_fe c11 hf
          refine lv_iload hx hb dX5_neverComesApart_21 (lv_at hl 5 rfl) ?_
          refine lv_iload hx hb dX5_neverComesApart_23 (lv_at hl 0 rfl) ?_
          refine kcz (Wx := (oTM q0 qn0 qk0 qr0 qc0 qt0 qd0 qs0 qf0 qw0 rowCount anyKept (oPort C qn0 qn1 qn2 qn3 qn4 qn5 qn6 now (oPort C qr0 qr1 qr2 qr3 qr4 qr5 qr6 v10 [])))) (va_runS (As := [.int x3, .int i9]) (rest := []) ⟨hx, hb, hml, hown, hts⟩ (c_X5_has l E D C H.size x3 i9 _ rfl) (va_cwS 2 hts gX5_neverComesApart_X5_has rfl rfl rfl hdX5_has ⟨Nat.le_of_ble_eq_true rfl, Nat.le_of_ble_eq_true rfl⟩) (kpre hP hD hK hS hE hA [] rfl rfl) rfl rfl hl.1 rfl (lv_room (Nat.le_of_ble_eq_true rfl)) dX5_neverComesApart_25 ⟨Nat.zero_le _, Nat.zero_le _⟩) hP hD hS hA [] rfl rfl rfl (fun H locs hz12 hP hD hS => ?_)
          obtain ⟨j14, hj14, hf⟩ := lj_e hf
          have Hj14 : ∀ (v13 : PV) (H : Heap) (locs : List Loc) (ls : Array Slot), va_P D vwCl (oTM q0 qn0 qk0 qr0 qc0 qt0 qd0 qs0 qf0 qw0 rowCount anyKept (oPort C qn0 qn1 qn2 qn3 qn4 qn5 qn6 now (oPort C qr0 qr1 qr2 qr3 qr4 qr5 qr6 v13 []))) H → va_D A (oTM q0 qn0 qk0 qr0 qc0 qt0 qd0 qs0 qf0 qw0 rowCount anyKept (oPort C qn0 qn1 qn2 qn3 qn4 qn5 qn6 now (oPort C qr0 qr1 qr2 qr3 qr4 qr5 qr6 v13 []))) → va_S A s.heap H locs → lv_has ls 6 [(5, .int i9), (0, .ref q0), (1, .int x0), (2, .int x1), (3, .int x2), (4, .int x3)] → j14 v13 = some (r, trial') → W p l e (headSpec wsX5_neverComesApart (rmX5_neverComesApart)).room s m (List.toArray [Value.ref q0, Value.int x0, Value.int x1, Value.int x2, Value.int x3]) below meth c H locs 0 0 Q (F0 m 42 ls []) := by
            intro v13 H locs ls hP hD hS hl hf
            rw [hj14] at hf
            obtain ⟨t15, et15, hf⟩ := lj_e hf
            refine lv_iinc (v := t15) (lv' := [(5, .int t15), (0, .ref q0), (1, .int x0), (2, .int x1), (3, .int x2), (4, .int x3)]) hx hb dX5_neverComesApart_42 hl (k := 0) rfl (by rw [et15]; rfl) (by decide) rfl (fun ls hl => ?_)
            refine lv_goto (tgt := 14) hx hb dX5_neverComesApart_45 (by decide) ?_
            exact ih t15 v13 H locs ls hP hD hS (lv_sub hl [0, 1, 2, 3, 4, 5] rfl) hf
          refine lv_if_eq (tgt := 42) hx hb dX5_neverComesApart_28 (by decide) (fun c16 => ?_) (fun c16 => ?_)
          · replace hf := if_te c16 hf
            exact Hj14 v10 H locs ls hP hD hS (lv_sub hl [0, 1, 2, 3, 4, 5] rfl) hf
          · replace hf := if_fe c16 hf
            refine lv_aload_n hx hb dX5_neverComesApart_31 rfl (lv_at hl 1 rfl) ?_
            refine va_get (D := D) (ci := 5) (v := .ref qr0) (C := RX5) (T := TX5) (N := 11) hx hb hts hi_RX5 hown hK hP 0 rfl rfl 2 (by decide) (hts (.fieldLink RX5 19 "TravelMarks" "trial" "LTravelMarks$Port;") (List.mem_of_getElem? (i := 1) rfl)) (fun _ h9 => h9) rfl dX5_neverComesApart_32 ?_
            refine lv_iload hx hb dX5_neverComesApart_35 (lv_at hl 0 rfl) ?_
            refine lv_iconst (v := (-1)) hx hb dX5_neverComesApart_37 rfl ?_
            refine lv_iconst (v := (-1)) hx hb dX5_neverComesApart_38 rfl ?_
            obtain ⟨v17, h18, hf⟩ := ob1_e hf
            refine kcv (Wx := (oTM q0 qn0 qk0 qr0 qc0 qt0 qd0 qs0 qf0 qw0 rowCount anyKept (oPort C qn0 qn1 qn2 qn3 qn4 qn5 qn6 now (oPort C qr0 qr1 qr2 qr3 qr4 qr5 qr6 v17 [])))) (va_runV (As := [.int i9, .int (-1), .int (-1)]) (rest := []) ⟨hx, hb, hml, hown, hts⟩ (c_X1_join l E D C qr0 qr1 qr2 qr3 qr4 qr5 qr6 H.size v10 i9 (-1) (-1) v17 h18) (cwV 3 hts gX5_neverComesApart_X1_join rfl rfl rfl hdX1_join ⟨Nat.le_of_ble_eq_true rfl, Nat.le_of_ble_eq_true rfl⟩) (kpreV hP hD hK hS hE hA [8, 9, 10, 11, 12, 13, 14] rfl rfl 8 rfl rfl rfl) rfl rfl hl.1 rfl (lv_room (Nat.le_of_ble_eq_true rfl)) dX5_neverComesApart_39 ⟨Nat.zero_le _, Nat.zero_le _⟩) hP hD hS hA [8, 9, 10, 11, 12, 13, 14] rfl rfl rfl (fun H locs hP hD hS => ?_)
            exact Hj14 v17 H locs ls hP hD hS (lv_sub hl [0, 1, 2, 3, 4, 5] rfl) hf
    exact hL14 N 0 v1 H locs ls hP hD hS (lv_sub hl [0, 1, 2, 3, 4, 5] rfl) hf
  exact main _ _ hP hD hS

def rmX5_apartFor : Room := { frames := 6, cells := 0, slots := 0, locals := 140 }
theorem hdX5_apartFor : yX5_apartFor.cls = RX5 ∧ yX5_apartFor.cls ≠ "java/lang/invoke/MethodHandle" ∧ yX5_apartFor.cls ≠ "java/lang/invoke/VarHandle" ∧ (parseMethodDescriptor yX5_apartFor.desc).map (fun d => d.parameters.length) = some 3 := by decide +kernel
set_option maxHeartbeats 40000000 in
set_option maxRecDepth 100000 in
theorem c_X5_apartFor (l : Launch) (E : Nat → Nat) (D : va_G) (C : Nat → ClassId) (q0 qn0 qk0 qr0 qc0 qt0 qd0 qs0 qf0 qw0 qn1 qn2 qn3 qn4 qn5 qn6 qr1 qr2 qr3 qr4 qr5 qr6 : Nat) (sz : Nat) (N : Nat) (rowCount : Int32) (anyKept : Int32) (now : PV) (trial : PV) (x0 : Int32) (x1 : Int32) (x2 : Int32) (r : Int32) (trial' : PV) (hf : f_X5_apartFor N now trial x0 x1 x2 = some (r, trial')) : Met l yX5_apartFor wsX5_apartFor rmX5_apartFor (PC E D C [.ref q0, .int x0, .int x1, .int x2] (oTM q0 qn0 qk0 qr0 qc0 qt0 qd0 qs0 qf0 qw0 rowCount anyKept (oPort C qn0 qn1 qn2 qn3 qn4 qn5 qn6 now (oPort C qr0 qr1 qr2 qr3 qr4 qr5 qr6 trial []))) sz) (QI D C (oTM q0 qn0 qk0 qr0 qc0 qt0 qd0 qs0 qf0 qw0 rowCount anyKept (oPort C qn0 qn1 qn2 qn3 qn4 qn5 qn6 now (oPort C qr0 qr1 qr2 qr3 qr4 qr5 qr6 trial []))) (oTM q0 qn0 qk0 qr0 qc0 qt0 qd0 qs0 qf0 qw0 rowCount anyKept (oPort C qn0 qn1 qn2 qn3 qn4 qn5 qn6 now (oPort C qr0 qr1 qr2 qr3 qr4 qr5 qr6 (trial') []))) sz r) 0 0 (va_A (oTM q0 qn0 qk0 qr0 qc0 qt0 qd0 qs0 qf0 qw0 rowCount anyKept (oPort C qn0 qn1 qn2 qn3 qn4 qn5 qn6 now (oPort C qr0 qr1 qr2 qr3 qr4 qr5 qr6 trial []))) sz) := by
  refine Met.ofW (cc := cX5_apartFor) (maxL := 6) (ret := (some .int)) (by decide) rfl ?_
  intro p e s m args below meth c s₁ B hml hv
  obtain ⟨rfl, hsz, hP, hK, hD0, hE⟩ := hv
  have hx := B.exec
  have hb := B.bytes
  have hr := B.returns
  have hts := atoms_spec (ws := wsX5_apartFor) B.pre
  have hown : s.vm.findClass RX5 = some m.cls := findClass_of_methodNamed B.named
  have hlocks := B.notSynchronized
  subst hsz
  have hD := hD0.self (sz := s.heap.size)
  obtain ⟨A, hAe⟩ := nm_ex (va_A (oTM q0 qn0 qk0 qr0 qc0 qt0 qd0 qs0 qf0 qw0 rowCount anyKept (oPort C qn0 qn1 qn2 qn3 qn4 qn5 qn6 now (oPort C qr0 qr1 qr2 qr3 qr4 qr5 qr6 trial []))) s.heap.size)
  rw [← hAe] at hD hE ⊢
  have hA : ∀ q : Nat, s.heap.size ≤ q → A q := fun q h => by rw [hAe]; exact Or.inr h
  have hS : va_S A s.heap s.heap [] := va_S.rf
  have hl := lv_entry ([.ref q0, .int x0, .int x1, .int x2]) (n := 6) (Nat.le_of_ble_eq_true rfl)
  rw [lg_entry_eq]
  generalize (lg_sl ([.ref q0, .int x0, .int x1, .int x2]) ++ List.replicate (6 - (lg_sl ([.ref q0, .int x0, .int x1, .int x2])).length) Slot.unset).toArray = ls at hl ⊢
  have hl : lv_has ls 6 [(0, .ref q0), (1, .int x0), (2, .int x1), (3, .int x2)] := hl
  obtain ⟨Q, hQ⟩ := nm_ex (MQ below (QI D C (oTM q0 qn0 qk0 qr0 qc0 qt0 qd0 qs0 qf0 qw0 rowCount anyKept (oPort C qn0 qn1 qn2 qn3 qn4 qn5 qn6 now (oPort C qr0 qr1 qr2 qr3 qr4 qr5 qr6 trial []))) (oTM q0 qn0 qk0 qr0 qc0 qt0 qd0 qs0 qf0 qw0 rowCount anyKept (oPort C qn0 qn1 qn2 qn3 qn4 qn5 qn6 now (oPort C qr0 qr1 qr2 qr3 qr4 qr5 qr6 (trial') []))) s.heap.size r) (List.toArray [Value.ref q0, Value.int x0, Value.int x1, Value.int x2]) s 0 0 A)
  show W p l e (headSpec wsX5_apartFor (rmX5_apartFor)).room s m (List.toArray [Value.ref q0, Value.int x0, Value.int x1, Value.int x2]) below meth c s.heap [] 0 0 (MQ below (QI D C (oTM q0 qn0 qk0 qr0 qc0 qt0 qd0 qs0 qf0 qw0 rowCount anyKept (oPort C qn0 qn1 qn2 qn3 qn4 qn5 qn6 now (oPort C qr0 qr1 qr2 qr3 qr4 qr5 qr6 trial []))) (oTM q0 qn0 qk0 qr0 qc0 qt0 qd0 qs0 qf0 qw0 rowCount anyKept (oPort C qn0 qn1 qn2 qn3 qn4 qn5 qn6 now (oPort C qr0 qr1 qr2 qr3 qr4 qr5 qr6 (trial') []))) s.heap.size r) (List.toArray [Value.ref q0, Value.int x0, Value.int x1, Value.int x2]) s 0 0 A) _
  rw [← hQ]
  unfold f_X5_apartFor at hf
  have main : ∀ (H : Heap) (locs : List Loc), va_P D vwCl (oTM q0 qn0 qk0 qr0 qc0 qt0 qd0 qs0 qf0 qw0 rowCount anyKept (oPort C qn0 qn1 qn2 qn3 qn4 qn5 qn6 now (oPort C qr0 qr1 qr2 qr3 qr4 qr5 qr6 trial []))) H → va_D A (oTM q0 qn0 qk0 qr0 qc0 qt0 qd0 qs0 qf0 qw0 rowCount anyKept (oPort C qn0 qn1 qn2 qn3 qn4 qn5 qn6 now (oPort C qr0 qr1 qr2 qr3 qr4 qr5 qr6 trial []))) → va_S A s.heap H locs → W p l e (headSpec wsX5_apartFor (rmX5_apartFor)).room s m (List.toArray [Value.ref q0, Value.int x0, Value.int x1, Value.int x2]) below meth c H locs 0 0 Q (F0 m 0 ls []) := by
    intro H locs hP hD hS
    refine lv_aload_n hx hb dX5_apartFor_0 rfl (lv_at hl 0 rfl) ?_
    refine lv_iload_n hx hb dX5_apartFor_1 rfl (lv_at hl 1 rfl) ?_
    refine lv_iload_n hx hb dX5_apartFor_2 rfl (lv_at hl 2 rfl) ?_
    refine lv_iload_n hx hb dX5_apartFor_3 rfl (lv_at hl 3 rfl) ?_
    refine kcz (Wx := (oTM q0 qn0 qk0 qr0 qc0 qt0 qd0 qs0 qf0 qw0 rowCount anyKept (oPort C qn0 qn1 qn2 qn3 qn4 qn5 qn6 now (oPort C qr0 qr1 qr2 qr3 qr4 qr5 qr6 trial [])))) (va_runV (As := [.int x0, .int x1, .int x2]) (rest := []) ⟨hx, hb, hml, hown, hts⟩ (c_X5_isWish l E D C q0 qn0 qk0 qr0 qc0 qt0 qd0 qs0 qf0 qw0 qn1 qn2 qn3 qn4 qn5 qn6 H.size rowCount anyKept now x0 x1 x2 _ rfl) (cwV 3 hts gX5_apartFor_X5_isWish rfl rfl rfl hdX5_isWish ⟨Nat.le_of_ble_eq_true rfl, Nat.le_of_ble_eq_true rfl⟩) (kpreV hP hD hK hS hE hA [0, 1, 2, 3, 4, 5, 6, 7] rfl rfl 0 rfl rfl rfl) rfl rfl hl.1 rfl (lv_room (Nat.le_of_ble_eq_true rfl)) dX5_apartFor_4 ⟨Nat.zero_le _, Nat.zero_le _⟩) hP hD hS hA [0, 1, 2, 3, 4, 5, 6, 7] rfl rfl rfl (fun H locs hz1 hP hD hS => ?_)
    refine lv_if_ne (tgt := 12) hx hb dX5_apartFor_7 (by decide) (fun c2 => ?_) (fun c2 => ?_)
    · replace hf := if_fe c2 hf
      refine lv_iconst (v := 0) hx hb dX5_apartFor_12 rfl ?_
      refine lv_istore (lv' := [(4, .int 0), (0, .ref q0), (1, .int x0), (2, .int x1), (3, .int x2)]) hx hb dX5_apartFor_13 hl (by decide) rfl (fun ls hl => ?_)
      have hL15 : ∀ (n : Nat) (i3 : Int32) (v4 : PV) (H : Heap) (locs : List Loc) (ls : Array Slot), va_P D vwCl (oTM q0 qn0 qk0 qr0 qc0 qt0 qd0 qs0 qf0 qw0 rowCount anyKept (oPort C qn0 qn1 qn2 qn3 qn4 qn5 qn6 now (oPort C qr0 qr1 qr2 qr3 qr4 qr5 qr6 v4 []))) H → va_D A (oTM q0 qn0 qk0 qr0 qc0 qt0 qd0 qs0 qf0 qw0 rowCount anyKept (oPort C qn0 qn1 qn2 qn3 qn4 qn5 qn6 now (oPort C qr0 qr1 qr2 qr3 qr4 qr5 qr6 v4 []))) → va_S A s.heap H locs → lv_has ls 6 [(4, .int i3), (0, .ref q0), (1, .int x0), (2, .int x1), (3, .int x2)] → f_X5_apartFor_L15 N now x0 x1 x2 n i3 v4 = some (r, trial') → W p l e (headSpec wsX5_apartFor (rmX5_apartFor)).room s m (List.toArray [Value.ref q0, Value.int x0, Value.int x1, Value.int x2]) below meth c H locs 0 0 Q (F0 m 15 ls []) := by
        intro n
        induction n with
        | zero =>
          intro i3 v4 H locs ls hP hD hS hl hf
          exact absurd hf (fun h => by cases h)
        | succ n ih =>
          intro i3 v4 H locs ls hP hD hS hl hf
          rw [f_X5_apartFor_L15] at hf
          refine lv_iload hx hb dX5_apartFor_15 (lv_at hl 0 rfl) ?_
          refine lv_bipush (v := 6) hx hb dX5_apartFor_17 rfl ?_
          refine lv_icmp_gt (tgt := 69) hx hb dX5_apartFor_19 (by decide) (fun c5 => ?_) (fun c5 => ?_)
          · replace hf := if_te c5 hf
            refine lv_bipush (v := (-3)) hx hb dX5_apartFor_69 rfl ?_
            cases hf
            exact kri hQ hAe hx hb hr hlocks hP hD hK hS dX5_apartFor_71
          · replace hf := if_fe c5 hf
            refine lv_iconst (v := 0) hx hb dX5_apartFor_22 rfl ?_
            refine lv_istore (lv' := [(5, .int 0), (4, .int i3), (0, .ref q0), (1, .int x0), (2, .int x1), (3, .int x2)]) hx hb dX5_apartFor_23 hl (by decide) rfl (fun ls hl => ?_)
            obtain ⟨j7, hj7, hf⟩ := lj_e hf
            have Hj7 : ∀ (v6 : PV) (H : Heap) (locs : List Loc) (ls : Array Slot), va_P D vwCl (oTM q0 qn0 qk0 qr0 qc0 qt0 qd0 qs0 qf0 qw0 rowCount anyKept (oPort C qn0 qn1 qn2 qn3 qn4 qn5 qn6 now (oPort C qr0 qr1 qr2 qr3 qr4 qr5 qr6 v6 []))) H → va_D A (oTM q0 qn0 qk0 qr0 qc0 qt0 qd0 qs0 qf0 qw0 rowCount anyKept (oPort C qn0 qn1 qn2 qn3 qn4 qn5 qn6 now (oPort C qr0 qr1 qr2 qr3 qr4 qr5 qr6 v6 []))) → va_S A s.heap H locs → lv_has ls 6 [(4, .int i3), (0, .ref q0), (1, .int x0), (2, .int x1), (3, .int x2)] → j7 v6 = some (r, trial') → W p l e (headSpec wsX5_apartFor (rmX5_apartFor)).room s m (List.toArray [Value.ref q0, Value.int x0, Value.int x1, Value.int x2]) below meth c H locs 0 0 Q (F0 m 63 ls []) := by
              intro v6 H locs ls hP hD hS hl hf
              rw [hj7] at hf
              obtain ⟨t8, et8, hf⟩ := lj_e hf
              refine lv_iinc (v := t8) (lv' := [(4, .int t8), (0, .ref q0), (1, .int x0), (2, .int x1), (3, .int x2)]) hx hb dX5_apartFor_63 hl (k := 0) rfl (by rw [et8]; rfl) (by decide) rfl (fun ls hl => ?_)
              refine lv_goto (tgt := 15) hx hb dX5_apartFor_66 (by decide) ?_
              exact ih t8 v6 H locs ls hP hD hS (lv_sub hl [0, 1, 2, 3, 4] rfl) hf
            have hL25 : ∀ (n : Nat) (i9 : Int32) (v10 : PV) (H : Heap) (locs : List Loc) (ls : Array Slot), va_P D vwCl (oTM q0 qn0 qk0 qr0 qc0 qt0 qd0 qs0 qf0 qw0 rowCount anyKept (oPort C qn0 qn1 qn2 qn3 qn4 qn5 qn6 now (oPort C qr0 qr1 qr2 qr3 qr4 qr5 qr6 v10 []))) H → va_D A (oTM q0 qn0 qk0 qr0 qc0 qt0 qd0 qs0 qf0 qw0 rowCount anyKept (oPort C qn0 qn1 qn2 qn3 qn4 qn5 qn6 now (oPort C qr0 qr1 qr2 qr3 qr4 qr5 qr6 v10 []))) → va_S A s.heap H locs → lv_has ls 6 [(5, .int i9), (4, .int i3), (0, .ref q0), (1, .int x0), (2, .int x1), (3, .int x2)] → f_X5_apartFor_L25 N now x0 x1 x2 i3 j7 n i9 v10 = some (r, trial') → W p l e (headSpec wsX5_apartFor (rmX5_apartFor)).room s m (List.toArray [Value.ref q0, Value.int x0, Value.int x1, Value.int x2]) below meth c H locs 0 0 Q (F0 m 25 ls []) := by
              intro n
              induction n with
              | zero =>
                intro i9 v10 H locs ls hP hD hS hl hf
                exact absurd hf (fun h => by cases h)
              | succ n ih =>
                intro i9 v10 H locs ls hP hD hS hl hf
                rw [f_X5_apartFor_L25] at hf
                refine lv_iload hx hb dX5_apartFor_25 (lv_at hl 0 rfl) ?_
                refine lv_bipush (v := 64) hx hb dX5_apartFor_27 rfl ?_
                refine lv_icmp_ge (tgt := 63) hx hb dX5_apartFor_29 (by decide) (fun c11 => ?_) (fun c11 => ?_)
                · replace hf := if_te c11 hf
                  exact Hj7 v10 H locs ls hP hD hS (lv_sub hl [1, 2, 3, 4, 5] rfl) hf
                · replace hf := if_fe c11 hf
                  refine lv_iload hx hb dX5_apartFor_32 (lv_at hl 0 rfl) ?_
                  refine kci (Wx := (oTM q0 qn0 qk0 qr0 qc0 qt0 qd0 qs0 qf0 qw0 rowCount anyKept (oPort C qn0 qn1 qn2 qn3 qn4 qn5 qn6 now (oPort C qr0 qr1 qr2 qr3 qr4 qr5 qr6 v10 [])))) (va_runS (As := [.int i9]) (rest := []) ⟨hx, hb, hml, hown, hts⟩ (c_J6_bitCount_0f7a4 l E D C H.size i9 _ rfl) (va_cwS 1 hts gX5_apartFor_J6_bitCount_0f7a4 rfl rfl rfl hdJ6_bitCount_0f7a4 ⟨Nat.le_of_ble_eq_true rfl, Nat.le_of_ble_eq_true rfl⟩) (kpre hP hD hK hS hE hA [] rfl rfl) rfl rfl hl.1 rfl (lv_room (Nat.le_of_ble_eq_true rfl)) dX5_apartFor_34 ⟨Nat.zero_le _, Nat.zero_le _⟩) hP hD hS hA [] rfl rfl rfl (fun H locs hP hD hS => ?_)
                  refine lv_iload hx hb dX5_apartFor_37 (lv_at hl 1 rfl) ?_
                  obtain ⟨j13, hj13, hf⟩ := lj_e hf
                  have Hj13 : ∀ (v12 : PV) (H : Heap) (locs : List Loc) (ls : Array Slot), va_P D vwCl (oTM q0 qn0 qk0 qr0 qc0 qt0 qd0 qs0 qf0 qw0 rowCount anyKept (oPort C qn0 qn1 qn2 qn3 qn4 qn5 qn6 now (oPort C qr0 qr1 qr2 qr3 qr4 qr5 qr6 v12 []))) H → va_D A (oTM q0 qn0 qk0 qr0 qc0 qt0 qd0 qs0 qf0 qw0 rowCount anyKept (oPort C qn0 qn1 qn2 qn3 qn4 qn5 qn6 now (oPort C qr0 qr1 qr2 qr3 qr4 qr5 qr6 v12 []))) → va_S A s.heap H locs → lv_has ls 6 [(5, .int i9), (4, .int i3), (0, .ref q0), (1, .int x0), (2, .int x1), (3, .int x2)] → j13 v12 = some (r, trial') → W p l e (headSpec wsX5_apartFor (rmX5_apartFor)).room s m (List.toArray [Value.ref q0, Value.int x0, Value.int x1, Value.int x2]) below meth c H locs 0 0 Q (F0 m 57 ls []) := by
                    intro v12 H locs ls hP hD hS hl hf
                    rw [hj13] at hf
                    obtain ⟨t14, et14, hf⟩ := lj_e hf
                    refine lv_iinc (v := t14) (lv' := [(5, .int t14), (4, .int i3), (0, .ref q0), (1, .int x0), (2, .int x1), (3, .int x2)]) hx hb dX5_apartFor_57 hl (k := 0) rfl (by rw [et14]; rfl) (by decide) rfl (fun ls hl => ?_)
                    refine lv_goto (tgt := 25) hx hb dX5_apartFor_60 (by decide) ?_
                    exact ih t14 v12 H locs ls hP hD hS (lv_sub hl [0, 1, 2, 3, 4, 5] rfl) hf
                  refine lv_icmp_ne (tgt := 57) hx hb dX5_apartFor_39 (by decide) (fun c15 => ?_) (fun c15 => ?_)
                  · replace hf := if_fe c15 hf
                    exact Hj13 v10 H locs ls hP hD hS (lv_sub hl [0, 1, 2, 3, 4, 5] rfl) hf
                  · replace hf := if_te c15 hf
                    refine lv_aload_n hx hb dX5_apartFor_42 rfl (lv_at hl 2 rfl) ?_
                    refine lv_iload_n hx hb dX5_apartFor_43 rfl (lv_at hl 3 rfl) ?_
                    refine lv_iload_n hx hb dX5_apartFor_44 rfl (lv_at hl 4 rfl) ?_
                    refine lv_iload_n hx hb dX5_apartFor_45 rfl (lv_at hl 5 rfl) ?_
                    refine lv_iload hx hb dX5_apartFor_46 (lv_at hl 0 rfl) ?_
                    obtain ⟨r16, v17, h18, hf⟩ := ob2_e hf
                    refine kcz (Wx := (oTM q0 qn0 qk0 qr0 qc0 qt0 qd0 qs0 qf0 qw0 rowCount anyKept (oPort C qn0 qn1 qn2 qn3 qn4 qn5 qn6 now (oPort C qr0 qr1 qr2 qr3 qr4 qr5 qr6 v17 [])))) (va_runV (As := [.int x0, .int x1, .int x2, .int i9]) (rest := []) ⟨hx, hb, hml, hown, hts⟩ (c_X5_neverComesApart l E D C q0 qn0 qk0 qr0 qc0 qt0 qd0 qs0 qf0 qw0 qn1 qn2 qn3 qn4 qn5 qn6 qr1 qr2 qr3 qr4 qr5 qr6 H.size N rowCount anyKept now v10 x0 x1 x2 i9 r16 v17 h18) (cwV 4 hts gX5_apartFor_X5_neverComesApart rfl rfl rfl hdX5_neverComesApart ⟨Nat.le_of_ble_eq_true rfl, Nat.le_of_ble_eq_true rfl⟩) (kpreV hP hD hK hS hE hA [0, 1, 2, 3, 4, 5, 6, 7, 8, 9, 10, 11, 12, 13, 14] rfl rfl 0 rfl rfl rfl) rfl rfl hl.1 rfl (lv_room (Nat.le_of_ble_eq_true rfl)) dX5_apartFor_48 ⟨Nat.zero_le _, Nat.zero_le _⟩) hP hD hS hA [0, 1, 2, 3, 4, 5, 6, 7, 8, 9, 10, 11, 12, 13, 14] rfl rfl rfl (fun H locs hz19 hP hD hS => ?_)
                    refine lv_if_eq (tgt := 57) hx hb dX5_apartFor_51 (by decide) (fun c20 => ?_) (fun c20 => ?_)
                    · replace hf := if_te c20 hf
                      exact Hj13 v17 H locs ls hP hD hS (lv_sub hl [0, 1, 2, 3, 4, 5] rfl) hf
                    · replace hf := if_fe c20 hf
                      refine lv_iload hx hb dX5_apartFor_54 (lv_at hl 0 rfl) ?_
                      cases hf
                      exact kri hQ hAe hx hb hr hlocks hP hD hK hS dX5_apartFor_56
            exact hL25 N 0 v4 H locs ls hP hD hS (lv_sub hl [0, 1, 2, 3, 4, 5] rfl) hf
      exact hL15 N 0 trial H locs ls hP hD hS (lv_sub hl [0, 1, 2, 3, 4] rfl) hf
    · replace hf := if_te c2 hf
      refine lv_iconst (v := (-1)) hx hb dX5_apartFor_10 rfl ?_
      cases hf
      exact kri hQ hAe hx hb hr hlocks hP hD hK hS dX5_apartFor_11
  exact main _ _ hP hD hS

def rmX5_fitsFrom : Room := { frames := 4, cells := 0, slots := 0, locals := 91 }
theorem hdX5_fitsFrom : yX5_fitsFrom.cls = RX5 ∧ yX5_fitsFrom.cls ≠ "java/lang/invoke/MethodHandle" ∧ yX5_fitsFrom.cls ≠ "java/lang/invoke/VarHandle" ∧ (parseMethodDescriptor yX5_fitsFrom.desc).map (fun d => d.parameters.length) = some 3 := by decide +kernel
set_option maxHeartbeats 40000000 in
set_option maxRecDepth 100000 in
theorem c_X5_fitsFrom (l : Launch) (E : Nat → Nat) (D : va_G) (C : Nat → ClassId) (q0 qn0 qk0 qr0 qc0 qt0 qd0 qs0 qf0 qw0 qn1 qn2 qn3 qn4 qn5 qn6 qr1 qr2 qr3 qr4 qr5 qr6 b0_0 b0_1 : Nat) (sz : Nat) (N : Nat) (rowCount : Int32) (anyKept : Int32) (now : PV) (trial : PV) (w0 : HV) (x1 : Int32) (x2 : Int32) (r : Int32) (trial' : PV) (hf : f_X5_fitsFrom N now trial w0 x1 x2 = some (r, trial')) : Met l yX5_fitsFrom wsX5_fitsFrom rmX5_fitsFrom (PC E D C [.ref q0, .ref b0_0, .int x1, .int x2] (oTM q0 qn0 qk0 qr0 qc0 qt0 qd0 qs0 qf0 qw0 rowCount anyKept (oPort C qn0 qn1 qn2 qn3 qn4 qn5 qn6 now (oPort C qr0 qr1 qr2 qr3 qr4 qr5 qr6 trial (oSheet C b0_0 b0_1 w0 [])))) sz) (QZ D C (oTM q0 qn0 qk0 qr0 qc0 qt0 qd0 qs0 qf0 qw0 rowCount anyKept (oPort C qn0 qn1 qn2 qn3 qn4 qn5 qn6 now (oPort C qr0 qr1 qr2 qr3 qr4 qr5 qr6 trial (oSheet C b0_0 b0_1 w0 [])))) (oTM q0 qn0 qk0 qr0 qc0 qt0 qd0 qs0 qf0 qw0 rowCount anyKept (oPort C qn0 qn1 qn2 qn3 qn4 qn5 qn6 now (oPort C qr0 qr1 qr2 qr3 qr4 qr5 qr6 (trial') (oSheet C b0_0 b0_1 w0 [])))) sz r) 0 0 (va_A (oTM q0 qn0 qk0 qr0 qc0 qt0 qd0 qs0 qf0 qw0 rowCount anyKept (oPort C qn0 qn1 qn2 qn3 qn4 qn5 qn6 now (oPort C qr0 qr1 qr2 qr3 qr4 qr5 qr6 trial (oSheet C b0_0 b0_1 w0 [])))) sz) := by
  refine Met.ofW (cc := cX5_fitsFrom) (maxL := 7) (ret := (some .boolean)) (by decide) rfl ?_
  intro p e s m args below meth c s₁ B hml hv
  obtain ⟨rfl, hsz, hP, hK, hD0, hE⟩ := hv
  have hx := B.exec
  have hb := B.bytes
  have hr := B.returns
  have hts := atoms_spec (ws := wsX5_fitsFrom) B.pre
  have hown : s.vm.findClass RX5 = some m.cls := findClass_of_methodNamed B.named
  have hlocks := B.notSynchronized
  subst hsz
  have hi_RX1 : ∀ w ∈ wsX10, w ∈ wsX5_fitsFrom := fun _ h => List.mem_cons_of_mem _ (List.mem_append_left _ (List.mem_append_right _ h))
  have hi_RX2 : ∀ w ∈ wsX20, w ∈ wsX5_fitsFrom := fun _ h => List.mem_cons_of_mem _ (List.mem_append_right _ h)
  have hi_RX5 : ∀ w ∈ wsX50, w ∈ wsX5_fitsFrom := fun _ h => List.mem_cons_of_mem _ (List.mem_append_left _ (List.mem_append_left _ (List.mem_append_right _ h)))
  have hD := hD0.self (sz := s.heap.size)
  obtain ⟨A, hAe⟩ := nm_ex (va_A (oTM q0 qn0 qk0 qr0 qc0 qt0 qd0 qs0 qf0 qw0 rowCount anyKept (oPort C qn0 qn1 qn2 qn3 qn4 qn5 qn6 now (oPort C qr0 qr1 qr2 qr3 qr4 qr5 qr6 trial (oSheet C b0_0 b0_1 w0 [])))) s.heap.size)
  rw [← hAe] at hD hE ⊢
  have hA : ∀ q : Nat, s.heap.size ≤ q → A q := fun q h => by rw [hAe]; exact Or.inr h
  have hS : va_S A s.heap s.heap [] := va_S.rf
  have hl := lv_entry ([.ref q0, .ref b0_0, .int x1, .int x2]) (n := 7) (Nat.le_of_ble_eq_true rfl)
  rw [lg_entry_eq]
  generalize (lg_sl ([.ref q0, .ref b0_0, .int x1, .int x2]) ++ List.replicate (7 - (lg_sl ([.ref q0, .ref b0_0, .int x1, .int x2])).length) Slot.unset).toArray = ls at hl ⊢
  have hl : lv_has ls 7 [(0, .ref q0), (1, .ref b0_0), (2, .int x1), (3, .int x2)] := hl
  obtain ⟨Q, hQ⟩ := nm_ex (MQ below (QZ D C (oTM q0 qn0 qk0 qr0 qc0 qt0 qd0 qs0 qf0 qw0 rowCount anyKept (oPort C qn0 qn1 qn2 qn3 qn4 qn5 qn6 now (oPort C qr0 qr1 qr2 qr3 qr4 qr5 qr6 trial (oSheet C b0_0 b0_1 w0 [])))) (oTM q0 qn0 qk0 qr0 qc0 qt0 qd0 qs0 qf0 qw0 rowCount anyKept (oPort C qn0 qn1 qn2 qn3 qn4 qn5 qn6 now (oPort C qr0 qr1 qr2 qr3 qr4 qr5 qr6 (trial') (oSheet C b0_0 b0_1 w0 [])))) s.heap.size r) (List.toArray [Value.ref q0, Value.ref b0_0, Value.int x1, Value.int x2]) s 0 0 A)
  show W p l e (headSpec wsX5_fitsFrom (rmX5_fitsFrom)).room s m (List.toArray [Value.ref q0, Value.ref b0_0, Value.int x1, Value.int x2]) below meth c s.heap [] 0 0 (MQ below (QZ D C (oTM q0 qn0 qk0 qr0 qc0 qt0 qd0 qs0 qf0 qw0 rowCount anyKept (oPort C qn0 qn1 qn2 qn3 qn4 qn5 qn6 now (oPort C qr0 qr1 qr2 qr3 qr4 qr5 qr6 trial (oSheet C b0_0 b0_1 w0 [])))) (oTM q0 qn0 qk0 qr0 qc0 qt0 qd0 qs0 qf0 qw0 rowCount anyKept (oPort C qn0 qn1 qn2 qn3 qn4 qn5 qn6 now (oPort C qr0 qr1 qr2 qr3 qr4 qr5 qr6 (trial') (oSheet C b0_0 b0_1 w0 [])))) s.heap.size r) (List.toArray [Value.ref q0, Value.ref b0_0, Value.int x1, Value.int x2]) s 0 0 A) _
  rw [← hQ]
  unfold f_X5_fitsFrom at hf
  have main : ∀ (H : Heap) (locs : List Loc), va_P D vwCl (oTM q0 qn0 qk0 qr0 qc0 qt0 qd0 qs0 qf0 qw0 rowCount anyKept (oPort C qn0 qn1 qn2 qn3 qn4 qn5 qn6 now (oPort C qr0 qr1 qr2 qr3 qr4 qr5 qr6 trial (oSheet C b0_0 b0_1 w0 [])))) H → va_D A (oTM q0 qn0 qk0 qr0 qc0 qt0 qd0 qs0 qf0 qw0 rowCount anyKept (oPort C qn0 qn1 qn2 qn3 qn4 qn5 qn6 now (oPort C qr0 qr1 qr2 qr3 qr4 qr5 qr6 trial (oSheet C b0_0 b0_1 w0 [])))) → va_S A s.heap H locs → W p l e (headSpec wsX5_fitsFrom (rmX5_fitsFrom)).room s m (List.toArray [Value.ref q0, Value.ref b0_0, Value.int x1, Value.int x2]) below meth c H locs 0 0 Q (F0 m 0 ls []) := by
    intro H locs hP hD hS
    refine lv_aload_n hx hb dX5_fitsFrom_0 rfl (lv_at hl 0 rfl) ?_
    refine va_get (D := D) (ci := 5) (v := .ref qr0) (C := RX5) (T := TX5) (N := 11) hx hb hts hi_RX5 hown hK hP 0 rfl rfl 2 (by decide) (hts (.fieldLink RX5 19 "TravelMarks" "trial" "LTravelMarks$Port;") (List.mem_of_getElem? (i := 1) rfl)) (fun _ h9 => h9) rfl dX5_fitsFrom_1 ?_
    refine lv_aload_n hx hb dX5_fitsFrom_4 rfl (lv_at hl 0 rfl) ?_
    refine va_get (D := D) (ci := 5) (v := .ref qn0) (C := RX5) (T := TX5) (N := 11) hx hb hts hi_RX5 hown hK hP 0 rfl rfl 0 (by decide) (hts (.fieldLink RX5 10 "TravelMarks" "now" "LTravelMarks$Port;") (List.mem_of_getElem? (i := 2) rfl)) (fun _ h9 => h9) rfl dX5_fitsFrom_5 ?_
    obtain ⟨v1, h2, hf⟩ := ob1_e hf
    refine kcv (Wx := (oTM q0 qn0 qk0 qr0 qc0 qt0 qd0 qs0 qf0 qw0 rowCount anyKept (oPort C qn0 qn1 qn2 qn3 qn4 qn5 qn6 now (oPort C qr0 qr1 qr2 qr3 qr4 qr5 qr6 v1 (oSheet C b0_0 b0_1 w0 []))))) (va_runV (As := [.ref qn0]) (rest := []) ⟨hx, hb, hml, hown, hts⟩ (c_X1_become l E D C qr0 qr1 qr2 qr3 qr4 qr5 qr6 qn0 qn1 qn2 qn3 qn4 qn5 qn6 H.size trial now v1 h2) (cwV 1 hts gX5_fitsFrom_X1_become rfl rfl rfl hdX1_become ⟨Nat.le_of_ble_eq_true rfl, Nat.le_of_ble_eq_true rfl⟩) (kpreV hP hD hK hS hE hA [8, 9, 10, 11, 12, 13, 14, 1, 2, 3, 4, 5, 6, 7] rfl rfl 8 rfl rfl rfl) rfl rfl hl.1 rfl (lv_room (Nat.le_of_ble_eq_true rfl)) dX5_fitsFrom_8 ⟨Nat.zero_le _, Nat.zero_le _⟩) hP hD hS hA [8, 9, 10, 11, 12, 13, 14, 1, 2, 3, 4, 5, 6, 7] rfl rfl rfl (fun H locs hP hD hS => ?_)
    refine lv_aload_n hx hb dX5_fitsFrom_11 rfl (lv_at hl 0 rfl) ?_
    refine va_get (D := D) (ci := 5) (v := .ref qr0) (C := RX5) (T := TX5) (N := 11) hx hb hts hi_RX5 hown hK hP 0 rfl rfl 2 (by decide) (hts (.fieldLink RX5 19 "TravelMarks" "trial" "LTravelMarks$Port;") (List.mem_of_getElem? (i := 1) rfl)) (fun _ h9 => h9) rfl dX5_fitsFrom_12 ?_
    refine va_get (D := D) (ci := 1) (v := .ref qr4) (C := RX1) (T := TX1) (N := 10) hx hb hts hi_RX1 hown hK hP 8 rfl rfl 3 (by decide) (hts (.fieldLink RX5 120 "TravelMarks$Port" "on" "[I") (List.mem_of_getElem? (i := 3) rfl)) (fun _ h9 => h9) rfl dX5_fitsFrom_15 ?_
    refine lv_iload_n hx hb dX5_fitsFrom_18 rfl (lv_at hl 2 rfl) ?_
    refine lv_iload_n hx hb dX5_fitsFrom_19 rfl (lv_at hl 3 rfl) ?_
    obtain ⟨hi3, hf⟩ := ckA_e hf
    refine va_iast hx hb hK hP hD hS 12 0 rfl rfl hi3 dX5_fitsFrom_20 (fun H locs hP hD hS => ?_)
    obtain ⟨v4, ev4, hf⟩ := lj_e hf
    have hP : va_P D vwCl (oTM q0 qn0 qk0 qr0 qc0 qt0 qd0 qs0 qf0 qw0 rowCount anyKept (oPort C qn0 qn1 qn2 qn3 qn4 qn5 qn6 now (oPort C qr0 qr1 qr2 qr3 qr4 qr5 qr6 v4 (oSheet C b0_0 b0_1 w0 [])))) H := by rw [ev4]; exact hP
    have hD : va_D A (oTM q0 qn0 qk0 qr0 qc0 qt0 qd0 qs0 qf0 qw0 rowCount anyKept (oPort C qn0 qn1 qn2 qn3 qn4 qn5 qn6 now (oPort C qr0 qr1 qr2 qr3 qr4 qr5 qr6 v4 (oSheet C b0_0 b0_1 w0 [])))) := by rw [ev4]; exact hD
    refine lv_iconst (v := 0) hx hb dX5_fitsFrom_21 rfl ?_
    refine lv_istore (lv' := [(4, .int 0), (0, .ref q0), (1, .ref b0_0), (2, .int x1), (3, .int x2)]) hx hb dX5_fitsFrom_22 hl (by decide) rfl (fun ls hl => ?_)
    have hL24 : ∀ (n : Nat) (i5 : Int32) (v6 : PV) (H : Heap) (locs : List Loc) (ls : Array Slot), va_P D vwCl (oTM q0 qn0 qk0 qr0 qc0 qt0 qd0 qs0 qf0 qw0 rowCount anyKept (oPort C qn0 qn1 qn2 qn3 qn4 qn5 qn6 now (oPort C qr0 qr1 qr2 qr3 qr4 qr5 qr6 v6 (oSheet C b0_0 b0_1 w0 [])))) H → va_D A (oTM q0 qn0 qk0 qr0 qc0 qt0 qd0 qs0 qf0 qw0 rowCount anyKept (oPort C qn0 qn1 qn2 qn3 qn4 qn5 qn6 now (oPort C qr0 qr1 qr2 qr3 qr4 qr5 qr6 v6 (oSheet C b0_0 b0_1 w0 [])))) → va_S A s.heap H locs → lv_has ls 7 [(4, .int i5), (0, .ref q0), (1, .ref b0_0), (2, .int x1)] → f_X5_fitsFrom_L24 N w0 x1 n i5 v6 = some (r, trial') → W p l e (headSpec wsX5_fitsFrom (rmX5_fitsFrom)).room s m (List.toArray [Value.ref q0, Value.ref b0_0, Value.int x1, Value.int x2]) below meth c H locs 0 0 Q (F0 m 24 ls []) := by
      intro n
      induction n with
      | zero =>
        intro i5 v6 H locs ls hP hD hS hl hf
        exact absurd hf (fun h => by cases h)
      | succ n ih =>
        intro i5 v6 H locs ls hP hD hS hl hf
        rw [f_X5_fitsFrom_L24] at hf
        refine lv_iload hx hb dX5_fitsFrom_24 (lv_at hl 0 rfl) ?_
        refine lv_aload_n hx hb dX5_fitsFrom_26 rfl (lv_at hl 2 rfl) ?_
        refine va_get (D := D) (ci := 2) (v := .int (shSize w0)) (C := RX2) (T := TX2) (N := 3) hx hb hts hi_RX2 hown hK hP 15 rfl rfl 2 (by decide) (hts (.fieldLink RX5 219 "TravelMarks$Sheet" "size" "I") (List.mem_of_getElem? (i := 4) rfl)) (fun _ h9 => h9) rfl dX5_fitsFrom_27 ?_
        refine lv_icmp_ge (tgt := 82) hx hb dX5_fitsFrom_30 (by decide) (fun c7 => ?_) (fun c7 => ?_)
        · replace hf := if_te c7 hf
          refine lv_iconst (v := 1) hx hb dX5_fitsFrom_82 rfl ?_
          cases hf
          exact krz hQ hAe hx hb hr hlocks zb_1 hP hD hK hS dX5_fitsFrom_83
        · replace hf := if_fe c7 hf
          refine lv_aload_n hx hb dX5_fitsFrom_33 rfl (lv_at hl 1 rfl) ?_
          refine va_get (D := D) (ci := 5) (v := .ref qr0) (C := RX5) (T := TX5) (N := 11) hx hb hts hi_RX5 hown hK hP 0 rfl rfl 2 (by decide) (hts (.fieldLink RX5 19 "TravelMarks" "trial" "LTravelMarks$Port;") (List.mem_of_getElem? (i := 1) rfl)) (fun _ h9 => h9) rfl dX5_fitsFrom_34 ?_
          obtain ⟨v8, h9, hf⟩ := ob1_e hf
          refine kcv (Wx := (oTM q0 qn0 qk0 qr0 qc0 qt0 qd0 qs0 qf0 qw0 rowCount anyKept (oPort C qn0 qn1 qn2 qn3 qn4 qn5 qn6 now (oPort C qr0 qr1 qr2 qr3 qr4 qr5 qr6 v8 (oSheet C b0_0 b0_1 w0 []))))) (va_runV (As := []) (rest := []) ⟨hx, hb, hml, hown, hts⟩ (c_X1_passHour l E D C qr0 qr1 qr2 qr3 qr4 qr5 qr6 H.size N v6 v8 h9) (cwV 0 hts gX5_fitsFrom_X1_passHour rfl rfl rfl hdX1_passHour ⟨Nat.le_of_ble_eq_true rfl, Nat.le_of_ble_eq_true rfl⟩) (kpreV hP hD hK hS hE hA [8, 9, 10, 11, 12, 13, 14] rfl rfl 8 rfl rfl rfl) rfl rfl hl.1 rfl (lv_room (Nat.le_of_ble_eq_true rfl)) dX5_fitsFrom_37 ⟨Nat.zero_le _, Nat.zero_le _⟩) hP hD hS hA [8, 9, 10, 11, 12, 13, 14] rfl rfl rfl (fun H locs hP hD hS => ?_)
          refine lv_aload_n hx hb dX5_fitsFrom_40 rfl (lv_at hl 2 rfl) ?_
          refine va_get (D := D) (ci := 2) (v := .ref b0_1) (C := RX2) (T := TX2) (N := 3) hx hb hts hi_RX2 hown hK hP 15 rfl rfl 0 (by decide) (hts (.fieldLink RX5 222 "TravelMarks$Sheet" "items" "[J") (List.mem_of_getElem? (i := 5) rfl)) (fun _ h9 => h9) rfl dX5_fitsFrom_41 ?_
          refine lv_iload hx hb dX5_fitsFrom_44 (lv_at hl 0 rfl) ?_
          obtain ⟨y11, ey11, hi10, hf⟩ := rdA_x hf
          refine va_lald hx hb hK hP 16 2 rfl rfl hi10 dX5_fitsFrom_46 ?_
          refine lv_renL ey11 ?_
          refine lv_lstore (lv' := [(5, .long y11), (4, .int i5), (0, .ref q0), (1, .ref b0_0), (2, .int x1)]) hx hb dX5_fitsFrom_47 hl (by decide) rfl (fun ls hl => ?_)
          refine lv_lload hx hb dX5_fitsFrom_49 (lv_at hl 0 rfl) ?_
          refine lv_ldc2 (v := (-1)) hx hb hown (hts (.constantLong RX5 226 (-1)) (List.mem_of_getElem? (i := 6) rfl)) dX5_fitsFrom_51 ?_
          refine W.lcmp hx hb dX5_fitsFrom_54 ?_
          obtain ⟨j12, hj12, hf⟩ := lj_e hf
          have Hj12 : ∀ (H : Heap) (locs : List Loc) (ls : Array Slot), va_P D vwCl (oTM q0 qn0 qk0 qr0 qc0 qt0 qd0 qs0 qf0 qw0 rowCount anyKept (oPort C qn0 qn1 qn2 qn3 qn4 qn5 qn6 now (oPort C qr0 qr1 qr2 qr3 qr4 qr5 qr6 v8 (oSheet C b0_0 b0_1 w0 [])))) H → va_D A (oTM q0 qn0 qk0 qr0 qc0 qt0 qd0 qs0 qf0 qw0 rowCount anyKept (oPort C qn0 qn1 qn2 qn3 qn4 qn5 qn6 now (oPort C qr0 qr1 qr2 qr3 qr4 qr5 qr6 v8 (oSheet C b0_0 b0_1 w0 [])))) → va_S A s.heap H locs → lv_has ls 7 [(4, .int i5), (0, .ref q0), (1, .ref b0_0), (2, .int x1)] → j12 = some (r, trial') → W p l e (headSpec wsX5_fitsFrom (rmX5_fitsFrom)).room s m (List.toArray [Value.ref q0, Value.ref b0_0, Value.int x1, Value.int x2]) below meth c H locs 0 0 Q (F0 m 76 ls []) := by
            intro H locs ls hP hD hS hl hf
            rw [hj12] at hf
            obtain ⟨t13, et13, hf⟩ := lj_e hf
            refine lv_iinc (v := t13) (lv' := [(4, .int t13), (0, .ref q0), (1, .ref b0_0), (2, .int x1)]) hx hb dX5_fitsFrom_76 hl (k := 0) rfl (by rw [et13]; rfl) (by decide) rfl (fun ls hl => ?_)
            refine lv_goto (tgt := 24) hx hb dX5_fitsFrom_79 (by decide) ?_
            exact ih t13 v8 H locs ls hP hD hS (lv_sub hl [0, 1, 2, 3] rfl) hf
          refine lv_if_eq (tgt := 76) hx hb dX5_fitsFrom_55 (by decide) (fun c14 => ?_) (fun c14 => ?_)
          · replace hf := if_te c14 hf
            exact Hj12 H locs ls hP hD hS (lv_sub hl [1, 2, 3, 4] rfl) hf
          · replace hf := if_fe c14 hf
            refine lv_lload hx hb dX5_fitsFrom_58 (lv_at hl 0 rfl) ?_
            refine lv_aload_n hx hb dX5_fitsFrom_60 rfl (lv_at hl 2 rfl) ?_
            refine va_get (D := D) (ci := 5) (v := .ref qr0) (C := RX5) (T := TX5) (N := 11) hx hb hts hi_RX5 hown hK hP 0 rfl rfl 2 (by decide) (hts (.fieldLink RX5 19 "TravelMarks" "trial" "LTravelMarks$Port;") (List.mem_of_getElem? (i := 1) rfl)) (fun _ h9 => h9) rfl dX5_fitsFrom_61 ?_
            refine va_get (D := D) (ci := 1) (v := .ref qr4) (C := RX1) (T := TX1) (N := 10) hx hb hts hi_RX1 hown hK hP 8 rfl rfl 3 (by decide) (hts (.fieldLink RX5 120 "TravelMarks$Port" "on" "[I") (List.mem_of_getElem? (i := 3) rfl)) (fun _ h9 => h9) rfl dX5_fitsFrom_64 ?_
            refine lv_iload_n hx hb dX5_fitsFrom_67 rfl (lv_at hl 4 rfl) ?_
            obtain ⟨y16, ey16, hi15, hf⟩ := rdA_x hf
            refine va_iald hx hb hK hP 12 0 rfl rfl hi15 dX5_fitsFrom_68 ?_
            refine lv_ren ey16 ?_
            refine lv_i2l hx hb dX5_fitsFrom_69 rfl ?_
            refine W.lcmp hx hb dX5_fitsFrom_70 ?_
            refine lv_if_eq (tgt := 76) hx hb dX5_fitsFrom_71 (by decide) (fun c17 => ?_) (fun c17 => ?_)
            · replace hf := if_te c17 hf
              exact Hj12 H locs ls hP hD hS (lv_sub hl [1, 2, 3, 4] rfl) hf
            · replace hf := if_fe c17 hf
              refine lv_iconst (v := 0) hx hb dX5_fitsFrom_74 rfl ?_
              cases hf
              exact krz hQ hAe hx hb hr hlocks zb_0 hP hD hK hS dX5_fitsFrom_75
    exact hL24 N 0 v4 H locs ls hP hD hS (lv_sub hl [0, 1, 2, 3] rfl) hf
  exact main _ _ hP hD hS

def rmX5_fits : Room := { frames := 5, cells := 0, slots := 0, locals := 117 }
theorem hdX5_fits : yX5_fits.cls = RX5 ∧ yX5_fits.cls ≠ "java/lang/invoke/MethodHandle" ∧ yX5_fits.cls ≠ "java/lang/invoke/VarHandle" ∧ (parseMethodDescriptor yX5_fits.desc).map (fun d => d.parameters.length) = some 3 := by decide +kernel
set_option maxHeartbeats 40000000 in
set_option maxRecDepth 100000 in
theorem c_X5_fits (l : Launch) (E : Nat → Nat) (D : va_G) (C : Nat → ClassId) (q0 qn0 qk0 qr0 qc0 qt0 qd0 qs0 qf0 qw0 qn1 qn2 qn3 qn4 qn5 qn6 qr1 qr2 qr3 qr4 qr5 qr6 qs1 qs2 qs3 qs4 qs5 qs6 qs7 qs8 : Nat) (sz : Nat) (N : Nat) (rowCount : Int32) (anyKept : Int32) (now : PV) (trial : PV) (sheets : Nat → HV) (x0 : Int32) (x1 : Int32) (x2 : Int32) (r : Int32) (trial' : PV) (hf : f_X5_fits N now trial sheets x0 x1 x2 = some (r, trial')) : Met l yX5_fits wsX5_fits rmX5_fits (PC E D C [.ref q0, .int x0, .int x1, .int x2] (oTM q0 qn0 qk0 qr0 qc0 qt0 qd0 qs0 qf0 qw0 rowCount anyKept (oPort C qn0 qn1 qn2 qn3 qn4 qn5 qn6 now (oPort C qr0 qr1 qr2 qr3 qr4 qr5 qr6 trial (oSheets C qs0 qs1 qs2 qs3 qs4 qs5 qs6 qs7 qs8 sheets [])))) sz) (QI D C (oTM q0 qn0 qk0 qr0 qc0 qt0 qd0 qs0 qf0 qw0 rowCount anyKept (oPort C qn0 qn1 qn2 qn3 qn4 qn5 qn6 now (oPort C qr0 qr1 qr2 qr3 qr4 qr5 qr6 trial (oSheets C qs0 qs1 qs2 qs3 qs4 qs5 qs6 qs7 qs8 sheets [])))) (oTM q0 qn0 qk0 qr0 qc0 qt0 qd0 qs0 qf0 qw0 rowCount anyKept (oPort C qn0 qn1 qn2 qn3 qn4 qn5 qn6 now (oPort C qr0 qr1 qr2 qr3 qr4 qr5 qr6 (trial') (oSheets C qs0 qs1 qs2 qs3 qs4 qs5 qs6 qs7 qs8 sheets [])))) sz r) 0 0 (va_A (oTM q0 qn0 qk0 qr0 qc0 qt0 qd0 qs0 qf0 qw0 rowCount anyKept (oPort C qn0 qn1 qn2 qn3 qn4 qn5 qn6 now (oPort C qr0 qr1 qr2 qr3 qr4 qr5 qr6 trial (oSheets C qs0 qs1 qs2 qs3 qs4 qs5 qs6 qs7 qs8 sheets [])))) sz) := by
  refine Met.ofW (cc := cX5_fits) (maxL := 7) (ret := (some .int)) (by decide) rfl ?_
  intro p e s m args below meth c s₁ B hml hv
  obtain ⟨rfl, hsz, hP, hK, hD0, hE⟩ := hv
  have hx := B.exec
  have hb := B.bytes
  have hr := B.returns
  have hts := atoms_spec (ws := wsX5_fits) B.pre
  have hown : s.vm.findClass RX5 = some m.cls := findClass_of_methodNamed B.named
  have hlocks := B.notSynchronized
  subst hsz
  have hi_RX2 : ∀ w ∈ wsX20, w ∈ wsX5_fits := fun _ h => List.mem_cons_of_mem _ (List.mem_append_left _ (List.mem_append_right _ h))
  have hi_RX5 : ∀ w ∈ wsX50, w ∈ wsX5_fits := fun _ h => List.mem_cons_of_mem _ (List.mem_append_left _ (List.mem_append_left _ (List.mem_append_right _ h)))
  have hD := hD0.self (sz := s.heap.size)
  obtain ⟨A, hAe⟩ := nm_ex (va_A (oTM q0 qn0 qk0 qr0 qc0 qt0 qd0 qs0 qf0 qw0 rowCount anyKept (oPort C qn0 qn1 qn2 qn3 qn4 qn5 qn6 now (oPort C qr0 qr1 qr2 qr3 qr4 qr5 qr6 trial (oSheets C qs0 qs1 qs2 qs3 qs4 qs5 qs6 qs7 qs8 sheets [])))) s.heap.size)
  rw [← hAe] at hD hE ⊢
  have hA : ∀ q : Nat, s.heap.size ≤ q → A q := fun q h => by rw [hAe]; exact Or.inr h
  have hS : va_S A s.heap s.heap [] := va_S.rf
  have hl := lv_entry ([.ref q0, .int x0, .int x1, .int x2]) (n := 7) (Nat.le_of_ble_eq_true rfl)
  rw [lg_entry_eq]
  generalize (lg_sl ([.ref q0, .int x0, .int x1, .int x2]) ++ List.replicate (7 - (lg_sl ([.ref q0, .int x0, .int x1, .int x2])).length) Slot.unset).toArray = ls at hl ⊢
  have hl : lv_has ls 7 [(0, .ref q0), (1, .int x0), (2, .int x1), (3, .int x2)] := hl
  obtain ⟨Q, hQ⟩ := nm_ex (MQ below (QI D C (oTM q0 qn0 qk0 qr0 qc0 qt0 qd0 qs0 qf0 qw0 rowCount anyKept (oPort C qn0 qn1 qn2 qn3 qn4 qn5 qn6 now (oPort C qr0 qr1 qr2 qr3 qr4 qr5 qr6 trial (oSheets C qs0 qs1 qs2 qs3 qs4 qs5 qs6 qs7 qs8 sheets [])))) (oTM q0 qn0 qk0 qr0 qc0 qt0 qd0 qs0 qf0 qw0 rowCount anyKept (oPort C qn0 qn1 qn2 qn3 qn4 qn5 qn6 now (oPort C qr0 qr1 qr2 qr3 qr4 qr5 qr6 (trial') (oSheets C qs0 qs1 qs2 qs3 qs4 qs5 qs6 qs7 qs8 sheets [])))) s.heap.size r) (List.toArray [Value.ref q0, Value.int x0, Value.int x1, Value.int x2]) s 0 0 A)
  show W p l e (headSpec wsX5_fits (rmX5_fits)).room s m (List.toArray [Value.ref q0, Value.int x0, Value.int x1, Value.int x2]) below meth c s.heap [] 0 0 (MQ below (QI D C (oTM q0 qn0 qk0 qr0 qc0 qt0 qd0 qs0 qf0 qw0 rowCount anyKept (oPort C qn0 qn1 qn2 qn3 qn4 qn5 qn6 now (oPort C qr0 qr1 qr2 qr3 qr4 qr5 qr6 trial (oSheets C qs0 qs1 qs2 qs3 qs4 qs5 qs6 qs7 qs8 sheets [])))) (oTM q0 qn0 qk0 qr0 qc0 qt0 qd0 qs0 qf0 qw0 rowCount anyKept (oPort C qn0 qn1 qn2 qn3 qn4 qn5 qn6 now (oPort C qr0 qr1 qr2 qr3 qr4 qr5 qr6 (trial') (oSheets C qs0 qs1 qs2 qs3 qs4 qs5 qs6 qs7 qs8 sheets [])))) s.heap.size r) (List.toArray [Value.ref q0, Value.int x0, Value.int x1, Value.int x2]) s 0 0 A) _
  rw [← hQ]
  unfold f_X5_fits at hf
  have main : ∀ (H : Heap) (locs : List Loc), va_P D vwCl (oTM q0 qn0 qk0 qr0 qc0 qt0 qd0 qs0 qf0 qw0 rowCount anyKept (oPort C qn0 qn1 qn2 qn3 qn4 qn5 qn6 now (oPort C qr0 qr1 qr2 qr3 qr4 qr5 qr6 trial (oSheets C qs0 qs1 qs2 qs3 qs4 qs5 qs6 qs7 qs8 sheets [])))) H → va_D A (oTM q0 qn0 qk0 qr0 qc0 qt0 qd0 qs0 qf0 qw0 rowCount anyKept (oPort C qn0 qn1 qn2 qn3 qn4 qn5 qn6 now (oPort C qr0 qr1 qr2 qr3 qr4 qr5 qr6 trial (oSheets C qs0 qs1 qs2 qs3 qs4 qs5 qs6 qs7 qs8 sheets [])))) → va_S A s.heap H locs → W p l e (headSpec wsX5_fits (rmX5_fits)).room s m (List.toArray [Value.ref q0, Value.int x0, Value.int x1, Value.int x2]) below meth c H locs 0 0 Q (F0 m 0 ls []) := by
    intro H locs hP hD hS
    refine lv_iload_n hx hb dX5_fits_0 rfl (lv_at hl 1 rfl) ?_
    refine kcz (Wx := (oTM q0 qn0 qk0 qr0 qc0 qt0 qd0 qs0 qf0 qw0 rowCount anyKept (oPort C qn0 qn1 qn2 qn3 qn4 qn5 qn6 now (oPort C qr0 qr1 qr2 qr3 qr4 qr5 qr6 trial (oSheets C qs0 qs1 qs2 qs3 qs4 qs5 qs6 qs7 qs8 sheets []))))) (va_runS (As := [.int x0]) (rest := []) ⟨hx, hb, hml, hown, hts⟩ (c_X5_isSheet l E D C H.size x0 _ rfl) (va_cwS 1 hts gX5_fits_X5_isSheet rfl rfl rfl hdX5_isSheet ⟨Nat.le_of_ble_eq_true rfl, Nat.le_of_ble_eq_true rfl⟩) (kpre hP hD hK hS hE hA [] rfl rfl) rfl rfl hl.1 rfl (lv_room (Nat.le_of_ble_eq_true rfl)) dX5_fits_1 ⟨Nat.zero_le _, Nat.zero_le _⟩) hP hD hS hA [] rfl rfl rfl (fun H locs hz1 hP hD hS => ?_)
    refine lv_if_eq (tgt := 24) hx hb dX5_fits_4 (by decide) (fun c2 => ?_) (fun c2 => ?_)
    · replace hf := if_te c2 hf
      refine lv_iconst (v := (-1)) hx hb dX5_fits_24 rfl ?_
      cases hf
      exact kri hQ hAe hx hb hr hlocks hP hD hK hS dX5_fits_25
    · replace hf := if_fe c2 hf
      refine lv_aload_n hx hb dX5_fits_7 rfl (lv_at hl 0 rfl) ?_
      refine lv_iload_n hx hb dX5_fits_8 rfl (lv_at hl 2 rfl) ?_
      refine kcz (Wx := (oTM q0 qn0 qk0 qr0 qc0 qt0 qd0 qs0 qf0 qw0 rowCount anyKept (oPort C qn0 qn1 qn2 qn3 qn4 qn5 qn6 now (oPort C qr0 qr1 qr2 qr3 qr4 qr5 qr6 trial (oSheets C qs0 qs1 qs2 qs3 qs4 qs5 qs6 qs7 qs8 sheets []))))) (va_runV (As := [.int x1]) (rest := []) ⟨hx, hb, hml, hown, hts⟩ (c_X5_isMark l E D C q0 qn0 qk0 qr0 qc0 qt0 qd0 qs0 qf0 qw0 qn1 qn2 qn3 qn4 qn5 qn6 H.size rowCount anyKept now x1 _ rfl) (cwV 1 hts gX5_fits_X5_isMark rfl rfl rfl hdX5_isMark ⟨Nat.le_of_ble_eq_true rfl, Nat.le_of_ble_eq_true rfl⟩) (kpreV hP hD hK hS hE hA [0, 1, 2, 3, 4, 5, 6, 7] rfl rfl 0 rfl rfl rfl) rfl rfl hl.1 rfl (lv_room (Nat.le_of_ble_eq_true rfl)) dX5_fits_9 ⟨Nat.zero_le _, Nat.zero_le _⟩) hP hD hS hA [0, 1, 2, 3, 4, 5, 6, 7] rfl rfl rfl (fun H locs hz3 hP hD hS => ?_)
      refine lv_if_eq (tgt := 24) hx hb dX5_fits_12 (by decide) (fun c4 => ?_) (fun c4 => ?_)
      · replace hf := if_te c4 hf
        refine lv_iconst (v := (-1)) hx hb dX5_fits_24 rfl ?_
        cases hf
        exact kri hQ hAe hx hb hr hlocks hP hD hK hS dX5_fits_25
      · replace hf := if_fe c4 hf
        refine lv_iload_n hx hb dX5_fits_15 rfl (lv_at hl 3 rfl) ?_
        refine lv_iconst (v := 0) hx hb dX5_fits_16 rfl ?_
        refine lv_iconst (v := 1) hx hb dX5_fits_17 rfl ?_
        refine kcz (Wx := (oTM q0 qn0 qk0 qr0 qc0 qt0 qd0 qs0 qf0 qw0 rowCount anyKept (oPort C qn0 qn1 qn2 qn3 qn4 qn5 qn6 now (oPort C qr0 qr1 qr2 qr3 qr4 qr5 qr6 trial (oSheets C qs0 qs1 qs2 qs3 qs4 qs5 qs6 qs7 qs8 sheets []))))) (va_runS (As := [.int x2, .int 0, .int 1]) (rest := []) ⟨hx, hb, hml, hown, hts⟩ (c_X5_within l E D C H.size x2 0 1 _ rfl) (va_cwS 3 hts gX5_fits_X5_within rfl rfl rfl hdX5_within ⟨Nat.le_of_ble_eq_true rfl, Nat.le_of_ble_eq_true rfl⟩) (kpre hP hD hK hS hE hA [] rfl rfl) rfl rfl hl.1 rfl (lv_room (Nat.le_of_ble_eq_true rfl)) dX5_fits_18 ⟨Nat.zero_le _, Nat.zero_le _⟩) hP hD hS hA [] rfl rfl rfl (fun H locs hz5 hP hD hS => ?_)
        refine lv_if_ne (tgt := 26) hx hb dX5_fits_21 (by decide) (fun c6 => ?_) (fun c6 => ?_)
        · replace hf := if_fe c6 hf
          refine lv_aload_n hx hb dX5_fits_26 rfl (lv_at hl 0 rfl) ?_
          refine va_get (D := D) (ci := 5) (v := .ref qs0) (C := RX5) (T := TX5) (N := 11) hx hb hts hi_RX5 hown hK hP 0 rfl rfl 6 (by decide) (hts (.fieldLink RX5 41 "TravelMarks" "sheets" "[LTravelMarks$Sheet;") (List.mem_of_getElem? (i := 1) rfl)) (fun _ h9 => h9) rfl dX5_fits_27 ?_
          refine lv_iload_n hx hb dX5_fits_30 rfl (lv_at hl 1 rfl) ?_
          obtain ⟨hi7, hf⟩ := ckA_e hf
          obtain ⟨o8, eo8, hf⟩ := lj_e hf
          rcases four hi7 with e4_9 | e4_9 | e4_9 | e4_9
          · rw [e4_9] at eo8
            subst eo8
            try rw [e4_9] at hf
            refine va_aldq hx hb hK hP 15 3 rfl rfl hi7 dX5_fits_31 ?_
            rw [e4_9]
            refine lv_renV (v := .ref qs1) rfl ?_
            refine va_get (D := D) (ci := 2) (v := .int (shSort (sheets 0))) (C := RX2) (T := TX2) (N := 3) hx hb hts hi_RX2 hown hK hP 16 rfl rfl 1 (by decide) (hts (.fieldLink RX5 212 "TravelMarks$Sheet" "sort" "I") (List.mem_of_getElem? (i := 2) rfl)) (fun _ h9 => h9) rfl dX5_fits_32 ?_
            refine lv_iconst (v := (-1)) hx hb dX5_fits_35 rfl ?_
            refine lv_icmp_ne (tgt := 42) hx hb dX5_fits_36 (by decide) (fun c10 => ?_) (fun c10 => ?_)
            · replace hf := if_fe c10 hf
              refine lv_iconst (v := 0) hx hb dX5_fits_42 rfl ?_
              refine lv_istore (lv' := [(4, .int 0), (0, .ref q0), (1, .int x0), (2, .int x1), (3, .int x2)]) hx hb dX5_fits_43 hl (by decide) rfl (fun ls hl => ?_)
              refine lv_bipush (v := (-3)) hx hb dX5_fits_45 rfl ?_
              refine lv_istore (lv' := [(5, .int (-3)), (4, .int 0), (0, .ref q0), (1, .int x0), (2, .int x1), (3, .int x2)]) hx hb dX5_fits_47 hl (by decide) rfl (fun ls hl => ?_)
              refine lv_bipush (v := 7) hx hb dX5_fits_49 rfl ?_
              refine lv_istore (lv' := [(6, .int 7), (5, .int (-3)), (4, .int 0), (0, .ref q0), (1, .int x0), (2, .int x1), (3, .int x2)]) hx hb dX5_fits_51 hl (by decide) rfl (fun ls hl => ?_)
              obtain ⟨j14, hj14, hf⟩ := lj_e hf
              have Hj14 : ∀ (i11 : Int32) (i12 : Int32) (v13 : PV) (H : Heap) (locs : List Loc) (ls : Array Slot), va_P D vwCl (oTM q0 qn0 qk0 qr0 qc0 qt0 qd0 qs0 qf0 qw0 rowCount anyKept (oPort C qn0 qn1 qn2 qn3 qn4 qn5 qn6 now (oPort C qr0 qr1 qr2 qr3 qr4 qr5 qr6 v13 (oSheets C qs0 qs1 qs2 qs3 qs4 qs5 qs6 qs7 qs8 sheets [])))) H → va_D A (oTM q0 qn0 qk0 qr0 qc0 qt0 qd0 qs0 qf0 qw0 rowCount anyKept (oPort C qn0 qn1 qn2 qn3 qn4 qn5 qn6 now (oPort C qr0 qr1 qr2 qr3 qr4 qr5 qr6 v13 (oSheets C qs0 qs1 qs2 qs3 qs4 qs5 qs6 qs7 qs8 sheets [])))) → va_S A s.heap H locs → lv_has ls 7 [(5, .int i11), (4, .int i12), (3, .int x2)] → j14 i11 i12 v13 = some (r, trial') → W p l e (headSpec wsX5_fits (rmX5_fits)).room s m (List.toArray [Value.ref q0, Value.int x0, Value.int x1, Value.int x2]) below meth c H locs 0 0 Q (F0 m 87 ls []) := by
                intro i11 i12 v13 H locs ls hP hD hS hl hf
                rw [hj14] at hf
                refine lv_iload_n hx hb dX5_fits_87 rfl (lv_at hl 2 rfl) ?_
                refine lv_if_ne (tgt := 96) hx hb dX5_fits_88 (by decide) (fun c15 => ?_) (fun c15 => ?_)
                · replace hf := if_fe c15 hf
                  refine lv_iload hx hb dX5_fits_96 (lv_at hl 0 rfl) ?_
                  cases hf
                  exact kri hQ hAe hx hb hr hlocks hP hD hK hS dX5_fits_98
                · replace hf := if_te c15 hf
                  refine lv_iload hx hb dX5_fits_91 (lv_at hl 1 rfl) ?_
                  refine lv_goto (tgt := 98) hx hb dX5_fits_93 (by decide) ?_
                  cases hf
                  exact kri hQ hAe hx hb hr hlocks hP hD hK hS dX5_fits_98
              have hL53 : ∀ (n : Nat) (i16 : Int32) (i17 : Int32) (i18 : Int32) (v19 : PV) (H : Heap) (locs : List Loc) (ls : Array Slot), va_P D vwCl (oTM q0 qn0 qk0 qr0 qc0 qt0 qd0 qs0 qf0 qw0 rowCount anyKept (oPort C qn0 qn1 qn2 qn3 qn4 qn5 qn6 now (oPort C qr0 qr1 qr2 qr3 qr4 qr5 qr6 v19 (oSheets C qs0 qs1 qs2 qs3 qs4 qs5 qs6 qs7 qs8 sheets [])))) H → va_D A (oTM q0 qn0 qk0 qr0 qc0 qt0 qd0 qs0 qf0 qw0 rowCount anyKept (oPort C qn0 qn1 qn2 qn3 qn4 qn5 qn6 now (oPort C qr0 qr1 qr2 qr3 qr4 qr5 qr6 v19 (oSheets C qs0 qs1 qs2 qs3 qs4 qs5 qs6 qs7 qs8 sheets [])))) → va_S A s.heap H locs → lv_has ls 7 [(6, .int i16), (5, .int i17), (4, .int i18), (0, .ref q0), (1, .int x0), (2, .int x1), (3, .int x2)] → f_X5_fits_L53 N now sheets x0 x1 j14 n i16 i17 i18 v19 = some (r, trial') → W p l e (headSpec wsX5_fits (rmX5_fits)).room s m (List.toArray [Value.ref q0, Value.int x0, Value.int x1, Value.int x2]) below meth c H locs 0 0 Q (F0 m 53 ls []) := by
                intro n
                induction n with
                | zero =>
                  intro i16 i17 i18 v19 H locs ls hP hD hS hl hf
                  exact absurd hf (fun h => by cases h)
                | succ n ih =>
                  intro i16 i17 i18 v19 H locs ls hP hD hS hl hf
                  rw [f_X5_fits_L53] at hf
                  refine lv_iload hx hb dX5_fits_53 (lv_at hl 0 rfl) ?_
                  refine lv_if_lt (tgt := 87) hx hb dX5_fits_55 (by decide) (fun c20 => ?_) (fun c20 => ?_)
                  · replace hf := if_te c20 hf
                    exact Hj14 i17 i18 v19 H locs ls hP hD hS (lv_sub hl [1, 2, 6] rfl) hf
                  · replace hf := if_fe c20 hf
                    refine lv_aload_n hx hb dX5_fits_58 rfl (lv_at hl 3 rfl) ?_
                    refine lv_aload_n hx hb dX5_fits_59 rfl (lv_at hl 3 rfl) ?_
                    refine va_get (D := D) (ci := 5) (v := .ref qs0) (C := RX5) (T := TX5) (N := 11) hx hb hts hi_RX5 hown hK hP 0 rfl rfl 6 (by decide) (hts (.fieldLink RX5 41 "TravelMarks" "sheets" "[LTravelMarks$Sheet;") (List.mem_of_getElem? (i := 1) rfl)) (fun _ h9 => h9) rfl dX5_fits_60 ?_
                    refine lv_iload_n hx hb dX5_fits_63 rfl (lv_at hl 4 rfl) ?_
                    obtain ⟨hi21, hf⟩ := ckA_e hf
                    obtain ⟨o22, eo22, hf⟩ := lj_e hf
                    try rw [e4_9] at eo22
                    subst eo22
                    try rw [e4_9] at hf
                    refine va_aldq hx hb hK hP 15 3 rfl rfl hi21 dX5_fits_64 ?_
                    rw [e4_9]
                    refine lv_renV (v := .ref qs1) rfl ?_
                    refine lv_iload_n hx hb dX5_fits_65 rfl (lv_at hl 5 rfl) ?_
                    refine lv_iload hx hb dX5_fits_66 (lv_at hl 0 rfl) ?_
                    obtain ⟨r24, v25, h26, hf⟩ := ob2_e hf
                    refine kcz (Wx := (oTM q0 qn0 qk0 qr0 qc0 qt0 qd0 qs0 qf0 qw0 rowCount anyKept (oPort C qn0 qn1 qn2 qn3 qn4 qn5 qn6 now (oPort C qr0 qr1 qr2 qr3 qr4 qr5 qr6 v25 (oSheets C qs0 qs1 qs2 qs3 qs4 qs5 qs6 qs7 qs8 sheets []))))) (va_runV (As := [.ref qs1, .int x1, .int i16]) (rest := []) ⟨hx, hb, hml, hown, hts⟩ (c_X5_fitsFrom l E D C q0 qn0 qk0 qr0 qc0 qt0 qd0 qs0 qf0 qw0 qn1 qn2 qn3 qn4 qn5 qn6 qr1 qr2 qr3 qr4 qr5 qr6 qs1 qs2 H.size N rowCount anyKept now v19 (sheets 0) x1 i16 r24 v25 h26) (cwV 3 hts gX5_fits_X5_fitsFrom rfl rfl rfl hdX5_fitsFrom ⟨Nat.le_of_ble_eq_true rfl, Nat.le_of_ble_eq_true rfl⟩) (kpreV hP hD hK hS hE hA [0, 1, 2, 3, 4, 5, 6, 7, 8, 9, 10, 11, 12, 13, 14, 16, 17] rfl rfl 0 rfl rfl rfl) rfl rfl hl.1 rfl (lv_room (Nat.le_of_ble_eq_true rfl)) dX5_fits_68 ⟨Nat.zero_le _, Nat.zero_le _⟩) hP hD hS hA [0, 1, 2, 3, 4, 5, 6, 7, 8, 9, 10, 11, 12, 13, 14, 16, 17] rfl rfl rfl (fun H locs hz27 hP hD hS => ?_)
                    obtain ⟨j30, hj30, hf⟩ := lj_e hf
                    have Hj30 : ∀ (i28 : Int32) (i29 : Int32) (H : Heap) (locs : List Loc) (ls : Array Slot), va_P D vwCl (oTM q0 qn0 qk0 qr0 qc0 qt0 qd0 qs0 qf0 qw0 rowCount anyKept (oPort C qn0 qn1 qn2 qn3 qn4 qn5 qn6 now (oPort C qr0 qr1 qr2 qr3 qr4 qr5 qr6 v25 (oSheets C qs0 qs1 qs2 qs3 qs4 qs5 qs6 qs7 qs8 sheets [])))) H → va_D A (oTM q0 qn0 qk0 qr0 qc0 qt0 qd0 qs0 qf0 qw0 rowCount anyKept (oPort C qn0 qn1 qn2 qn3 qn4 qn5 qn6 now (oPort C qr0 qr1 qr2 qr3 qr4 qr5 qr6 v25 (oSheets C qs0 qs1 qs2 qs3 qs4 qs5 qs6 qs7 qs8 sheets [])))) → va_S A s.heap H locs → lv_has ls 7 [(6, .int i16), (5, .int i28), (4, .int i29), (0, .ref q0), (1, .int x0), (2, .int x1), (3, .int x2)] → j30 i28 i29 = some (r, trial') → W p l e (headSpec wsX5_fits (rmX5_fits)).room s m (List.toArray [Value.ref q0, Value.int x0, Value.int x1, Value.int x2]) below meth c H locs 0 0 Q (F0 m 81 ls []) := by
                      intro i28 i29 H locs ls hP hD hS hl hf
                      rw [hj30] at hf
                      obtain ⟨t31, et31, hf⟩ := lj_e hf
                      refine lv_iinc (v := t31) (lv' := [(6, .int t31), (5, .int i28), (4, .int i29), (0, .ref q0), (1, .int x0), (2, .int x1), (3, .int x2)]) hx hb dX5_fits_81 hl (k := 0) rfl (by rw [et31]; rfl) (by decide) rfl (fun ls hl => ?_)
                      refine lv_goto (tgt := 53) hx hb dX5_fits_84 (by decide) ?_
                      exact ih t31 i28 i29 v25 H locs ls hP hD hS (lv_sub hl [0, 1, 2, 3, 4, 5, 6] rfl) hf
                    refine lv_if_eq (tgt := 81) hx hb dX5_fits_71 (by decide) (fun c32 => ?_) (fun c32 => ?_)
                    · replace hf := if_te c32 hf
                      exact Hj30 i17 i18 H locs ls hP hD hS (lv_sub hl [0, 1, 2, 3, 4, 5, 6] rfl) hf
                    · replace hf := if_fe c32 hf
                      obtain ⟨t33, et33, hf⟩ := lj_e hf
                      refine lv_iinc (v := t33) (lv' := [(4, .int t33), (6, .int i16), (5, .int i17), (0, .ref q0), (1, .int x0), (2, .int x1), (3, .int x2)]) hx hb dX5_fits_74 hl (k := 2) rfl (by rw [et33]; rfl) (by decide) rfl (fun ls hl => ?_)
                      refine lv_iload hx hb dX5_fits_77 (lv_at hl 1 rfl) ?_
                      refine lv_istore (lv' := [(5, .int i16), (4, .int t33), (6, .int i16), (0, .ref q0), (1, .int x0), (2, .int x1), (3, .int x2)]) hx hb dX5_fits_79 hl (by decide) rfl (fun ls hl => ?_)
                      exact Hj30 i16 t33 H locs ls hP hD hS (lv_sub hl [2, 0, 1, 3, 4, 5, 6] rfl) hf
              exact hL53 N 7 (-3) 0 trial H locs ls hP hD hS (lv_sub hl [0, 1, 2, 3, 4, 5, 6] rfl) hf
            · replace hf := if_te c10 hf
              refine lv_bipush (v := (-11)) hx hb dX5_fits_39 rfl ?_
              cases hf
              exact kri hQ hAe hx hb hr hlocks hP hD hK hS dX5_fits_41
          · rw [e4_9] at eo8
            subst eo8
            try rw [e4_9] at hf
            refine va_aldq hx hb hK hP 15 3 rfl rfl hi7 dX5_fits_31 ?_
            rw [e4_9]
            refine lv_renV (v := .ref qs3) rfl ?_
            refine va_get (D := D) (ci := 2) (v := .int (shSort (sheets 1))) (C := RX2) (T := TX2) (N := 3) hx hb hts hi_RX2 hown hK hP 18 rfl rfl 1 (by decide) (hts (.fieldLink RX5 212 "TravelMarks$Sheet" "sort" "I") (List.mem_of_getElem? (i := 2) rfl)) (fun _ h9 => h9) rfl dX5_fits_32 ?_
            refine lv_iconst (v := (-1)) hx hb dX5_fits_35 rfl ?_
            refine lv_icmp_ne (tgt := 42) hx hb dX5_fits_36 (by decide) (fun c10 => ?_) (fun c10 => ?_)
            · replace hf := if_fe c10 hf
              refine lv_iconst (v := 0) hx hb dX5_fits_42 rfl ?_
              refine lv_istore (lv' := [(4, .int 0), (0, .ref q0), (1, .int x0), (2, .int x1), (3, .int x2)]) hx hb dX5_fits_43 hl (by decide) rfl (fun ls hl => ?_)
              refine lv_bipush (v := (-3)) hx hb dX5_fits_45 rfl ?_
              refine lv_istore (lv' := [(5, .int (-3)), (4, .int 0), (0, .ref q0), (1, .int x0), (2, .int x1), (3, .int x2)]) hx hb dX5_fits_47 hl (by decide) rfl (fun ls hl => ?_)
              refine lv_bipush (v := 7) hx hb dX5_fits_49 rfl ?_
              refine lv_istore (lv' := [(6, .int 7), (5, .int (-3)), (4, .int 0), (0, .ref q0), (1, .int x0), (2, .int x1), (3, .int x2)]) hx hb dX5_fits_51 hl (by decide) rfl (fun ls hl => ?_)
              obtain ⟨j14, hj14, hf⟩ := lj_e hf
              have Hj14 : ∀ (i11 : Int32) (i12 : Int32) (v13 : PV) (H : Heap) (locs : List Loc) (ls : Array Slot), va_P D vwCl (oTM q0 qn0 qk0 qr0 qc0 qt0 qd0 qs0 qf0 qw0 rowCount anyKept (oPort C qn0 qn1 qn2 qn3 qn4 qn5 qn6 now (oPort C qr0 qr1 qr2 qr3 qr4 qr5 qr6 v13 (oSheets C qs0 qs1 qs2 qs3 qs4 qs5 qs6 qs7 qs8 sheets [])))) H → va_D A (oTM q0 qn0 qk0 qr0 qc0 qt0 qd0 qs0 qf0 qw0 rowCount anyKept (oPort C qn0 qn1 qn2 qn3 qn4 qn5 qn6 now (oPort C qr0 qr1 qr2 qr3 qr4 qr5 qr6 v13 (oSheets C qs0 qs1 qs2 qs3 qs4 qs5 qs6 qs7 qs8 sheets [])))) → va_S A s.heap H locs → lv_has ls 7 [(5, .int i11), (4, .int i12), (3, .int x2)] → j14 i11 i12 v13 = some (r, trial') → W p l e (headSpec wsX5_fits (rmX5_fits)).room s m (List.toArray [Value.ref q0, Value.int x0, Value.int x1, Value.int x2]) below meth c H locs 0 0 Q (F0 m 87 ls []) := by
                intro i11 i12 v13 H locs ls hP hD hS hl hf
                rw [hj14] at hf
                refine lv_iload_n hx hb dX5_fits_87 rfl (lv_at hl 2 rfl) ?_
                refine lv_if_ne (tgt := 96) hx hb dX5_fits_88 (by decide) (fun c15 => ?_) (fun c15 => ?_)
                · replace hf := if_fe c15 hf
                  refine lv_iload hx hb dX5_fits_96 (lv_at hl 0 rfl) ?_
                  cases hf
                  exact kri hQ hAe hx hb hr hlocks hP hD hK hS dX5_fits_98
                · replace hf := if_te c15 hf
                  refine lv_iload hx hb dX5_fits_91 (lv_at hl 1 rfl) ?_
                  refine lv_goto (tgt := 98) hx hb dX5_fits_93 (by decide) ?_
                  cases hf
                  exact kri hQ hAe hx hb hr hlocks hP hD hK hS dX5_fits_98
              have hL53 : ∀ (n : Nat) (i16 : Int32) (i17 : Int32) (i18 : Int32) (v19 : PV) (H : Heap) (locs : List Loc) (ls : Array Slot), va_P D vwCl (oTM q0 qn0 qk0 qr0 qc0 qt0 qd0 qs0 qf0 qw0 rowCount anyKept (oPort C qn0 qn1 qn2 qn3 qn4 qn5 qn6 now (oPort C qr0 qr1 qr2 qr3 qr4 qr5 qr6 v19 (oSheets C qs0 qs1 qs2 qs3 qs4 qs5 qs6 qs7 qs8 sheets [])))) H → va_D A (oTM q0 qn0 qk0 qr0 qc0 qt0 qd0 qs0 qf0 qw0 rowCount anyKept (oPort C qn0 qn1 qn2 qn3 qn4 qn5 qn6 now (oPort C qr0 qr1 qr2 qr3 qr4 qr5 qr6 v19 (oSheets C qs0 qs1 qs2 qs3 qs4 qs5 qs6 qs7 qs8 sheets [])))) → va_S A s.heap H locs → lv_has ls 7 [(6, .int i16), (5, .int i17), (4, .int i18), (0, .ref q0), (1, .int x0), (2, .int x1), (3, .int x2)] → f_X5_fits_L53 N now sheets x0 x1 j14 n i16 i17 i18 v19 = some (r, trial') → W p l e (headSpec wsX5_fits (rmX5_fits)).room s m (List.toArray [Value.ref q0, Value.int x0, Value.int x1, Value.int x2]) below meth c H locs 0 0 Q (F0 m 53 ls []) := by
                intro n
                induction n with
                | zero =>
                  intro i16 i17 i18 v19 H locs ls hP hD hS hl hf
                  exact absurd hf (fun h => by cases h)
                | succ n ih =>
                  intro i16 i17 i18 v19 H locs ls hP hD hS hl hf
                  rw [f_X5_fits_L53] at hf
                  refine lv_iload hx hb dX5_fits_53 (lv_at hl 0 rfl) ?_
                  refine lv_if_lt (tgt := 87) hx hb dX5_fits_55 (by decide) (fun c20 => ?_) (fun c20 => ?_)
                  · replace hf := if_te c20 hf
                    exact Hj14 i17 i18 v19 H locs ls hP hD hS (lv_sub hl [1, 2, 6] rfl) hf
                  · replace hf := if_fe c20 hf
                    refine lv_aload_n hx hb dX5_fits_58 rfl (lv_at hl 3 rfl) ?_
                    refine lv_aload_n hx hb dX5_fits_59 rfl (lv_at hl 3 rfl) ?_
                    refine va_get (D := D) (ci := 5) (v := .ref qs0) (C := RX5) (T := TX5) (N := 11) hx hb hts hi_RX5 hown hK hP 0 rfl rfl 6 (by decide) (hts (.fieldLink RX5 41 "TravelMarks" "sheets" "[LTravelMarks$Sheet;") (List.mem_of_getElem? (i := 1) rfl)) (fun _ h9 => h9) rfl dX5_fits_60 ?_
                    refine lv_iload_n hx hb dX5_fits_63 rfl (lv_at hl 4 rfl) ?_
                    obtain ⟨hi21, hf⟩ := ckA_e hf
                    obtain ⟨o22, eo22, hf⟩ := lj_e hf
                    try rw [e4_9] at eo22
                    subst eo22
                    try rw [e4_9] at hf
                    refine va_aldq hx hb hK hP 15 3 rfl rfl hi21 dX5_fits_64 ?_
                    rw [e4_9]
                    refine lv_renV (v := .ref qs3) rfl ?_
                    refine lv_iload_n hx hb dX5_fits_65 rfl (lv_at hl 5 rfl) ?_
                    refine lv_iload hx hb dX5_fits_66 (lv_at hl 0 rfl) ?_
                    obtain ⟨r24, v25, h26, hf⟩ := ob2_e hf
                    refine kcz (Wx := (oTM q0 qn0 qk0 qr0 qc0 qt0 qd0 qs0 qf0 qw0 rowCount anyKept (oPort C qn0 qn1 qn2 qn3 qn4 qn5 qn6 now (oPort C qr0 qr1 qr2 qr3 qr4 qr5 qr6 v25 (oSheets C qs0 qs1 qs2 qs3 qs4 qs5 qs6 qs7 qs8 sheets []))))) (va_runV (As := [.ref qs3, .int x1, .int i16]) (rest := []) ⟨hx, hb, hml, hown, hts⟩ (c_X5_fitsFrom l E D C q0 qn0 qk0 qr0 qc0 qt0 qd0 qs0 qf0 qw0 qn1 qn2 qn3 qn4 qn5 qn6 qr1 qr2 qr3 qr4 qr5 qr6 qs3 qs4 H.size N rowCount anyKept now v19 (sheets 1) x1 i16 r24 v25 h26) (cwV 3 hts gX5_fits_X5_fitsFrom rfl rfl rfl hdX5_fitsFrom ⟨Nat.le_of_ble_eq_true rfl, Nat.le_of_ble_eq_true rfl⟩) (kpreV hP hD hK hS hE hA [0, 1, 2, 3, 4, 5, 6, 7, 8, 9, 10, 11, 12, 13, 14, 18, 19] rfl rfl 0 rfl rfl rfl) rfl rfl hl.1 rfl (lv_room (Nat.le_of_ble_eq_true rfl)) dX5_fits_68 ⟨Nat.zero_le _, Nat.zero_le _⟩) hP hD hS hA [0, 1, 2, 3, 4, 5, 6, 7, 8, 9, 10, 11, 12, 13, 14, 18, 19] rfl rfl rfl (fun H locs hz27 hP hD hS => ?_)
                    obtain ⟨j30, hj30, hf⟩ := lj_e hf
                    have Hj30 : ∀ (i28 : Int32) (i29 : Int32) (H : Heap) (locs : List Loc) (ls : Array Slot), va_P D vwCl (oTM q0 qn0 qk0 qr0 qc0 qt0 qd0 qs0 qf0 qw0 rowCount anyKept (oPort C qn0 qn1 qn2 qn3 qn4 qn5 qn6 now (oPort C qr0 qr1 qr2 qr3 qr4 qr5 qr6 v25 (oSheets C qs0 qs1 qs2 qs3 qs4 qs5 qs6 qs7 qs8 sheets [])))) H → va_D A (oTM q0 qn0 qk0 qr0 qc0 qt0 qd0 qs0 qf0 qw0 rowCount anyKept (oPort C qn0 qn1 qn2 qn3 qn4 qn5 qn6 now (oPort C qr0 qr1 qr2 qr3 qr4 qr5 qr6 v25 (oSheets C qs0 qs1 qs2 qs3 qs4 qs5 qs6 qs7 qs8 sheets [])))) → va_S A s.heap H locs → lv_has ls 7 [(6, .int i16), (5, .int i28), (4, .int i29), (0, .ref q0), (1, .int x0), (2, .int x1), (3, .int x2)] → j30 i28 i29 = some (r, trial') → W p l e (headSpec wsX5_fits (rmX5_fits)).room s m (List.toArray [Value.ref q0, Value.int x0, Value.int x1, Value.int x2]) below meth c H locs 0 0 Q (F0 m 81 ls []) := by
                      intro i28 i29 H locs ls hP hD hS hl hf
                      rw [hj30] at hf
                      obtain ⟨t31, et31, hf⟩ := lj_e hf
                      refine lv_iinc (v := t31) (lv' := [(6, .int t31), (5, .int i28), (4, .int i29), (0, .ref q0), (1, .int x0), (2, .int x1), (3, .int x2)]) hx hb dX5_fits_81 hl (k := 0) rfl (by rw [et31]; rfl) (by decide) rfl (fun ls hl => ?_)
                      refine lv_goto (tgt := 53) hx hb dX5_fits_84 (by decide) ?_
                      exact ih t31 i28 i29 v25 H locs ls hP hD hS (lv_sub hl [0, 1, 2, 3, 4, 5, 6] rfl) hf
                    refine lv_if_eq (tgt := 81) hx hb dX5_fits_71 (by decide) (fun c32 => ?_) (fun c32 => ?_)
                    · replace hf := if_te c32 hf
                      exact Hj30 i17 i18 H locs ls hP hD hS (lv_sub hl [0, 1, 2, 3, 4, 5, 6] rfl) hf
                    · replace hf := if_fe c32 hf
                      obtain ⟨t33, et33, hf⟩ := lj_e hf
                      refine lv_iinc (v := t33) (lv' := [(4, .int t33), (6, .int i16), (5, .int i17), (0, .ref q0), (1, .int x0), (2, .int x1), (3, .int x2)]) hx hb dX5_fits_74 hl (k := 2) rfl (by rw [et33]; rfl) (by decide) rfl (fun ls hl => ?_)
                      refine lv_iload hx hb dX5_fits_77 (lv_at hl 1 rfl) ?_
                      refine lv_istore (lv' := [(5, .int i16), (4, .int t33), (6, .int i16), (0, .ref q0), (1, .int x0), (2, .int x1), (3, .int x2)]) hx hb dX5_fits_79 hl (by decide) rfl (fun ls hl => ?_)
                      exact Hj30 i16 t33 H locs ls hP hD hS (lv_sub hl [2, 0, 1, 3, 4, 5, 6] rfl) hf
              exact hL53 N 7 (-3) 0 trial H locs ls hP hD hS (lv_sub hl [0, 1, 2, 3, 4, 5, 6] rfl) hf
            · replace hf := if_te c10 hf
              refine lv_bipush (v := (-11)) hx hb dX5_fits_39 rfl ?_
              cases hf
              exact kri hQ hAe hx hb hr hlocks hP hD hK hS dX5_fits_41
          · rw [e4_9] at eo8
            subst eo8
            try rw [e4_9] at hf
            refine va_aldq hx hb hK hP 15 3 rfl rfl hi7 dX5_fits_31 ?_
            rw [e4_9]
            refine lv_renV (v := .ref qs5) rfl ?_
            refine va_get (D := D) (ci := 2) (v := .int (shSort (sheets 2))) (C := RX2) (T := TX2) (N := 3) hx hb hts hi_RX2 hown hK hP 20 rfl rfl 1 (by decide) (hts (.fieldLink RX5 212 "TravelMarks$Sheet" "sort" "I") (List.mem_of_getElem? (i := 2) rfl)) (fun _ h9 => h9) rfl dX5_fits_32 ?_
            refine lv_iconst (v := (-1)) hx hb dX5_fits_35 rfl ?_
            refine lv_icmp_ne (tgt := 42) hx hb dX5_fits_36 (by decide) (fun c10 => ?_) (fun c10 => ?_)
            · replace hf := if_fe c10 hf
              refine lv_iconst (v := 0) hx hb dX5_fits_42 rfl ?_
              refine lv_istore (lv' := [(4, .int 0), (0, .ref q0), (1, .int x0), (2, .int x1), (3, .int x2)]) hx hb dX5_fits_43 hl (by decide) rfl (fun ls hl => ?_)
              refine lv_bipush (v := (-3)) hx hb dX5_fits_45 rfl ?_
              refine lv_istore (lv' := [(5, .int (-3)), (4, .int 0), (0, .ref q0), (1, .int x0), (2, .int x1), (3, .int x2)]) hx hb dX5_fits_47 hl (by decide) rfl (fun ls hl => ?_)
              refine lv_bipush (v := 7) hx hb dX5_fits_49 rfl ?_
              refine lv_istore (lv' := [(6, .int 7), (5, .int (-3)), (4, .int 0), (0, .ref q0), (1, .int x0), (2, .int x1), (3, .int x2)]) hx hb dX5_fits_51 hl (by decide) rfl (fun ls hl => ?_)
              obtain ⟨j14, hj14, hf⟩ := lj_e hf
              have Hj14 : ∀ (i11 : Int32) (i12 : Int32) (v13 : PV) (H : Heap) (locs : List Loc) (ls : Array Slot), va_P D vwCl (oTM q0 qn0 qk0 qr0 qc0 qt0 qd0 qs0 qf0 qw0 rowCount anyKept (oPort C qn0 qn1 qn2 qn3 qn4 qn5 qn6 now (oPort C qr0 qr1 qr2 qr3 qr4 qr5 qr6 v13 (oSheets C qs0 qs1 qs2 qs3 qs4 qs5 qs6 qs7 qs8 sheets [])))) H → va_D A (oTM q0 qn0 qk0 qr0 qc0 qt0 qd0 qs0 qf0 qw0 rowCount anyKept (oPort C qn0 qn1 qn2 qn3 qn4 qn5 qn6 now (oPort C qr0 qr1 qr2 qr3 qr4 qr5 qr6 v13 (oSheets C qs0 qs1 qs2 qs3 qs4 qs5 qs6 qs7 qs8 sheets [])))) → va_S A s.heap H locs → lv_has ls 7 [(5, .int i11), (4, .int i12), (3, .int x2)] → j14 i11 i12 v13 = some (r, trial') → W p l e (headSpec wsX5_fits (rmX5_fits)).room s m (List.toArray [Value.ref q0, Value.int x0, Value.int x1, Value.int x2]) below meth c H locs 0 0 Q (F0 m 87 ls []) := by
                intro i11 i12 v13 H locs ls hP hD hS hl hf
                rw [hj14] at hf
                refine lv_iload_n hx hb dX5_fits_87 rfl (lv_at hl 2 rfl) ?_
                refine lv_if_ne (tgt := 96) hx hb dX5_fits_88 (by decide) (fun c15 => ?_) (fun c15 => ?_)
                · replace hf := if_fe c15 hf
                  refine lv_iload hx hb dX5_fits_96 (lv_at hl 0 rfl) ?_
                  cases hf
                  exact kri hQ hAe hx hb hr hlocks hP hD hK hS dX5_fits_98
                · replace hf := if_te c15 hf
                  refine lv_iload hx hb dX5_fits_91 (lv_at hl 1 rfl) ?_
                  refine lv_goto (tgt := 98) hx hb dX5_fits_93 (by decide) ?_
                  cases hf
                  exact kri hQ hAe hx hb hr hlocks hP hD hK hS dX5_fits_98
              have hL53 : ∀ (n : Nat) (i16 : Int32) (i17 : Int32) (i18 : Int32) (v19 : PV) (H : Heap) (locs : List Loc) (ls : Array Slot), va_P D vwCl (oTM q0 qn0 qk0 qr0 qc0 qt0 qd0 qs0 qf0 qw0 rowCount anyKept (oPort C qn0 qn1 qn2 qn3 qn4 qn5 qn6 now (oPort C qr0 qr1 qr2 qr3 qr4 qr5 qr6 v19 (oSheets C qs0 qs1 qs2 qs3 qs4 qs5 qs6 qs7 qs8 sheets [])))) H → va_D A (oTM q0 qn0 qk0 qr0 qc0 qt0 qd0 qs0 qf0 qw0 rowCount anyKept (oPort C qn0 qn1 qn2 qn3 qn4 qn5 qn6 now (oPort C qr0 qr1 qr2 qr3 qr4 qr5 qr6 v19 (oSheets C qs0 qs1 qs2 qs3 qs4 qs5 qs6 qs7 qs8 sheets [])))) → va_S A s.heap H locs → lv_has ls 7 [(6, .int i16), (5, .int i17), (4, .int i18), (0, .ref q0), (1, .int x0), (2, .int x1), (3, .int x2)] → f_X5_fits_L53 N now sheets x0 x1 j14 n i16 i17 i18 v19 = some (r, trial') → W p l e (headSpec wsX5_fits (rmX5_fits)).room s m (List.toArray [Value.ref q0, Value.int x0, Value.int x1, Value.int x2]) below meth c H locs 0 0 Q (F0 m 53 ls []) := by
                intro n
                induction n with
                | zero =>
                  intro i16 i17 i18 v19 H locs ls hP hD hS hl hf
                  exact absurd hf (fun h => by cases h)
                | succ n ih =>
                  intro i16 i17 i18 v19 H locs ls hP hD hS hl hf
                  rw [f_X5_fits_L53] at hf
                  refine lv_iload hx hb dX5_fits_53 (lv_at hl 0 rfl) ?_
                  refine lv_if_lt (tgt := 87) hx hb dX5_fits_55 (by decide) (fun c20 => ?_) (fun c20 => ?_)
                  · replace hf := if_te c20 hf
                    exact Hj14 i17 i18 v19 H locs ls hP hD hS (lv_sub hl [1, 2, 6] rfl) hf
                  · replace hf := if_fe c20 hf
                    refine lv_aload_n hx hb dX5_fits_58 rfl (lv_at hl 3 rfl) ?_
                    refine lv_aload_n hx hb dX5_fits_59 rfl (lv_at hl 3 rfl) ?_
                    refine va_get (D := D) (ci := 5) (v := .ref qs0) (C := RX5) (T := TX5) (N := 11) hx hb hts hi_RX5 hown hK hP 0 rfl rfl 6 (by decide) (hts (.fieldLink RX5 41 "TravelMarks" "sheets" "[LTravelMarks$Sheet;") (List.mem_of_getElem? (i := 1) rfl)) (fun _ h9 => h9) rfl dX5_fits_60 ?_
                    refine lv_iload_n hx hb dX5_fits_63 rfl (lv_at hl 4 rfl) ?_
                    obtain ⟨hi21, hf⟩ := ckA_e hf
                    obtain ⟨o22, eo22, hf⟩ := lj_e hf
                    try rw [e4_9] at eo22
                    subst eo22
                    try rw [e4_9] at hf
                    refine va_aldq hx hb hK hP 15 3 rfl rfl hi21 dX5_fits_64 ?_
                    rw [e4_9]
                    refine lv_renV (v := .ref qs5) rfl ?_
                    refine lv_iload_n hx hb dX5_fits_65 rfl (lv_at hl 5 rfl) ?_
                    refine lv_iload hx hb dX5_fits_66 (lv_at hl 0 rfl) ?_
                    obtain ⟨r24, v25, h26, hf⟩ := ob2_e hf
                    refine kcz (Wx := (oTM q0 qn0 qk0 qr0 qc0 qt0 qd0 qs0 qf0 qw0 rowCount anyKept (oPort C qn0 qn1 qn2 qn3 qn4 qn5 qn6 now (oPort C qr0 qr1 qr2 qr3 qr4 qr5 qr6 v25 (oSheets C qs0 qs1 qs2 qs3 qs4 qs5 qs6 qs7 qs8 sheets []))))) (va_runV (As := [.ref qs5, .int x1, .int i16]) (rest := []) ⟨hx, hb, hml, hown, hts⟩ (c_X5_fitsFrom l E D C q0 qn0 qk0 qr0 qc0 qt0 qd0 qs0 qf0 qw0 qn1 qn2 qn3 qn4 qn5 qn6 qr1 qr2 qr3 qr4 qr5 qr6 qs5 qs6 H.size N rowCount anyKept now v19 (sheets 2) x1 i16 r24 v25 h26) (cwV 3 hts gX5_fits_X5_fitsFrom rfl rfl rfl hdX5_fitsFrom ⟨Nat.le_of_ble_eq_true rfl, Nat.le_of_ble_eq_true rfl⟩) (kpreV hP hD hK hS hE hA [0, 1, 2, 3, 4, 5, 6, 7, 8, 9, 10, 11, 12, 13, 14, 20, 21] rfl rfl 0 rfl rfl rfl) rfl rfl hl.1 rfl (lv_room (Nat.le_of_ble_eq_true rfl)) dX5_fits_68 ⟨Nat.zero_le _, Nat.zero_le _⟩) hP hD hS hA [0, 1, 2, 3, 4, 5, 6, 7, 8, 9, 10, 11, 12, 13, 14, 20, 21] rfl rfl rfl (fun H locs hz27 hP hD hS => ?_)
                    obtain ⟨j30, hj30, hf⟩ := lj_e hf
                    have Hj30 : ∀ (i28 : Int32) (i29 : Int32) (H : Heap) (locs : List Loc) (ls : Array Slot), va_P D vwCl (oTM q0 qn0 qk0 qr0 qc0 qt0 qd0 qs0 qf0 qw0 rowCount anyKept (oPort C qn0 qn1 qn2 qn3 qn4 qn5 qn6 now (oPort C qr0 qr1 qr2 qr3 qr4 qr5 qr6 v25 (oSheets C qs0 qs1 qs2 qs3 qs4 qs5 qs6 qs7 qs8 sheets [])))) H → va_D A (oTM q0 qn0 qk0 qr0 qc0 qt0 qd0 qs0 qf0 qw0 rowCount anyKept (oPort C qn0 qn1 qn2 qn3 qn4 qn5 qn6 now (oPort C qr0 qr1 qr2 qr3 qr4 qr5 qr6 v25 (oSheets C qs0 qs1 qs2 qs3 qs4 qs5 qs6 qs7 qs8 sheets [])))) → va_S A s.heap H locs → lv_has ls 7 [(6, .int i16), (5, .int i28), (4, .int i29), (0, .ref q0), (1, .int x0), (2, .int x1), (3, .int x2)] → j30 i28 i29 = some (r, trial') → W p l e (headSpec wsX5_fits (rmX5_fits)).room s m (List.toArray [Value.ref q0, Value.int x0, Value.int x1, Value.int x2]) below meth c H locs 0 0 Q (F0 m 81 ls []) := by
                      intro i28 i29 H locs ls hP hD hS hl hf
                      rw [hj30] at hf
                      obtain ⟨t31, et31, hf⟩ := lj_e hf
                      refine lv_iinc (v := t31) (lv' := [(6, .int t31), (5, .int i28), (4, .int i29), (0, .ref q0), (1, .int x0), (2, .int x1), (3, .int x2)]) hx hb dX5_fits_81 hl (k := 0) rfl (by rw [et31]; rfl) (by decide) rfl (fun ls hl => ?_)
                      refine lv_goto (tgt := 53) hx hb dX5_fits_84 (by decide) ?_
                      exact ih t31 i28 i29 v25 H locs ls hP hD hS (lv_sub hl [0, 1, 2, 3, 4, 5, 6] rfl) hf
                    refine lv_if_eq (tgt := 81) hx hb dX5_fits_71 (by decide) (fun c32 => ?_) (fun c32 => ?_)
                    · replace hf := if_te c32 hf
                      exact Hj30 i17 i18 H locs ls hP hD hS (lv_sub hl [0, 1, 2, 3, 4, 5, 6] rfl) hf
                    · replace hf := if_fe c32 hf
                      obtain ⟨t33, et33, hf⟩ := lj_e hf
                      refine lv_iinc (v := t33) (lv' := [(4, .int t33), (6, .int i16), (5, .int i17), (0, .ref q0), (1, .int x0), (2, .int x1), (3, .int x2)]) hx hb dX5_fits_74 hl (k := 2) rfl (by rw [et33]; rfl) (by decide) rfl (fun ls hl => ?_)
                      refine lv_iload hx hb dX5_fits_77 (lv_at hl 1 rfl) ?_
                      refine lv_istore (lv' := [(5, .int i16), (4, .int t33), (6, .int i16), (0, .ref q0), (1, .int x0), (2, .int x1), (3, .int x2)]) hx hb dX5_fits_79 hl (by decide) rfl (fun ls hl => ?_)
                      exact Hj30 i16 t33 H locs ls hP hD hS (lv_sub hl [2, 0, 1, 3, 4, 5, 6] rfl) hf
              exact hL53 N 7 (-3) 0 trial H locs ls hP hD hS (lv_sub hl [0, 1, 2, 3, 4, 5, 6] rfl) hf
            · replace hf := if_te c10 hf
              refine lv_bipush (v := (-11)) hx hb dX5_fits_39 rfl ?_
              cases hf
              exact kri hQ hAe hx hb hr hlocks hP hD hK hS dX5_fits_41
          · rw [e4_9] at eo8
            subst eo8
            try rw [e4_9] at hf
            refine va_aldq hx hb hK hP 15 3 rfl rfl hi7 dX5_fits_31 ?_
            rw [e4_9]
            refine lv_renV (v := .ref qs7) rfl ?_
            refine va_get (D := D) (ci := 2) (v := .int (shSort (sheets 3))) (C := RX2) (T := TX2) (N := 3) hx hb hts hi_RX2 hown hK hP 22 rfl rfl 1 (by decide) (hts (.fieldLink RX5 212 "TravelMarks$Sheet" "sort" "I") (List.mem_of_getElem? (i := 2) rfl)) (fun _ h9 => h9) rfl dX5_fits_32 ?_
            refine lv_iconst (v := (-1)) hx hb dX5_fits_35 rfl ?_
            refine lv_icmp_ne (tgt := 42) hx hb dX5_fits_36 (by decide) (fun c10 => ?_) (fun c10 => ?_)
            · replace hf := if_fe c10 hf
              refine lv_iconst (v := 0) hx hb dX5_fits_42 rfl ?_
              refine lv_istore (lv' := [(4, .int 0), (0, .ref q0), (1, .int x0), (2, .int x1), (3, .int x2)]) hx hb dX5_fits_43 hl (by decide) rfl (fun ls hl => ?_)
              refine lv_bipush (v := (-3)) hx hb dX5_fits_45 rfl ?_
              refine lv_istore (lv' := [(5, .int (-3)), (4, .int 0), (0, .ref q0), (1, .int x0), (2, .int x1), (3, .int x2)]) hx hb dX5_fits_47 hl (by decide) rfl (fun ls hl => ?_)
              refine lv_bipush (v := 7) hx hb dX5_fits_49 rfl ?_
              refine lv_istore (lv' := [(6, .int 7), (5, .int (-3)), (4, .int 0), (0, .ref q0), (1, .int x0), (2, .int x1), (3, .int x2)]) hx hb dX5_fits_51 hl (by decide) rfl (fun ls hl => ?_)
              obtain ⟨j14, hj14, hf⟩ := lj_e hf
              have Hj14 : ∀ (i11 : Int32) (i12 : Int32) (v13 : PV) (H : Heap) (locs : List Loc) (ls : Array Slot), va_P D vwCl (oTM q0 qn0 qk0 qr0 qc0 qt0 qd0 qs0 qf0 qw0 rowCount anyKept (oPort C qn0 qn1 qn2 qn3 qn4 qn5 qn6 now (oPort C qr0 qr1 qr2 qr3 qr4 qr5 qr6 v13 (oSheets C qs0 qs1 qs2 qs3 qs4 qs5 qs6 qs7 qs8 sheets [])))) H → va_D A (oTM q0 qn0 qk0 qr0 qc0 qt0 qd0 qs0 qf0 qw0 rowCount anyKept (oPort C qn0 qn1 qn2 qn3 qn4 qn5 qn6 now (oPort C qr0 qr1 qr2 qr3 qr4 qr5 qr6 v13 (oSheets C qs0 qs1 qs2 qs3 qs4 qs5 qs6 qs7 qs8 sheets [])))) → va_S A s.heap H locs → lv_has ls 7 [(5, .int i11), (4, .int i12), (3, .int x2)] → j14 i11 i12 v13 = some (r, trial') → W p l e (headSpec wsX5_fits (rmX5_fits)).room s m (List.toArray [Value.ref q0, Value.int x0, Value.int x1, Value.int x2]) below meth c H locs 0 0 Q (F0 m 87 ls []) := by
                intro i11 i12 v13 H locs ls hP hD hS hl hf
                rw [hj14] at hf
                refine lv_iload_n hx hb dX5_fits_87 rfl (lv_at hl 2 rfl) ?_
                refine lv_if_ne (tgt := 96) hx hb dX5_fits_88 (by decide) (fun c15 => ?_) (fun c15 => ?_)
                · replace hf := if_fe c15 hf
                  refine lv_iload hx hb dX5_fits_96 (lv_at hl 0 rfl) ?_
                  cases hf
                  exact kri hQ hAe hx hb hr hlocks hP hD hK hS dX5_fits_98
                · replace hf := if_te c15 hf
                  refine lv_iload hx hb dX5_fits_91 (lv_at hl 1 rfl) ?_
                  refine lv_goto (tgt := 98) hx hb dX5_fits_93 (by decide) ?_
                  cases hf
                  exact kri hQ hAe hx hb hr hlocks hP hD hK hS dX5_fits_98
              have hL53 : ∀ (n : Nat) (i16 : Int32) (i17 : Int32) (i18 : Int32) (v19 : PV) (H : Heap) (locs : List Loc) (ls : Array Slot), va_P D vwCl (oTM q0 qn0 qk0 qr0 qc0 qt0 qd0 qs0 qf0 qw0 rowCount anyKept (oPort C qn0 qn1 qn2 qn3 qn4 qn5 qn6 now (oPort C qr0 qr1 qr2 qr3 qr4 qr5 qr6 v19 (oSheets C qs0 qs1 qs2 qs3 qs4 qs5 qs6 qs7 qs8 sheets [])))) H → va_D A (oTM q0 qn0 qk0 qr0 qc0 qt0 qd0 qs0 qf0 qw0 rowCount anyKept (oPort C qn0 qn1 qn2 qn3 qn4 qn5 qn6 now (oPort C qr0 qr1 qr2 qr3 qr4 qr5 qr6 v19 (oSheets C qs0 qs1 qs2 qs3 qs4 qs5 qs6 qs7 qs8 sheets [])))) → va_S A s.heap H locs → lv_has ls 7 [(6, .int i16), (5, .int i17), (4, .int i18), (0, .ref q0), (1, .int x0), (2, .int x1), (3, .int x2)] → f_X5_fits_L53 N now sheets x0 x1 j14 n i16 i17 i18 v19 = some (r, trial') → W p l e (headSpec wsX5_fits (rmX5_fits)).room s m (List.toArray [Value.ref q0, Value.int x0, Value.int x1, Value.int x2]) below meth c H locs 0 0 Q (F0 m 53 ls []) := by
                intro n
                induction n with
                | zero =>
                  intro i16 i17 i18 v19 H locs ls hP hD hS hl hf
                  exact absurd hf (fun h => by cases h)
                | succ n ih =>
                  intro i16 i17 i18 v19 H locs ls hP hD hS hl hf
                  rw [f_X5_fits_L53] at hf
                  refine lv_iload hx hb dX5_fits_53 (lv_at hl 0 rfl) ?_
                  refine lv_if_lt (tgt := 87) hx hb dX5_fits_55 (by decide) (fun c20 => ?_) (fun c20 => ?_)
                  · replace hf := if_te c20 hf
                    exact Hj14 i17 i18 v19 H locs ls hP hD hS (lv_sub hl [1, 2, 6] rfl) hf
                  · replace hf := if_fe c20 hf
                    refine lv_aload_n hx hb dX5_fits_58 rfl (lv_at hl 3 rfl) ?_
                    refine lv_aload_n hx hb dX5_fits_59 rfl (lv_at hl 3 rfl) ?_
                    refine va_get (D := D) (ci := 5) (v := .ref qs0) (C := RX5) (T := TX5) (N := 11) hx hb hts hi_RX5 hown hK hP 0 rfl rfl 6 (by decide) (hts (.fieldLink RX5 41 "TravelMarks" "sheets" "[LTravelMarks$Sheet;") (List.mem_of_getElem? (i := 1) rfl)) (fun _ h9 => h9) rfl dX5_fits_60 ?_
                    refine lv_iload_n hx hb dX5_fits_63 rfl (lv_at hl 4 rfl) ?_
                    obtain ⟨hi21, hf⟩ := ckA_e hf
                    obtain ⟨o22, eo22, hf⟩ := lj_e hf
                    try rw [e4_9] at eo22
                    subst eo22
                    try rw [e4_9] at hf
                    refine va_aldq hx hb hK hP 15 3 rfl rfl hi21 dX5_fits_64 ?_
                    rw [e4_9]
                    refine lv_renV (v := .ref qs7) rfl ?_
                    refine lv_iload_n hx hb dX5_fits_65 rfl (lv_at hl 5 rfl) ?_
                    refine lv_iload hx hb dX5_fits_66 (lv_at hl 0 rfl) ?_
                    obtain ⟨r24, v25, h26, hf⟩ := ob2_e hf
                    refine kcz (Wx := (oTM q0 qn0 qk0 qr0 qc0 qt0 qd0 qs0 qf0 qw0 rowCount anyKept (oPort C qn0 qn1 qn2 qn3 qn4 qn5 qn6 now (oPort C qr0 qr1 qr2 qr3 qr4 qr5 qr6 v25 (oSheets C qs0 qs1 qs2 qs3 qs4 qs5 qs6 qs7 qs8 sheets []))))) (va_runV (As := [.ref qs7, .int x1, .int i16]) (rest := []) ⟨hx, hb, hml, hown, hts⟩ (c_X5_fitsFrom l E D C q0 qn0 qk0 qr0 qc0 qt0 qd0 qs0 qf0 qw0 qn1 qn2 qn3 qn4 qn5 qn6 qr1 qr2 qr3 qr4 qr5 qr6 qs7 qs8 H.size N rowCount anyKept now v19 (sheets 3) x1 i16 r24 v25 h26) (cwV 3 hts gX5_fits_X5_fitsFrom rfl rfl rfl hdX5_fitsFrom ⟨Nat.le_of_ble_eq_true rfl, Nat.le_of_ble_eq_true rfl⟩) (kpreV hP hD hK hS hE hA [0, 1, 2, 3, 4, 5, 6, 7, 8, 9, 10, 11, 12, 13, 14, 22, 23] rfl rfl 0 rfl rfl rfl) rfl rfl hl.1 rfl (lv_room (Nat.le_of_ble_eq_true rfl)) dX5_fits_68 ⟨Nat.zero_le _, Nat.zero_le _⟩) hP hD hS hA [0, 1, 2, 3, 4, 5, 6, 7, 8, 9, 10, 11, 12, 13, 14, 22, 23] rfl rfl rfl (fun H locs hz27 hP hD hS => ?_)
                    obtain ⟨j30, hj30, hf⟩ := lj_e hf
                    have Hj30 : ∀ (i28 : Int32) (i29 : Int32) (H : Heap) (locs : List Loc) (ls : Array Slot), va_P D vwCl (oTM q0 qn0 qk0 qr0 qc0 qt0 qd0 qs0 qf0 qw0 rowCount anyKept (oPort C qn0 qn1 qn2 qn3 qn4 qn5 qn6 now (oPort C qr0 qr1 qr2 qr3 qr4 qr5 qr6 v25 (oSheets C qs0 qs1 qs2 qs3 qs4 qs5 qs6 qs7 qs8 sheets [])))) H → va_D A (oTM q0 qn0 qk0 qr0 qc0 qt0 qd0 qs0 qf0 qw0 rowCount anyKept (oPort C qn0 qn1 qn2 qn3 qn4 qn5 qn6 now (oPort C qr0 qr1 qr2 qr3 qr4 qr5 qr6 v25 (oSheets C qs0 qs1 qs2 qs3 qs4 qs5 qs6 qs7 qs8 sheets [])))) → va_S A s.heap H locs → lv_has ls 7 [(6, .int i16), (5, .int i28), (4, .int i29), (0, .ref q0), (1, .int x0), (2, .int x1), (3, .int x2)] → j30 i28 i29 = some (r, trial') → W p l e (headSpec wsX5_fits (rmX5_fits)).room s m (List.toArray [Value.ref q0, Value.int x0, Value.int x1, Value.int x2]) below meth c H locs 0 0 Q (F0 m 81 ls []) := by
                      intro i28 i29 H locs ls hP hD hS hl hf
                      rw [hj30] at hf
                      obtain ⟨t31, et31, hf⟩ := lj_e hf
                      refine lv_iinc (v := t31) (lv' := [(6, .int t31), (5, .int i28), (4, .int i29), (0, .ref q0), (1, .int x0), (2, .int x1), (3, .int x2)]) hx hb dX5_fits_81 hl (k := 0) rfl (by rw [et31]; rfl) (by decide) rfl (fun ls hl => ?_)
                      refine lv_goto (tgt := 53) hx hb dX5_fits_84 (by decide) ?_
                      exact ih t31 i28 i29 v25 H locs ls hP hD hS (lv_sub hl [0, 1, 2, 3, 4, 5, 6] rfl) hf
                    refine lv_if_eq (tgt := 81) hx hb dX5_fits_71 (by decide) (fun c32 => ?_) (fun c32 => ?_)
                    · replace hf := if_te c32 hf
                      exact Hj30 i17 i18 H locs ls hP hD hS (lv_sub hl [0, 1, 2, 3, 4, 5, 6] rfl) hf
                    · replace hf := if_fe c32 hf
                      obtain ⟨t33, et33, hf⟩ := lj_e hf
                      refine lv_iinc (v := t33) (lv' := [(4, .int t33), (6, .int i16), (5, .int i17), (0, .ref q0), (1, .int x0), (2, .int x1), (3, .int x2)]) hx hb dX5_fits_74 hl (k := 2) rfl (by rw [et33]; rfl) (by decide) rfl (fun ls hl => ?_)
                      refine lv_iload hx hb dX5_fits_77 (lv_at hl 1 rfl) ?_
                      refine lv_istore (lv' := [(5, .int i16), (4, .int t33), (6, .int i16), (0, .ref q0), (1, .int x0), (2, .int x1), (3, .int x2)]) hx hb dX5_fits_79 hl (by decide) rfl (fun ls hl => ?_)
                      exact Hj30 i16 t33 H locs ls hP hD hS (lv_sub hl [2, 0, 1, 3, 4, 5, 6] rfl) hf
              exact hL53 N 7 (-3) 0 trial H locs ls hP hD hS (lv_sub hl [0, 1, 2, 3, 4, 5, 6] rfl) hf
            · replace hf := if_te c10 hf
              refine lv_bipush (v := (-11)) hx hb dX5_fits_39 rfl ?_
              cases hf
              exact kri hQ hAe hx hb hr hlocks hP hD hK hS dX5_fits_41
        · replace hf := if_te c6 hf
          refine lv_iconst (v := (-1)) hx hb dX5_fits_24 rfl ?_
          cases hf
          exact kri hQ hAe hx hb hr hlocks hP hD hK hS dX5_fits_25
  exact main _ _ hP hD hS

def rmX5_choices : Room := { frames := 0, cells := 0, slots := 0, locals := 0 }
theorem hdX5_choices : yX5_choices.cls ≠ "java/lang/invoke/MethodHandle" ∧ yX5_choices.cls ≠ "java/lang/invoke/VarHandle" ∧ (parseMethodDescriptor yX5_choices.desc).map (fun d => d.parameters.length) = some 2 := by decide +kernel
set_option maxHeartbeats 40000000 in
set_option maxRecDepth 100000 in
theorem c_X5_choices (l : Launch) (E : Nat → Nat) (D : va_G) (C : Nat → ClassId) (sz : Nat) (N : Nat)  (x0 : Int32) (x1 : Int32) (r : Int64) (hf : f_X5_choices N x0 x1 = some r) : Met l yX5_choices wsX5_choices rmX5_choices (PC E D C [.int x0, .int x1] [] sz) (QL D C [] [] sz r) 0 0 (va_A [] sz) := by
  refine Met.ofW (cc := cX5_choices) (maxL := 5) (ret := (some .long)) (by decide) rfl ?_
  intro p e s m args below meth c s₁ B hml hv
  obtain ⟨rfl, hsz, hP, hK, hD0, hE⟩ := hv
  have hx := B.exec
  have hb := B.bytes
  have hr := B.returns
  have hts := atoms_spec (ws := wsX5_choices) B.pre
  have hown : s.vm.findClass RX5 = some m.cls := findClass_of_methodNamed B.named
  have hlocks := B.notSynchronized
  subst hsz
  have hD := hD0.self (sz := s.heap.size)
  obtain ⟨A, hAe⟩ := nm_ex (va_A [] s.heap.size)
  rw [← hAe] at hD hE ⊢
  have hA : ∀ q : Nat, s.heap.size ≤ q → A q := fun q h => by rw [hAe]; exact Or.inr h
  have hS : va_S A s.heap s.heap [] := va_S.rf
  have hl := lv_entry ([.int x0, .int x1]) (n := 5) (Nat.le_of_ble_eq_true rfl)
  rw [lg_entry_eq]
  generalize (lg_sl ([.int x0, .int x1]) ++ List.replicate (5 - (lg_sl ([.int x0, .int x1])).length) Slot.unset).toArray = ls at hl ⊢
  have hl : lv_has ls 5 [(0, .int x0), (1, .int x1)] := hl
  obtain ⟨Q, hQ⟩ := nm_ex (MQ below (QL D C [] [] s.heap.size r) (List.toArray [Value.int x0, Value.int x1]) s 0 0 A)
  show W p l e (headSpec wsX5_choices (rmX5_choices)).room s m (List.toArray [Value.int x0, Value.int x1]) below meth c s.heap [] 0 0 (MQ below (QL D C [] [] s.heap.size r) (List.toArray [Value.int x0, Value.int x1]) s 0 0 A) _
  rw [← hQ]
  unfold f_X5_choices at hf
  have main : ∀ (H : Heap) (locs : List Loc), va_P D vwCl [] H → va_D A [] → va_S A s.heap H locs → W p l e (headSpec wsX5_choices (rmX5_choices)).room s m (List.toArray [Value.int x0, Value.int x1]) below meth c H locs 0 0 Q (F0 m 0 ls []) := by
    intro H locs hP hD hS
    refine lv_lconst (v := 1) hx hb dX5_choices_0 rfl ?_
    refine lv_lstore_n (lv' := [(2, .long 1), (0, .int x0), (1, .int x1)]) hx hb dX5_choices_1 rfl hl (by decide) rfl (fun ls hl => ?_)
    refine lv_iconst (v := 1) hx hb dX5_choices_2 rfl ?_
    refine lv_istore (lv' := [(4, .int 1), (2, .long 1), (0, .int x0), (1, .int x1)]) hx hb dX5_choices_3 hl (by decide) rfl (fun ls hl => ?_)
    have hL5 : ∀ (n : Nat) (i1 : Int32) (i2 : Int64) (H : Heap) (locs : List Loc) (ls : Array Slot), va_P D vwCl [] H → va_D A [] → va_S A s.heap H locs → lv_has ls 5 [(4, .int i1), (2, .long i2), (0, .int x0), (1, .int x1)] → f_X5_choices_L5 x0 x1 n i1 i2 = some r → W p l e (headSpec wsX5_choices (rmX5_choices)).room s m (List.toArray [Value.int x0, Value.int x1]) below meth c H locs 0 0 Q (F0 m 5 ls []) := by
      intro n
      induction n with
      | zero =>
        intro i1 i2 H locs ls hP hD hS hl hf
        exact absurd hf (fun h => by cases h)
      | succ n ih =>
        intro i1 i2 H locs ls hP hD hS hl hf
        rw [f_X5_choices_L5] at hf
        refine lv_iload hx hb dX5_choices_5 (lv_at hl 0 rfl) ?_
        refine lv_iload_n hx hb dX5_choices_7 rfl (lv_at hl 3 rfl) ?_
        refine lv_icmp_gt (tgt := 31) hx hb dX5_choices_8 (by decide) (fun c3 => ?_) (fun c3 => ?_)
        · replace hf := if_te c3 hf
          refine lv_lload_n hx hb dX5_choices_31 rfl (lv_at hl 1 rfl) ?_
          cases hf
          exact krl hQ hAe hx hb hr hlocks hP hD hK hS dX5_choices_32
        · replace hf := if_fe c3 hf
          refine lv_lload_n hx hb dX5_choices_11 rfl (lv_at hl 1 rfl) ?_
          refine lv_iload_n hx hb dX5_choices_12 rfl (lv_at hl 2 rfl) ?_
          refine lv_iload_n hx hb dX5_choices_13 rfl (lv_at hl 3 rfl) ?_
          refine lv_isub hx hb dX5_choices_14 ?_
          refine lv_iload hx hb dX5_choices_15 (lv_at hl 0 rfl) ?_
          refine lv_iadd hx hb dX5_choices_17 ?_
          refine lv_i2l hx hb dX5_choices_18 rfl ?_
          refine lv_lmul hx hb dX5_choices_19 ?_
          refine lv_iload hx hb dX5_choices_20 (lv_at hl 0 rfl) ?_
          refine lv_i2l hx hb dX5_choices_22 rfl ?_
          obtain ⟨hz4, hf⟩ := gdP_e hf
          refine lv_ldiv hx hb dX5_choices_23 hz4 ?_
          obtain ⟨t5, et5, hf⟩ := lj_e hf
          refine lv_renL et5 ?_
          refine lv_lstore_n (lv' := [(2, .long t5), (4, .int i1), (0, .int x0), (1, .int x1)]) hx hb dX5_choices_24 rfl hl (by decide) rfl (fun ls hl => ?_)
          obtain ⟨t6, et6, hf⟩ := lj_e hf
          refine lv_iinc (v := t6) (lv' := [(4, .int t6), (2, .long t5), (0, .int x0), (1, .int x1)]) hx hb dX5_choices_25 hl (k := 1) rfl (by rw [et6]; rfl) (by decide) rfl (fun ls hl => ?_)
          refine lv_goto (tgt := 5) hx hb dX5_choices_28 (by decide) ?_
          exact ih t6 t5 H locs ls hP hD hS (lv_sub hl [0, 1, 2, 3] rfl) hf
    exact hL5 N 1 1 H locs ls hP hD hS (lv_sub hl [0, 1, 2, 3] rfl) hf
  exact main _ _ hP hD hS

def rmX5_power : Room := { frames := 0, cells := 0, slots := 0, locals := 0 }
theorem hdX5_power : yX5_power.cls ≠ "java/lang/invoke/MethodHandle" ∧ yX5_power.cls ≠ "java/lang/invoke/VarHandle" ∧ (parseMethodDescriptor yX5_power.desc).map (fun d => d.parameters.length) = some 2 := by decide +kernel
set_option maxHeartbeats 40000000 in
set_option maxRecDepth 100000 in
theorem c_X5_power (l : Launch) (E : Nat → Nat) (D : va_G) (C : Nat → ClassId) (sz : Nat) (N : Nat)  (x0 : Int64) (x1 : Int32) (r : Int64) (hf : f_X5_power N x0 x1 = some r) : Met l yX5_power wsX5_power rmX5_power (PC E D C [.long x0, .int x1] [] sz) (QL D C [] [] sz r) 0 0 (va_A [] sz) := by
  refine Met.ofW (cc := cX5_power) (maxL := 6) (ret := (some .long)) (by decide) rfl ?_
  intro p e s m args below meth c s₁ B hml hv
  obtain ⟨rfl, hsz, hP, hK, hD0, hE⟩ := hv
  have hx := B.exec
  have hb := B.bytes
  have hr := B.returns
  have hts := atoms_spec (ws := wsX5_power) B.pre
  have hown : s.vm.findClass RX5 = some m.cls := findClass_of_methodNamed B.named
  have hlocks := B.notSynchronized
  subst hsz
  have hD := hD0.self (sz := s.heap.size)
  obtain ⟨A, hAe⟩ := nm_ex (va_A [] s.heap.size)
  rw [← hAe] at hD hE ⊢
  have hA : ∀ q : Nat, s.heap.size ≤ q → A q := fun q h => by rw [hAe]; exact Or.inr h
  have hS : va_S A s.heap s.heap [] := va_S.rf
  have hl := lv_entry ([.long x0, .int x1]) (n := 6) (Nat.le_of_ble_eq_true rfl)
  rw [lg_entry_eq]
  generalize (lg_sl ([.long x0, .int x1]) ++ List.replicate (6 - (lg_sl ([.long x0, .int x1])).length) Slot.unset).toArray = ls at hl ⊢
  have hl : lv_has ls 6 [(0, .long x0), (2, .int x1)] := hl
  obtain ⟨Q, hQ⟩ := nm_ex (MQ below (QL D C [] [] s.heap.size r) (List.toArray [Value.long x0, Value.int x1]) s 0 0 A)
  show W p l e (headSpec wsX5_power (rmX5_power)).room s m (List.toArray [Value.long x0, Value.int x1]) below meth c s.heap [] 0 0 (MQ below (QL D C [] [] s.heap.size r) (List.toArray [Value.long x0, Value.int x1]) s 0 0 A) _
  rw [← hQ]
  unfold f_X5_power at hf
  have main : ∀ (H : Heap) (locs : List Loc), va_P D vwCl [] H → va_D A [] → va_S A s.heap H locs → W p l e (headSpec wsX5_power (rmX5_power)).room s m (List.toArray [Value.long x0, Value.int x1]) below meth c H locs 0 0 Q (F0 m 0 ls []) := by
    intro H locs hP hD hS
    refine lv_lconst (v := 1) hx hb dX5_power_0 rfl ?_
    refine lv_lstore_n (lv' := [(3, .long 1), (0, .long x0), (2, .int x1)]) hx hb dX5_power_1 rfl hl (by decide) rfl (fun ls hl => ?_)
    refine lv_iconst (v := 0) hx hb dX5_power_2 rfl ?_
    refine lv_istore (lv' := [(5, .int 0), (3, .long 1), (0, .long x0), (2, .int x1)]) hx hb dX5_power_3 hl (by decide) rfl (fun ls hl => ?_)
    have hL5 : ∀ (n : Nat) (i1 : Int32) (i2 : Int64) (H : Heap) (locs : List Loc) (ls : Array Slot), va_P D vwCl [] H → va_D A [] → va_S A s.heap H locs → lv_has ls 6 [(5, .int i1), (3, .long i2), (0, .long x0), (2, .int x1)] → f_X5_power_L5 x0 x1 n i1 i2 = some r → W p l e (headSpec wsX5_power (rmX5_power)).room s m (List.toArray [Value.long x0, Value.int x1]) below meth c H locs 0 0 Q (F0 m 5 ls []) := by
      intro n
      induction n with
      | zero =>
        intro i1 i2 H locs ls hP hD hS hl hf
        exact absurd hf (fun h => by cases h)
      | succ n ih =>
        intro i1 i2 H locs ls hP hD hS hl hf
        rw [f_X5_power_L5] at hf
        refine lv_iload hx hb dX5_power_5 (lv_at hl 0 rfl) ?_
        refine lv_iload_n hx hb dX5_power_7 rfl (lv_at hl 3 rfl) ?_
        refine lv_icmp_ge (tgt := 21) hx hb dX5_power_8 (by decide) (fun c3 => ?_) (fun c3 => ?_)
        · replace hf := if_te c3 hf
          refine lv_lload_n hx hb dX5_power_21 rfl (lv_at hl 1 rfl) ?_
          cases hf
          exact krl hQ hAe hx hb hr hlocks hP hD hK hS dX5_power_22
        · replace hf := if_fe c3 hf
          refine lv_lload_n hx hb dX5_power_11 rfl (lv_at hl 1 rfl) ?_
          refine lv_lload_n hx hb dX5_power_12 rfl (lv_at hl 2 rfl) ?_
          refine lv_lmul hx hb dX5_power_13 ?_
          obtain ⟨t4, et4, hf⟩ := lj_e hf
          refine lv_renL et4 ?_
          refine lv_lstore_n (lv' := [(3, .long t4), (5, .int i1), (0, .long x0), (2, .int x1)]) hx hb dX5_power_14 rfl hl (by decide) rfl (fun ls hl => ?_)
          obtain ⟨t5, et5, hf⟩ := lj_e hf
          refine lv_iinc (v := t5) (lv' := [(5, .int t5), (3, .long t4), (0, .long x0), (2, .int x1)]) hx hb dX5_power_15 hl (k := 1) rfl (by rw [et5]; rfl) (by decide) rfl (fun ls hl => ?_)
          refine lv_goto (tgt := 5) hx hb dX5_power_18 (by decide) ?_
          exact ih t5 t4 H locs ls hP hD hS (lv_sub hl [0, 1, 2, 3] rfl) hf
    exact hL5 N 0 1 H locs ls hP hD hS (lv_sub hl [0, 1, 2, 3] rfl) hf
  exact main _ _ hP hD hS

def rmX5_commonDivisor : Room := { frames := 0, cells := 0, slots := 0, locals := 0 }
theorem hdX5_commonDivisor : yX5_commonDivisor.cls ≠ "java/lang/invoke/MethodHandle" ∧ yX5_commonDivisor.cls ≠ "java/lang/invoke/VarHandle" ∧ (parseMethodDescriptor yX5_commonDivisor.desc).map (fun d => d.parameters.length) = some 2 := by decide +kernel
set_option maxHeartbeats 40000000 in
set_option maxRecDepth 100000 in
theorem c_X5_commonDivisor (l : Launch) (E : Nat → Nat) (D : va_G) (C : Nat → ClassId) (sz : Nat) (N : Nat)  (x0 : Int64) (x1 : Int64) (r : Int64) (hf : f_X5_commonDivisor N x0 x1 = some r) : Met l yX5_commonDivisor wsX5_commonDivisor rmX5_commonDivisor (PC E D C [.long x0, .long x1] [] sz) (QL D C [] [] sz r) 0 0 (va_A [] sz) := by
  refine Met.ofW (cc := cX5_commonDivisor) (maxL := 7) (ret := (some .long)) (by decide) rfl ?_
  intro p e s m args below meth c s₁ B hml hv
  obtain ⟨rfl, hsz, hP, hK, hD0, hE⟩ := hv
  have hx := B.exec
  have hb := B.bytes
  have hr := B.returns
  have hts := atoms_spec (ws := wsX5_commonDivisor) B.pre
  have hown : s.vm.findClass RX5 = some m.cls := findClass_of_methodNamed B.named
  have hlocks := B.notSynchronized
  subst hsz
  have hD := hD0.self (sz := s.heap.size)
  obtain ⟨A, hAe⟩ := nm_ex (va_A [] s.heap.size)
  rw [← hAe] at hD hE ⊢
  have hA : ∀ q : Nat, s.heap.size ≤ q → A q := fun q h => by rw [hAe]; exact Or.inr h
  have hS : va_S A s.heap s.heap [] := va_S.rf
  have hl := lv_entry ([.long x0, .long x1]) (n := 7) (Nat.le_of_ble_eq_true rfl)
  rw [lg_entry_eq]
  generalize (lg_sl ([.long x0, .long x1]) ++ List.replicate (7 - (lg_sl ([.long x0, .long x1])).length) Slot.unset).toArray = ls at hl ⊢
  have hl : lv_has ls 7 [(0, .long x0), (2, .long x1)] := hl
  obtain ⟨Q, hQ⟩ := nm_ex (MQ below (QL D C [] [] s.heap.size r) (List.toArray [Value.long x0, Value.long x1]) s 0 0 A)
  show W p l e (headSpec wsX5_commonDivisor (rmX5_commonDivisor)).room s m (List.toArray [Value.long x0, Value.long x1]) below meth c s.heap [] 0 0 (MQ below (QL D C [] [] s.heap.size r) (List.toArray [Value.long x0, Value.long x1]) s 0 0 A) _
  rw [← hQ]
  unfold f_X5_commonDivisor at hf
  have main : ∀ (H : Heap) (locs : List Loc), va_P D vwCl [] H → va_D A [] → va_S A s.heap H locs → W p l e (headSpec wsX5_commonDivisor (rmX5_commonDivisor)).room s m (List.toArray [Value.long x0, Value.long x1]) below meth c H locs 0 0 Q (F0 m 0 ls []) := by
    intro H locs hP hD hS
    refine lv_iconst (v := 0) hx hb dX5_commonDivisor_0 rfl ?_
    refine lv_istore (lv' := [(4, .int 0), (0, .long x0), (2, .long x1)]) hx hb dX5_commonDivisor_1 hl (by decide) rfl (fun ls hl => ?_)
    have hL3 : ∀ (n : Nat) (i1 : Int32) (i2 : Int64) (i3 : Int64) (H : Heap) (locs : List Loc) (ls : Array Slot), va_P D vwCl [] H → va_D A [] → va_S A s.heap H locs → lv_has ls 7 [(4, .int i1), (0, .long i2), (2, .long i3)] → f_X5_commonDivisor_L3 n i1 i2 i3 = some r → W p l e (headSpec wsX5_commonDivisor (rmX5_commonDivisor)).room s m (List.toArray [Value.long x0, Value.long x1]) below meth c H locs 0 0 Q (F0 m 3 ls []) := by
      intro n
      induction n with
      | zero =>
        intro i1 i2 i3 H locs ls hP hD hS hl hf
        exact absurd hf (fun h => by cases h)
      | succ n ih =>
        intro i1 i2 i3 H locs ls hP hD hS hl hf
        rw [f_X5_commonDivisor_L3] at hf
        refine lv_iload hx hb dX5_commonDivisor_3 (lv_at hl 0 rfl) ?_
        refine lv_bipush (v := 100) hx hb dX5_commonDivisor_5 rfl ?_
        refine lv_icmp_ge (tgt := 32) hx hb dX5_commonDivisor_7 (by decide) (fun c4 => ?_) (fun c4 => ?_)
        · replace hf := if_te c4 hf
          refine lv_lload_n hx hb dX5_commonDivisor_32 rfl (lv_at hl 1 rfl) ?_
          cases hf
          exact krl hQ hAe hx hb hr hlocks hP hD hK hS dX5_commonDivisor_33
        · replace hf := if_fe c4 hf
          refine lv_lload_n hx hb dX5_commonDivisor_10 rfl (lv_at hl 2 rfl) ?_
          refine lv_lconst (v := 0) hx hb dX5_commonDivisor_11 rfl ?_
          refine W.lcmp hx hb dX5_commonDivisor_12 ?_
          refine lv_if_eq (tgt := 32) hx hb dX5_commonDivisor_13 (by decide) (fun c5 => ?_) (fun c5 => ?_)
          · replace hf := if_te c5 hf
            refine lv_lload_n hx hb dX5_commonDivisor_32 rfl (lv_at hl 1 rfl) ?_
            cases hf
            exact krl hQ hAe hx hb hr hlocks hP hD hK hS dX5_commonDivisor_33
          · replace hf := if_fe c5 hf
            refine lv_lload_n hx hb dX5_commonDivisor_16 rfl (lv_at hl 1 rfl) ?_
            refine lv_lload_n hx hb dX5_commonDivisor_17 rfl (lv_at hl 2 rfl) ?_
            obtain ⟨hz6, hf⟩ := gdP_e hf
            refine lv_lrem hx hb dX5_commonDivisor_18 hz6 ?_
            obtain ⟨t7, et7, hf⟩ := lj_e hf
            refine lv_renL et7 ?_
            refine lv_lstore (lv' := [(5, .long t7), (4, .int i1), (0, .long i2), (2, .long i3)]) hx hb dX5_commonDivisor_19 hl (by decide) rfl (fun ls hl => ?_)
            refine lv_lload_n hx hb dX5_commonDivisor_21 rfl (lv_at hl 3 rfl) ?_
            refine lv_lstore_n (lv' := [(0, .long i3), (5, .long t7), (4, .int i1), (2, .long i3)]) hx hb dX5_commonDivisor_22 rfl hl (by decide) rfl (fun ls hl => ?_)
            refine lv_lload hx hb dX5_commonDivisor_23 (lv_at hl 1 rfl) ?_
            refine lv_lstore_n (lv' := [(2, .long t7), (0, .long i3), (5, .long t7), (4, .int i1)]) hx hb dX5_commonDivisor_25 rfl hl (by decide) rfl (fun ls hl => ?_)
            obtain ⟨t8, et8, hf⟩ := lj_e hf
            refine lv_iinc (v := t8) (lv' := [(4, .int t8), (2, .long t7), (0, .long i3), (5, .long t7)]) hx hb dX5_commonDivisor_26 hl (k := 3) rfl (by rw [et8]; rfl) (by decide) rfl (fun ls hl => ?_)
            refine lv_goto (tgt := 3) hx hb dX5_commonDivisor_29 (by decide) ?_
            exact ih t8 i3 t7 H locs ls hP hD hS (lv_sub hl [0, 2, 1] rfl) hf
    exact hL3 N 0 x0 x1 H locs ls hP hD hS (lv_sub hl [0, 1, 2] rfl) hf
  exact main _ _ hP hD hS

def rmX5_partOf : Room := { frames := 1, cells := 0, slots := 0, locals := 26 }
theorem hdX5_partOf : yX5_partOf.cls ≠ "java/lang/invoke/MethodHandle" ∧ yX5_partOf.cls ≠ "java/lang/invoke/VarHandle" ∧ (parseMethodDescriptor yX5_partOf.desc).map (fun d => d.parameters.length) = some 3 := by decide +kernel
set_option maxHeartbeats 40000000 in
set_option maxRecDepth 100000 in
theorem c_X5_partOf (l : Launch) (E : Nat → Nat) (D : va_G) (C : Nat → ClassId) (sz : Nat) (N : Nat)  (x0 : Int64) (x1 : Int64) (x2 : Int32) (r : Int64) (hf : f_X5_partOf N x0 x1 x2 = some r) : Met l yX5_partOf wsX5_partOf rmX5_partOf (PC E D C [.long x0, .long x1, .int x2] [] sz) (QL D C [] [] sz r) 0 0 (va_A [] sz) := by
  refine Met.ofW (cc := cX5_partOf) (maxL := 7) (ret := (some .long)) (by decide) rfl ?_
  intro p e s m args below meth c s₁ B hml hv
  obtain ⟨rfl, hsz, hP, hK, hD0, hE⟩ := hv
  have hx := B.exec
  have hb := B.bytes
  have hr := B.returns
  have hts := atoms_spec (ws := wsX5_partOf) B.pre
  have hown : s.vm.findClass RX5 = some m.cls := findClass_of_methodNamed B.named
  have hlocks := B.notSynchronized
  subst hsz
  have hD := hD0.self (sz := s.heap.size)
  obtain ⟨A, hAe⟩ := nm_ex (va_A [] s.heap.size)
  rw [← hAe] at hD hE ⊢
  have hA : ∀ q : Nat, s.heap.size ≤ q → A q := fun q h => by rw [hAe]; exact Or.inr h
  have hS : va_S A s.heap s.heap [] := va_S.rf
  have hl := lv_entry ([.long x0, .long x1, .int x2]) (n := 7) (Nat.le_of_ble_eq_true rfl)
  rw [lg_entry_eq]
  generalize (lg_sl ([.long x0, .long x1, .int x2]) ++ List.replicate (7 - (lg_sl ([.long x0, .long x1, .int x2])).length) Slot.unset).toArray = ls at hl ⊢
  have hl : lv_has ls 7 [(0, .long x0), (2, .long x1), (4, .int x2)] := hl
  obtain ⟨Q, hQ⟩ := nm_ex (MQ below (QL D C [] [] s.heap.size r) (List.toArray [Value.long x0, Value.long x1, Value.int x2]) s 0 0 A)
  show W p l e (headSpec wsX5_partOf (rmX5_partOf)).room s m (List.toArray [Value.long x0, Value.long x1, Value.int x2]) below meth c s.heap [] 0 0 (MQ below (QL D C [] [] s.heap.size r) (List.toArray [Value.long x0, Value.long x1, Value.int x2]) s 0 0 A) _
  rw [← hQ]
  unfold f_X5_partOf at hf
  have main : ∀ (H : Heap) (locs : List Loc), va_P D vwCl [] H → va_D A [] → va_S A s.heap H locs → W p l e (headSpec wsX5_partOf (rmX5_partOf)).room s m (List.toArray [Value.long x0, Value.long x1, Value.int x2]) below meth c H locs 0 0 Q (F0 m 0 ls []) := by
    intro H locs hP hD hS
    refine lv_lload_n hx hb dX5_partOf_0 rfl (lv_at hl 0 rfl) ?_
    refine lv_lload_n hx hb dX5_partOf_1 rfl (lv_at hl 1 rfl) ?_
    obtain ⟨r1, h2, hf⟩ := ob1_e hf
    refine kcl (Wx := []) (va_runS (As := [.long x0, .long x1]) (rest := []) ⟨hx, hb, hml, hown, hts⟩ (c_X5_commonDivisor l E D C H.size N x0 x1 r1 h2) (va_cwS 2 hts gX5_partOf_X5_commonDivisor rfl rfl rfl hdX5_commonDivisor ⟨Nat.le_of_ble_eq_true rfl, Nat.le_of_ble_eq_true rfl⟩) (kpre hP hD hK hS hE hA [] rfl rfl) rfl rfl hl.1 rfl (lv_room (Nat.le_of_ble_eq_true rfl)) dX5_partOf_2 ⟨Nat.zero_le _, Nat.zero_le _⟩) hP hD hS hA [] rfl rfl rfl (fun H locs hP hD hS => ?_)
    refine lv_lstore (lv' := [(5, .long r1), (0, .long x0), (2, .long x1), (4, .int x2)]) hx hb dX5_partOf_5 hl (by decide) rfl (fun ls hl => ?_)
    refine lv_lload hx hb dX5_partOf_7 (lv_at hl 0 rfl) ?_
    refine lv_lconst (v := 0) hx hb dX5_partOf_9 rfl ?_
    refine W.lcmp hx hb dX5_partOf_10 ?_
    refine lv_if_ne (tgt := 16) hx hb dX5_partOf_11 (by decide) (fun c3 => ?_) (fun c3 => ?_)
    · replace hf := if_fe c3 hf
      refine lv_iload hx hb dX5_partOf_16 (lv_at hl 3 rfl) ?_
      refine lv_if_ne (tgt := 28) hx hb dX5_partOf_18 (by decide) (fun c4 => ?_) (fun c4 => ?_)
      · replace hf := if_fe c4 hf
        refine lv_lload_n hx hb dX5_partOf_28 rfl (lv_at hl 2 rfl) ?_
        refine lv_lload hx hb dX5_partOf_29 (lv_at hl 0 rfl) ?_
        obtain ⟨hz5, hf⟩ := gdP_e hf
        refine lv_ldiv hx hb dX5_partOf_31 hz5 ?_
        obtain ⟨t6, et6, hf⟩ := lj_e hf
        refine lv_renL et6 ?_
        cases hf
        exact krl hQ hAe hx hb hr hlocks hP hD hK hS dX5_partOf_32
      · replace hf := if_te c4 hf
        refine lv_lload_n hx hb dX5_partOf_21 rfl (lv_at hl 1 rfl) ?_
        refine lv_lload hx hb dX5_partOf_22 (lv_at hl 0 rfl) ?_
        obtain ⟨hz7, hf⟩ := gdP_e hf
        refine lv_ldiv hx hb dX5_partOf_24 hz7 ?_
        refine lv_goto (tgt := 32) hx hb dX5_partOf_25 (by decide) ?_
        obtain ⟨t8, et8, hf⟩ := lj_e hf
        refine lv_renL et8 ?_
        cases hf
        exact krl hQ hAe hx hb hr hlocks hP hD hK hS dX5_partOf_32
    · replace hf := if_te c3 hf
      refine lv_lconst (v := 0) hx hb dX5_partOf_14 rfl ?_
      cases hf
      exact krl hQ hAe hx hb hr hlocks hP hD hK hS dX5_partOf_15
  exact main _ _ hP hD hS

def rmX5_odds : Room := { frames := 2, cells := 0, slots := 0, locals := 52 }
theorem hdX5_odds : yX5_odds.cls = RX5 ∧ yX5_odds.cls ≠ "java/lang/invoke/MethodHandle" ∧ yX5_odds.cls ≠ "java/lang/invoke/VarHandle" ∧ (parseMethodDescriptor yX5_odds.desc).map (fun d => d.parameters.length) = some 3 := by decide +kernel
set_option maxHeartbeats 40000000 in
set_option maxRecDepth 100000 in
theorem c_X5_odds (l : Launch) (E : Nat → Nat) (D : va_G) (C : Nat → ClassId) (q0 qn0 qk0 qr0 qc0 qt0 qd0 qs0 qf0 qw0 qn1 qn2 qn3 qn4 qn5 qn6 : Nat) (sz : Nat) (N : Nat) (rowCount : Int32) (anyKept : Int32) (now : PV) (x0 : Int32) (x1 : Int32) (x2 : Int32) (r : Int64) (hf : f_X5_odds N now x0 x1 x2 = some r) : Met l yX5_odds wsX5_odds rmX5_odds (PC E D C [.ref q0, .int x0, .int x1, .int x2] (oTM q0 qn0 qk0 qr0 qc0 qt0 qd0 qs0 qf0 qw0 rowCount anyKept (oPort C qn0 qn1 qn2 qn3 qn4 qn5 qn6 now [])) sz) (QL D C (oTM q0 qn0 qk0 qr0 qc0 qt0 qd0 qs0 qf0 qw0 rowCount anyKept (oPort C qn0 qn1 qn2 qn3 qn4 qn5 qn6 now [])) (oTM q0 qn0 qk0 qr0 qc0 qt0 qd0 qs0 qf0 qw0 rowCount anyKept (oPort C qn0 qn1 qn2 qn3 qn4 qn5 qn6 now [])) sz r) 0 0 (va_A (oTM q0 qn0 qk0 qr0 qc0 qt0 qd0 qs0 qf0 qw0 rowCount anyKept (oPort C qn0 qn1 qn2 qn3 qn4 qn5 qn6 now [])) sz) := by
  refine Met.ofW (cc := cX5_odds) (maxL := 8) (ret := (some .long)) (by decide) rfl ?_
  intro p e s m args below meth c s₁ B hml hv
  obtain ⟨rfl, hsz, hP, hK, hD0, hE⟩ := hv
  have hx := B.exec
  have hb := B.bytes
  have hr := B.returns
  have hts := atoms_spec (ws := wsX5_odds) B.pre
  have hown : s.vm.findClass RX5 = some m.cls := findClass_of_methodNamed B.named
  have hlocks := B.notSynchronized
  subst hsz
  have hi_RX1 : ∀ w ∈ wsX10, w ∈ wsX5_odds := fun _ h => List.mem_cons_of_mem _ (List.mem_append_right _ h)
  have hi_RX5 : ∀ w ∈ wsX50, w ∈ wsX5_odds := fun _ h => List.mem_cons_of_mem _ (List.mem_append_left _ (List.mem_append_right _ h))
  have hD := hD0.self (sz := s.heap.size)
  obtain ⟨A, hAe⟩ := nm_ex (va_A (oTM q0 qn0 qk0 qr0 qc0 qt0 qd0 qs0 qf0 qw0 rowCount anyKept (oPort C qn0 qn1 qn2 qn3 qn4 qn5 qn6 now [])) s.heap.size)
  rw [← hAe] at hD hE ⊢
  have hA : ∀ q : Nat, s.heap.size ≤ q → A q := fun q h => by rw [hAe]; exact Or.inr h
  have hS : va_S A s.heap s.heap [] := va_S.rf
  have hl := lv_entry ([.ref q0, .int x0, .int x1, .int x2]) (n := 8) (Nat.le_of_ble_eq_true rfl)
  rw [lg_entry_eq]
  generalize (lg_sl ([.ref q0, .int x0, .int x1, .int x2]) ++ List.replicate (8 - (lg_sl ([.ref q0, .int x0, .int x1, .int x2])).length) Slot.unset).toArray = ls at hl ⊢
  have hl : lv_has ls 8 [(0, .ref q0), (1, .int x0), (2, .int x1), (3, .int x2)] := hl
  obtain ⟨Q, hQ⟩ := nm_ex (MQ below (QL D C (oTM q0 qn0 qk0 qr0 qc0 qt0 qd0 qs0 qf0 qw0 rowCount anyKept (oPort C qn0 qn1 qn2 qn3 qn4 qn5 qn6 now [])) (oTM q0 qn0 qk0 qr0 qc0 qt0 qd0 qs0 qf0 qw0 rowCount anyKept (oPort C qn0 qn1 qn2 qn3 qn4 qn5 qn6 now [])) s.heap.size r) (List.toArray [Value.ref q0, Value.int x0, Value.int x1, Value.int x2]) s 0 0 A)
  show W p l e (headSpec wsX5_odds (rmX5_odds)).room s m (List.toArray [Value.ref q0, Value.int x0, Value.int x1, Value.int x2]) below meth c s.heap [] 0 0 (MQ below (QL D C (oTM q0 qn0 qk0 qr0 qc0 qt0 qd0 qs0 qf0 qw0 rowCount anyKept (oPort C qn0 qn1 qn2 qn3 qn4 qn5 qn6 now [])) (oTM q0 qn0 qk0 qr0 qc0 qt0 qd0 qs0 qf0 qw0 rowCount anyKept (oPort C qn0 qn1 qn2 qn3 qn4 qn5 qn6 now [])) s.heap.size r) (List.toArray [Value.ref q0, Value.int x0, Value.int x1, Value.int x2]) s 0 0 A) _
  rw [← hQ]
  unfold f_X5_odds at hf
  have main : ∀ (H : Heap) (locs : List Loc), va_P D vwCl (oTM q0 qn0 qk0 qr0 qc0 qt0 qd0 qs0 qf0 qw0 rowCount anyKept (oPort C qn0 qn1 qn2 qn3 qn4 qn5 qn6 now [])) H → va_D A (oTM q0 qn0 qk0 qr0 qc0 qt0 qd0 qs0 qf0 qw0 rowCount anyKept (oPort C qn0 qn1 qn2 qn3 qn4 qn5 qn6 now [])) → va_S A s.heap H locs → W p l e (headSpec wsX5_odds (rmX5_odds)).room s m (List.toArray [Value.ref q0, Value.int x0, Value.int x1, Value.int x2]) below meth c H locs 0 0 Q (F0 m 0 ls []) := by
    intro H locs hP hD hS
    refine lv_iload_n hx hb dX5_odds_0 rfl (lv_at hl 1 rfl) ?_
    refine lv_iconst (v := 0) hx hb dX5_odds_1 rfl ?_
    refine lv_bipush (v := 8) hx hb dX5_odds_2 rfl ?_
    refine kcz (Wx := (oTM q0 qn0 qk0 qr0 qc0 qt0 qd0 qs0 qf0 qw0 rowCount anyKept (oPort C qn0 qn1 qn2 qn3 qn4 qn5 qn6 now []))) (va_runS (As := [.int x0, .int 0, .int 8]) (rest := []) ⟨hx, hb, hml, hown, hts⟩ (c_X5_within l E D C H.size x0 0 8 _ rfl) (va_cwS 3 hts gX5_odds_X5_within rfl rfl rfl hdX5_within ⟨Nat.le_of_ble_eq_true rfl, Nat.le_of_ble_eq_true rfl⟩) (kpre hP hD hK hS hE hA [] rfl rfl) rfl rfl hl.1 rfl (lv_room (Nat.le_of_ble_eq_true rfl)) dX5_odds_4 ⟨Nat.zero_le _, Nat.zero_le _⟩) hP hD hS hA [] rfl rfl rfl (fun H locs hz1 hP hD hS => ?_)
    refine lv_if_eq (tgt := 28) hx hb dX5_odds_7 (by decide) (fun c2 => ?_) (fun c2 => ?_)
    · replace hf := if_te c2 hf
      refine lv_ldc2 (v := (-1)) hx hb hown (hts (.constantLong RX5 226 (-1)) (List.mem_of_getElem? (i := 1) rfl)) dX5_odds_28 ?_
      cases hf
      exact krl hQ hAe hx hb hr hlocks hP hD hK hS dX5_odds_31
    · replace hf := if_fe c2 hf
      refine lv_iload_n hx hb dX5_odds_10 rfl (lv_at hl 2 rfl) ?_
      refine lv_iconst (v := 0) hx hb dX5_odds_11 rfl ?_
      refine lv_iload_n hx hb dX5_odds_12 rfl (lv_at hl 1 rfl) ?_
      refine kcz (Wx := (oTM q0 qn0 qk0 qr0 qc0 qt0 qd0 qs0 qf0 qw0 rowCount anyKept (oPort C qn0 qn1 qn2 qn3 qn4 qn5 qn6 now []))) (va_runS (As := [.int x1, .int 0, .int x0]) (rest := []) ⟨hx, hb, hml, hown, hts⟩ (c_X5_within l E D C H.size x1 0 x0 _ rfl) (va_cwS 3 hts gX5_odds_X5_within rfl rfl rfl hdX5_within ⟨Nat.le_of_ble_eq_true rfl, Nat.le_of_ble_eq_true rfl⟩) (kpre hP hD hK hS hE hA [] rfl rfl) rfl rfl hl.1 rfl (lv_room (Nat.le_of_ble_eq_true rfl)) dX5_odds_13 ⟨Nat.zero_le _, Nat.zero_le _⟩) hP hD hS hA [] rfl rfl rfl (fun H locs hz3 hP hD hS => ?_)
      refine lv_if_eq (tgt := 28) hx hb dX5_odds_16 (by decide) (fun c4 => ?_) (fun c4 => ?_)
      · replace hf := if_te c4 hf
        refine lv_ldc2 (v := (-1)) hx hb hown (hts (.constantLong RX5 226 (-1)) (List.mem_of_getElem? (i := 1) rfl)) dX5_odds_28 ?_
        cases hf
        exact krl hQ hAe hx hb hr hlocks hP hD hK hS dX5_odds_31
      · replace hf := if_fe c4 hf
        refine lv_iload_n hx hb dX5_odds_19 rfl (lv_at hl 3 rfl) ?_
        refine lv_iconst (v := 0) hx hb dX5_odds_20 rfl ?_
        refine lv_iconst (v := 1) hx hb dX5_odds_21 rfl ?_
        refine kcz (Wx := (oTM q0 qn0 qk0 qr0 qc0 qt0 qd0 qs0 qf0 qw0 rowCount anyKept (oPort C qn0 qn1 qn2 qn3 qn4 qn5 qn6 now []))) (va_runS (As := [.int x2, .int 0, .int 1]) (rest := []) ⟨hx, hb, hml, hown, hts⟩ (c_X5_within l E D C H.size x2 0 1 _ rfl) (va_cwS 3 hts gX5_odds_X5_within rfl rfl rfl hdX5_within ⟨Nat.le_of_ble_eq_true rfl, Nat.le_of_ble_eq_true rfl⟩) (kpre hP hD hK hS hE hA [] rfl rfl) rfl rfl hl.1 rfl (lv_room (Nat.le_of_ble_eq_true rfl)) dX5_odds_22 ⟨Nat.zero_le _, Nat.zero_le _⟩) hP hD hS hA [] rfl rfl rfl (fun H locs hz5 hP hD hS => ?_)
        refine lv_if_ne (tgt := 32) hx hb dX5_odds_25 (by decide) (fun c6 => ?_) (fun c6 => ?_)
        · replace hf := if_fe c6 hf
          refine lv_aload_n hx hb dX5_odds_32 rfl (lv_at hl 0 rfl) ?_
          refine va_get (D := D) (ci := 5) (v := .ref qn0) (C := RX5) (T := TX5) (N := 11) hx hb hts hi_RX5 hown hK hP 0 rfl rfl 0 (by decide) (hts (.fieldLink RX5 10 "TravelMarks" "now" "LTravelMarks$Port;") (List.mem_of_getElem? (i := 2) rfl)) (fun _ h9 => h9) rfl dX5_odds_33 ?_
          refine va_get (D := D) (ci := 1) (v := .ref qn1) (C := RX1) (T := TX1) (N := 10) hx hb hts hi_RX1 hown hK hP 1 rfl rfl 0 (by decide) (hts (.fieldLink RX5 95 "TravelMarks$Port" "laws" "[I") (List.mem_of_getElem? (i := 3) rfl)) (fun _ h9 => h9) rfl dX5_odds_36 ?_
          refine lv_iconst (v := 3) hx hb dX5_odds_39 rfl ?_
          refine va_iald hx hb hK hP 2 0 rfl rfl (i := 3) (vin (by decide)) dX5_odds_40 ?_
          refine lv_ren (show ((pLaws now) 3) = (pLaws now) (Int32.toNatClampNeg 3) from rfl) ?_
          refine lv_i2l hx hb dX5_odds_41 rfl ?_
          obtain ⟨t7, et7, hf⟩ := lj_e hf
          refine lv_renL et7 ?_
          refine lv_lstore (lv' := [(4, .long t7), (0, .ref q0), (1, .int x0), (2, .int x1), (3, .int x2)]) hx hb dX5_odds_42 hl (by decide) rfl (fun ls hl => ?_)
          refine lv_iload_n hx hb dX5_odds_44 rfl (lv_at hl 2 rfl) ?_
          refine lv_iload_n hx hb dX5_odds_45 rfl (lv_at hl 3 rfl) ?_
          obtain ⟨r8, h9, hf⟩ := ob1_e hf
          refine kcl (Wx := (oTM q0 qn0 qk0 qr0 qc0 qt0 qd0 qs0 qf0 qw0 rowCount anyKept (oPort C qn0 qn1 qn2 qn3 qn4 qn5 qn6 now []))) (va_runS (As := [.int x0, .int x1]) (rest := []) ⟨hx, hb, hml, hown, hts⟩ (c_X5_choices l E D C H.size N x0 x1 r8 h9) (va_cwS 2 hts gX5_odds_X5_choices rfl rfl rfl hdX5_choices ⟨Nat.le_of_ble_eq_true rfl, Nat.le_of_ble_eq_true rfl⟩) (kpre hP hD hK hS hE hA [] rfl rfl) rfl rfl hl.1 rfl (lv_room (Nat.le_of_ble_eq_true rfl)) dX5_odds_46 ⟨Nat.zero_le _, Nat.zero_le _⟩) hP hD hS hA [] rfl rfl rfl (fun H locs hP hD hS => ?_)
          refine lv_lload hx hb dX5_odds_49 (lv_at hl 0 rfl) ?_
          refine lv_iload_n hx hb dX5_odds_51 rfl (lv_at hl 3 rfl) ?_
          obtain ⟨r10, h11, hf⟩ := ob1_e hf
          refine kcl (Wx := (oTM q0 qn0 qk0 qr0 qc0 qt0 qd0 qs0 qf0 qw0 rowCount anyKept (oPort C qn0 qn1 qn2 qn3 qn4 qn5 qn6 now []))) (va_runS (As := [.long t7, .int x1]) (rest := [.long r8]) ⟨hx, hb, hml, hown, hts⟩ (c_X5_power l E D C H.size N t7 x1 r10 h11) (va_cwS 2 hts gX5_odds_X5_power rfl rfl rfl hdX5_power ⟨Nat.le_of_ble_eq_true rfl, Nat.le_of_ble_eq_true rfl⟩) (kpre hP hD hK hS hE hA [] rfl rfl) rfl rfl hl.1 rfl (lv_room (Nat.le_of_ble_eq_true rfl)) dX5_odds_52 ⟨Nat.zero_le _, Nat.zero_le _⟩) hP hD hS hA [] rfl rfl rfl (fun H locs hP hD hS => ?_)
          refine lv_lmul hx hb dX5_odds_55 ?_
          refine lv_ldc2 (v := 100) hx hb hown (hts (.constantLong RX5 236 (100)) (List.mem_of_getElem? (i := 4) rfl)) dX5_odds_56 ?_
          refine lv_lload hx hb dX5_odds_59 (lv_at hl 0 rfl) ?_
          refine lv_lsub hx hb dX5_odds_61 ?_
          refine lv_iload_n hx hb dX5_odds_62 rfl (lv_at hl 2 rfl) ?_
          refine lv_iload_n hx hb dX5_odds_63 rfl (lv_at hl 3 rfl) ?_
          refine lv_isub hx hb dX5_odds_64 ?_
          obtain ⟨r12, h13, hf⟩ := ob1_e hf
          refine kcl (Wx := (oTM q0 qn0 qk0 qr0 qc0 qt0 qd0 qs0 qf0 qw0 rowCount anyKept (oPort C qn0 qn1 qn2 qn3 qn4 qn5 qn6 now []))) (va_runS (As := [.long (100 - t7), .int (x0 - x1)]) (rest := [.long (r8 * r10)]) ⟨hx, hb, hml, hown, hts⟩ (c_X5_power l E D C H.size N (100 - t7) (x0 - x1) r12 h13) (va_cwS 2 hts gX5_odds_X5_power rfl rfl rfl hdX5_power ⟨Nat.le_of_ble_eq_true rfl, Nat.le_of_ble_eq_true rfl⟩) (kpre hP hD hK hS hE hA [] rfl rfl) rfl rfl hl.1 rfl (lv_room (Nat.le_of_ble_eq_true rfl)) dX5_odds_65 ⟨Nat.zero_le _, Nat.zero_le _⟩) hP hD hS hA [] rfl rfl rfl (fun H locs hP hD hS => ?_)
          refine lv_lmul hx hb dX5_odds_68 ?_
          obtain ⟨t14, et14, hf⟩ := lj_e hf
          refine lv_renL et14 ?_
          refine lv_lstore (lv' := [(6, .long t14), (4, .long t7), (0, .ref q0), (1, .int x0), (2, .int x1), (3, .int x2)]) hx hb dX5_odds_69 hl (by decide) rfl (fun ls hl => ?_)
          refine lv_lload hx hb dX5_odds_71 (lv_at hl 0 rfl) ?_
          refine lv_ldc2 (v := 100) hx hb hown (hts (.constantLong RX5 236 (100)) (List.mem_of_getElem? (i := 4) rfl)) dX5_odds_73 ?_
          refine lv_iload_n hx hb dX5_odds_76 rfl (lv_at hl 3 rfl) ?_
          obtain ⟨r15, h16, hf⟩ := ob1_e hf
          refine kcl (Wx := (oTM q0 qn0 qk0 qr0 qc0 qt0 qd0 qs0 qf0 qw0 rowCount anyKept (oPort C qn0 qn1 qn2 qn3 qn4 qn5 qn6 now []))) (va_runS (As := [.long 100, .int x0]) (rest := [.long t14]) ⟨hx, hb, hml, hown, hts⟩ (c_X5_power l E D C H.size N 100 x0 r15 h16) (va_cwS 2 hts gX5_odds_X5_power rfl rfl rfl hdX5_power ⟨Nat.le_of_ble_eq_true rfl, Nat.le_of_ble_eq_true rfl⟩) (kpre hP hD hK hS hE hA [] rfl rfl) rfl rfl hl.1 rfl (lv_room (Nat.le_of_ble_eq_true rfl)) dX5_odds_77 ⟨Nat.zero_le _, Nat.zero_le _⟩) hP hD hS hA [] rfl rfl rfl (fun H locs hP hD hS => ?_)
          refine lv_iload_n hx hb dX5_odds_80 rfl (lv_at hl 5 rfl) ?_
          obtain ⟨r17, h18, hf⟩ := ob1_e hf
          refine kcl (Wx := (oTM q0 qn0 qk0 qr0 qc0 qt0 qd0 qs0 qf0 qw0 rowCount anyKept (oPort C qn0 qn1 qn2 qn3 qn4 qn5 qn6 now []))) (va_runS (As := [.long t14, .long r15, .int x2]) (rest := []) ⟨hx, hb, hml, hown, hts⟩ (c_X5_partOf l E D C H.size N t14 r15 x2 r17 h18) (va_cwS 3 hts gX5_odds_X5_partOf rfl rfl rfl hdX5_partOf ⟨Nat.le_of_ble_eq_true rfl, Nat.le_of_ble_eq_true rfl⟩) (kpre hP hD hK hS hE hA [] rfl rfl) rfl rfl hl.1 rfl (lv_room (Nat.le_of_ble_eq_true rfl)) dX5_odds_81 ⟨Nat.zero_le _, Nat.zero_le _⟩) hP hD hS hA [] rfl rfl rfl (fun H locs hP hD hS => ?_)
          cases hf
          exact krl hQ hAe hx hb hr hlocks hP hD hK hS dX5_odds_84
        · replace hf := if_te c6 hf
          refine lv_ldc2 (v := (-1)) hx hb hown (hts (.constantLong RX5 226 (-1)) (List.mem_of_getElem? (i := 1) rfl)) dX5_odds_28 ?_
          cases hf
          exact krl hQ hAe hx hb hr hlocks hP hD hK hS dX5_odds_31
  exact main _ _ hP hD hS

def rmX5_hope : Room := { frames := 2, cells := 0, slots := 0, locals := 52 }
theorem hdX5_hope : yX5_hope.cls = RX5 ∧ yX5_hope.cls ≠ "java/lang/invoke/MethodHandle" ∧ yX5_hope.cls ≠ "java/lang/invoke/VarHandle" ∧ (parseMethodDescriptor yX5_hope.desc).map (fun d => d.parameters.length) = some 2 := by decide +kernel
set_option maxHeartbeats 40000000 in
set_option maxRecDepth 100000 in
theorem c_X5_hope (l : Launch) (E : Nat → Nat) (D : va_G) (C : Nat → ClassId) (q0 qn0 qk0 qr0 qc0 qt0 qd0 qs0 qf0 qw0 qn1 qn2 qn3 qn4 qn5 qn6 : Nat) (sz : Nat) (N : Nat) (rowCount : Int32) (anyKept : Int32) (now : PV) (x0 : Int32) (x1 : Int32) (r : Int64) (hf : f_X5_hope N now x0 x1 = some r) : Met l yX5_hope wsX5_hope rmX5_hope (PC E D C [.ref q0, .int x0, .int x1] (oTM q0 qn0 qk0 qr0 qc0 qt0 qd0 qs0 qf0 qw0 rowCount anyKept (oPort C qn0 qn1 qn2 qn3 qn4 qn5 qn6 now [])) sz) (QL D C (oTM q0 qn0 qk0 qr0 qc0 qt0 qd0 qs0 qf0 qw0 rowCount anyKept (oPort C qn0 qn1 qn2 qn3 qn4 qn5 qn6 now [])) (oTM q0 qn0 qk0 qr0 qc0 qt0 qd0 qs0 qf0 qw0 rowCount anyKept (oPort C qn0 qn1 qn2 qn3 qn4 qn5 qn6 now [])) sz r) 0 0 (va_A (oTM q0 qn0 qk0 qr0 qc0 qt0 qd0 qs0 qf0 qw0 rowCount anyKept (oPort C qn0 qn1 qn2 qn3 qn4 qn5 qn6 now [])) sz) := by
  refine Met.ofW (cc := cX5_hope) (maxL := 3) (ret := (some .long)) (by decide) rfl ?_
  intro p e s m args below meth c s₁ B hml hv
  obtain ⟨rfl, hsz, hP, hK, hD0, hE⟩ := hv
  have hx := B.exec
  have hb := B.bytes
  have hr := B.returns
  have hts := atoms_spec (ws := wsX5_hope) B.pre
  have hown : s.vm.findClass RX5 = some m.cls := findClass_of_methodNamed B.named
  have hlocks := B.notSynchronized
  subst hsz
  have hi_RX1 : ∀ w ∈ wsX10, w ∈ wsX5_hope := fun _ h => List.mem_cons_of_mem _ (List.mem_append_right _ h)
  have hi_RX5 : ∀ w ∈ wsX50, w ∈ wsX5_hope := fun _ h => List.mem_cons_of_mem _ (List.mem_append_left _ (List.mem_append_right _ h))
  have hD := hD0.self (sz := s.heap.size)
  obtain ⟨A, hAe⟩ := nm_ex (va_A (oTM q0 qn0 qk0 qr0 qc0 qt0 qd0 qs0 qf0 qw0 rowCount anyKept (oPort C qn0 qn1 qn2 qn3 qn4 qn5 qn6 now [])) s.heap.size)
  rw [← hAe] at hD hE ⊢
  have hA : ∀ q : Nat, s.heap.size ≤ q → A q := fun q h => by rw [hAe]; exact Or.inr h
  have hS : va_S A s.heap s.heap [] := va_S.rf
  have hl := lv_entry ([.ref q0, .int x0, .int x1]) (n := 3) (Nat.le_of_ble_eq_true rfl)
  rw [lg_entry_eq]
  generalize (lg_sl ([.ref q0, .int x0, .int x1]) ++ List.replicate (3 - (lg_sl ([.ref q0, .int x0, .int x1])).length) Slot.unset).toArray = ls at hl ⊢
  have hl : lv_has ls 3 [(0, .ref q0), (1, .int x0), (2, .int x1)] := hl
  obtain ⟨Q, hQ⟩ := nm_ex (MQ below (QL D C (oTM q0 qn0 qk0 qr0 qc0 qt0 qd0 qs0 qf0 qw0 rowCount anyKept (oPort C qn0 qn1 qn2 qn3 qn4 qn5 qn6 now [])) (oTM q0 qn0 qk0 qr0 qc0 qt0 qd0 qs0 qf0 qw0 rowCount anyKept (oPort C qn0 qn1 qn2 qn3 qn4 qn5 qn6 now [])) s.heap.size r) (List.toArray [Value.ref q0, Value.int x0, Value.int x1]) s 0 0 A)
  show W p l e (headSpec wsX5_hope (rmX5_hope)).room s m (List.toArray [Value.ref q0, Value.int x0, Value.int x1]) below meth c s.heap [] 0 0 (MQ below (QL D C (oTM q0 qn0 qk0 qr0 qc0 qt0 qd0 qs0 qf0 qw0 rowCount anyKept (oPort C qn0 qn1 qn2 qn3 qn4 qn5 qn6 now [])) (oTM q0 qn0 qk0 qr0 qc0 qt0 qd0 qs0 qf0 qw0 rowCount anyKept (oPort C qn0 qn1 qn2 qn3 qn4 qn5 qn6 now [])) s.heap.size r) (List.toArray [Value.ref q0, Value.int x0, Value.int x1]) s 0 0 A) _
  rw [← hQ]
  unfold f_X5_hope at hf
  have main : ∀ (H : Heap) (locs : List Loc), va_P D vwCl (oTM q0 qn0 qk0 qr0 qc0 qt0 qd0 qs0 qf0 qw0 rowCount anyKept (oPort C qn0 qn1 qn2 qn3 qn4 qn5 qn6 now [])) H → va_D A (oTM q0 qn0 qk0 qr0 qc0 qt0 qd0 qs0 qf0 qw0 rowCount anyKept (oPort C qn0 qn1 qn2 qn3 qn4 qn5 qn6 now [])) → va_S A s.heap H locs → W p l e (headSpec wsX5_hope (rmX5_hope)).room s m (List.toArray [Value.ref q0, Value.int x0, Value.int x1]) below meth c H locs 0 0 Q (F0 m 0 ls []) := by
    intro H locs hP hD hS
    refine lv_iload_n hx hb dX5_hope_0 rfl (lv_at hl 1 rfl) ?_
    refine lv_iconst (v := 0) hx hb dX5_hope_1 rfl ?_
    refine lv_bipush (v := 99) hx hb dX5_hope_2 rfl ?_
    refine kcz (Wx := (oTM q0 qn0 qk0 qr0 qc0 qt0 qd0 qs0 qf0 qw0 rowCount anyKept (oPort C qn0 qn1 qn2 qn3 qn4 qn5 qn6 now []))) (va_runS (As := [.int x0, .int 0, .int 99]) (rest := []) ⟨hx, hb, hml, hown, hts⟩ (c_X5_within l E D C H.size x0 0 99 _ rfl) (va_cwS 3 hts gX5_hope_X5_within rfl rfl rfl hdX5_within ⟨Nat.le_of_ble_eq_true rfl, Nat.le_of_ble_eq_true rfl⟩) (kpre hP hD hK hS hE hA [] rfl rfl) rfl rfl hl.1 rfl (lv_room (Nat.le_of_ble_eq_true rfl)) dX5_hope_4 ⟨Nat.zero_le _, Nat.zero_le _⟩) hP hD hS hA [] rfl rfl rfl (fun H locs hz1 hP hD hS => ?_)
    refine lv_if_eq (tgt := 19) hx hb dX5_hope_7 (by decide) (fun c2 => ?_) (fun c2 => ?_)
    · replace hf := if_te c2 hf
      refine lv_ldc2 (v := (-1)) hx hb hown (hts (.constantLong RX5 226 (-1)) (List.mem_of_getElem? (i := 1) rfl)) dX5_hope_19 ?_
      cases hf
      exact krl hQ hAe hx hb hr hlocks hP hD hK hS dX5_hope_22
    · replace hf := if_fe c2 hf
      refine lv_iload_n hx hb dX5_hope_10 rfl (lv_at hl 2 rfl) ?_
      refine lv_iconst (v := 0) hx hb dX5_hope_11 rfl ?_
      refine lv_iconst (v := 1) hx hb dX5_hope_12 rfl ?_
      refine kcz (Wx := (oTM q0 qn0 qk0 qr0 qc0 qt0 qd0 qs0 qf0 qw0 rowCount anyKept (oPort C qn0 qn1 qn2 qn3 qn4 qn5 qn6 now []))) (va_runS (As := [.int x1, .int 0, .int 1]) (rest := []) ⟨hx, hb, hml, hown, hts⟩ (c_X5_within l E D C H.size x1 0 1 _ rfl) (va_cwS 3 hts gX5_hope_X5_within rfl rfl rfl hdX5_within ⟨Nat.le_of_ble_eq_true rfl, Nat.le_of_ble_eq_true rfl⟩) (kpre hP hD hK hS hE hA [] rfl rfl) rfl rfl hl.1 rfl (lv_room (Nat.le_of_ble_eq_true rfl)) dX5_hope_13 ⟨Nat.zero_le _, Nat.zero_le _⟩) hP hD hS hA [] rfl rfl rfl (fun H locs hz3 hP hD hS => ?_)
      refine lv_if_ne (tgt := 23) hx hb dX5_hope_16 (by decide) (fun c4 => ?_) (fun c4 => ?_)
      · replace hf := if_fe c4 hf
        refine lv_iload_n hx hb dX5_hope_23 rfl (lv_at hl 1 rfl) ?_
        refine lv_i2l hx hb dX5_hope_24 rfl ?_
        refine lv_aload_n hx hb dX5_hope_25 rfl (lv_at hl 0 rfl) ?_
        refine va_get (D := D) (ci := 5) (v := .ref qn0) (C := RX5) (T := TX5) (N := 11) hx hb hts hi_RX5 hown hK hP 0 rfl rfl 0 (by decide) (hts (.fieldLink RX5 10 "TravelMarks" "now" "LTravelMarks$Port;") (List.mem_of_getElem? (i := 2) rfl)) (fun _ h9 => h9) rfl dX5_hope_26 ?_
        refine va_get (D := D) (ci := 1) (v := .ref qn1) (C := RX1) (T := TX1) (N := 10) hx hb hts hi_RX1 hown hK hP 1 rfl rfl 0 (by decide) (hts (.fieldLink RX5 95 "TravelMarks$Port" "laws" "[I") (List.mem_of_getElem? (i := 3) rfl)) (fun _ h9 => h9) rfl dX5_hope_29 ?_
        refine lv_iconst (v := 3) hx hb dX5_hope_32 rfl ?_
        refine va_iald hx hb hK hP 2 0 rfl rfl (i := 3) (vin (by decide)) dX5_hope_33 ?_
        refine lv_ren (show ((pLaws now) 3) = (pLaws now) (Int32.toNatClampNeg 3) from rfl) ?_
        refine lv_i2l hx hb dX5_hope_34 rfl ?_
        refine lv_lmul hx hb dX5_hope_35 ?_
        refine lv_ldc2 (v := 100) hx hb hown (hts (.constantLong RX5 236 (100)) (List.mem_of_getElem? (i := 4) rfl)) dX5_hope_36 ?_
        refine lv_iload_n hx hb dX5_hope_39 rfl (lv_at hl 2 rfl) ?_
        obtain ⟨r5, h6, hf⟩ := ob1_e hf
        refine kcl (Wx := (oTM q0 qn0 qk0 qr0 qc0 qt0 qd0 qs0 qf0 qw0 rowCount anyKept (oPort C qn0 qn1 qn2 qn3 qn4 qn5 qn6 now []))) (va_runS (As := [.long ((Int32.toInt64 x0) * (Int32.toInt64 ((pLaws now) 3))), .long 100, .int x1]) (rest := []) ⟨hx, hb, hml, hown, hts⟩ (c_X5_partOf l E D C H.size N ((Int32.toInt64 x0) * (Int32.toInt64 ((pLaws now) 3))) 100 x1 r5 h6) (va_cwS 3 hts gX5_hope_X5_partOf rfl rfl rfl hdX5_partOf ⟨Nat.le_of_ble_eq_true rfl, Nat.le_of_ble_eq_true rfl⟩) (kpre hP hD hK hS hE hA [] rfl rfl) rfl rfl hl.1 rfl (lv_room (Nat.le_of_ble_eq_true rfl)) dX5_hope_40 ⟨Nat.zero_le _, Nat.zero_le _⟩) hP hD hS hA [] rfl rfl rfl (fun H locs hP hD hS => ?_)
        cases hf
        exact krl hQ hAe hx hb hr hlocks hP hD hK hS dX5_hope_43
      · replace hf := if_te c4 hf
        refine lv_ldc2 (v := (-1)) hx hb hown (hts (.constantLong RX5 226 (-1)) (List.mem_of_getElem? (i := 1) rfl)) dX5_hope_19 ?_
        cases hf
        exact krl hQ hAe hx hb hr hlocks hP hD hK hS dX5_hope_22
  exact main _ _ hP hD hS

def rmX5_prove : Room := { frames := 4, cells := 0, slots := 0, locals := 91 }
theorem hdX5_prove : yX5_prove.cls = RX5 ∧ yX5_prove.cls ≠ "java/lang/invoke/MethodHandle" ∧ yX5_prove.cls ≠ "java/lang/invoke/VarHandle" ∧ (parseMethodDescriptor yX5_prove.desc).map (fun d => d.parameters.length) = some 2 := by decide +kernel
set_option maxHeartbeats 40000000 in
set_option maxRecDepth 100000 in
theorem c_X5_prove (l : Launch) (E : Nat → Nat) (D : va_G) (C : Nat → ClassId) (q0 qn0 qk0 qr0 qc0 qt0 qd0 qs0 qf0 qw0 qn1 qn2 qn3 qn4 qn5 qn6 qr1 qr2 qr3 qr4 qr5 qr6 : Nat) (sz : Nat) (N : Nat) (rowCount : Int32) (anyKept : Int32) (now : PV) (trial : PV) (rows : Nat → Int32) (x0 : Int32) (x1 : Int32) (r : Int32) (rowCount' : Int32) (trial' : PV) (rows' : Nat → Int32) (hf : f_X5_prove N rowCount now trial rows x0 x1 = some (r, rowCount', trial', rows')) : Met l yX5_prove wsX5_prove rmX5_prove (PC E D C [.ref q0, .int x0, .int x1] (oTM q0 qn0 qk0 qr0 qc0 qt0 qd0 qs0 qf0 qw0 rowCount anyKept (oPort C qn0 qn1 qn2 qn3 qn4 qn5 qn6 now (oPort C qr0 qr1 qr2 qr3 qr4 qr5 qr6 trial (oArrI C qw0 30 rows [])))) sz) (QI D C (oTM q0 qn0 qk0 qr0 qc0 qt0 qd0 qs0 qf0 qw0 rowCount anyKept (oPort C qn0 qn1 qn2 qn3 qn4 qn5 qn6 now (oPort C qr0 qr1 qr2 qr3 qr4 qr5 qr6 trial (oArrI C qw0 30 rows [])))) (oTM q0 qn0 qk0 qr0 qc0 qt0 qd0 qs0 qf0 qw0 (rowCount') anyKept (oPort C qn0 qn1 qn2 qn3 qn4 qn5 qn6 now (oPort C qr0 qr1 qr2 qr3 qr4 qr5 qr6 (trial') (oArrI C qw0 30 (rows') [])))) sz r) 0 0 (va_A (oTM q0 qn0 qk0 qr0 qc0 qt0 qd0 qs0 qf0 qw0 rowCount anyKept (oPort C qn0 qn1 qn2 qn3 qn4 qn5 qn6 now (oPort C qr0 qr1 qr2 qr3 qr4 qr5 qr6 trial (oArrI C qw0 30 rows [])))) sz) := by
  refine Met.ofW (cc := cX5_prove) (maxL := 5) (ret := (some .int)) (by decide) rfl ?_
  intro p e s m args below meth c s₁ B hml hv
  obtain ⟨rfl, hsz, hP, hK, hD0, hE⟩ := hv
  have hx := B.exec
  have hb := B.bytes
  have hr := B.returns
  have hts := atoms_spec (ws := wsX5_prove) B.pre
  have hown : s.vm.findClass RX5 = some m.cls := findClass_of_methodNamed B.named
  have hlocks := B.notSynchronized
  subst hsz
  have hi_RX5 : ∀ w ∈ wsX50, w ∈ wsX5_prove := fun _ h => List.mem_cons_of_mem _ (List.mem_append_left _ (List.mem_append_right _ h))
  have hD := hD0.self (sz := s.heap.size)
  obtain ⟨A, hAe⟩ := nm_ex (va_A (oTM q0 qn0 qk0 qr0 qc0 qt0 qd0 qs0 qf0 qw0 rowCount anyKept (oPort C qn0 qn1 qn2 qn3 qn4 qn5 qn6 now (oPort C qr0 qr1 qr2 qr3 qr4 qr5 qr6 trial (oArrI C qw0 30 rows [])))) s.heap.size)
  rw [← hAe] at hD hE ⊢
  have hA : ∀ q : Nat, s.heap.size ≤ q → A q := fun q h => by rw [hAe]; exact Or.inr h
  have hS : va_S A s.heap s.heap [] := va_S.rf
  have hl := lv_entry ([.ref q0, .int x0, .int x1]) (n := 5) (Nat.le_of_ble_eq_true rfl)
  rw [lg_entry_eq]
  generalize (lg_sl ([.ref q0, .int x0, .int x1]) ++ List.replicate (5 - (lg_sl ([.ref q0, .int x0, .int x1])).length) Slot.unset).toArray = ls at hl ⊢
  have hl : lv_has ls 5 [(0, .ref q0), (1, .int x0), (2, .int x1)] := hl
  obtain ⟨Q, hQ⟩ := nm_ex (MQ below (QI D C (oTM q0 qn0 qk0 qr0 qc0 qt0 qd0 qs0 qf0 qw0 rowCount anyKept (oPort C qn0 qn1 qn2 qn3 qn4 qn5 qn6 now (oPort C qr0 qr1 qr2 qr3 qr4 qr5 qr6 trial (oArrI C qw0 30 rows [])))) (oTM q0 qn0 qk0 qr0 qc0 qt0 qd0 qs0 qf0 qw0 (rowCount') anyKept (oPort C qn0 qn1 qn2 qn3 qn4 qn5 qn6 now (oPort C qr0 qr1 qr2 qr3 qr4 qr5 qr6 (trial') (oArrI C qw0 30 (rows') [])))) s.heap.size r) (List.toArray [Value.ref q0, Value.int x0, Value.int x1]) s 0 0 A)
  show W p l e (headSpec wsX5_prove (rmX5_prove)).room s m (List.toArray [Value.ref q0, Value.int x0, Value.int x1]) below meth c s.heap [] 0 0 (MQ below (QI D C (oTM q0 qn0 qk0 qr0 qc0 qt0 qd0 qs0 qf0 qw0 rowCount anyKept (oPort C qn0 qn1 qn2 qn3 qn4 qn5 qn6 now (oPort C qr0 qr1 qr2 qr3 qr4 qr5 qr6 trial (oArrI C qw0 30 rows [])))) (oTM q0 qn0 qk0 qr0 qc0 qt0 qd0 qs0 qf0 qw0 (rowCount') anyKept (oPort C qn0 qn1 qn2 qn3 qn4 qn5 qn6 now (oPort C qr0 qr1 qr2 qr3 qr4 qr5 qr6 (trial') (oArrI C qw0 30 (rows') [])))) s.heap.size r) (List.toArray [Value.ref q0, Value.int x0, Value.int x1]) s 0 0 A) _
  rw [← hQ]
  unfold f_X5_prove at hf
  have main : ∀ (H : Heap) (locs : List Loc), va_P D vwCl (oTM q0 qn0 qk0 qr0 qc0 qt0 qd0 qs0 qf0 qw0 rowCount anyKept (oPort C qn0 qn1 qn2 qn3 qn4 qn5 qn6 now (oPort C qr0 qr1 qr2 qr3 qr4 qr5 qr6 trial (oArrI C qw0 30 rows [])))) H → va_D A (oTM q0 qn0 qk0 qr0 qc0 qt0 qd0 qs0 qf0 qw0 rowCount anyKept (oPort C qn0 qn1 qn2 qn3 qn4 qn5 qn6 now (oPort C qr0 qr1 qr2 qr3 qr4 qr5 qr6 trial (oArrI C qw0 30 rows [])))) → va_S A s.heap H locs → W p l e (headSpec wsX5_prove (rmX5_prove)).room s m (List.toArray [Value.ref q0, Value.int x0, Value.int x1]) below meth c H locs 0 0 Q (F0 m 0 ls []) := by
    intro H locs hP hD hS
    refine lv_aload_n hx hb dX5_prove_0 rfl (lv_at hl 0 rfl) ?_
    refine lv_iload_n hx hb dX5_prove_1 rfl (lv_at hl 1 rfl) ?_
    refine kcz (Wx := (oTM q0 qn0 qk0 qr0 qc0 qt0 qd0 qs0 qf0 qw0 rowCount anyKept (oPort C qn0 qn1 qn2 qn3 qn4 qn5 qn6 now (oPort C qr0 qr1 qr2 qr3 qr4 qr5 qr6 trial (oArrI C qw0 30 rows []))))) (va_runV (As := [.int x0]) (rest := []) ⟨hx, hb, hml, hown, hts⟩ (c_X5_isMark l E D C q0 qn0 qk0 qr0 qc0 qt0 qd0 qs0 qf0 qw0 qn1 qn2 qn3 qn4 qn5 qn6 H.size rowCount anyKept now x0 _ rfl) (cwV 1 hts gX5_prove_X5_isMark rfl rfl rfl hdX5_isMark ⟨Nat.le_of_ble_eq_true rfl, Nat.le_of_ble_eq_true rfl⟩) (kpreV hP hD hK hS hE hA [0, 1, 2, 3, 4, 5, 6, 7] rfl rfl 0 rfl rfl rfl) rfl rfl hl.1 rfl (lv_room (Nat.le_of_ble_eq_true rfl)) dX5_prove_2 ⟨Nat.zero_le _, Nat.zero_le _⟩) hP hD hS hA [0, 1, 2, 3, 4, 5, 6, 7] rfl rfl rfl (fun H locs hz1 hP hD hS => ?_)
    refine lv_if_eq (tgt := 18) hx hb dX5_prove_5 (by decide) (fun c2 => ?_) (fun c2 => ?_)
    · replace hf := if_te c2 hf
      refine lv_iconst (v := (-1)) hx hb dX5_prove_18 rfl ?_
      cases hf
      exact kri hQ hAe hx hb hr hlocks hP hD hK hS dX5_prove_19
    · replace hf := if_fe c2 hf
      refine lv_iload_n hx hb dX5_prove_8 rfl (lv_at hl 2 rfl) ?_
      refine lv_iconst (v := 1) hx hb dX5_prove_9 rfl ?_
      refine lv_bipush (v := 10) hx hb dX5_prove_10 rfl ?_
      refine kcz (Wx := (oTM q0 qn0 qk0 qr0 qc0 qt0 qd0 qs0 qf0 qw0 rowCount anyKept (oPort C qn0 qn1 qn2 qn3 qn4 qn5 qn6 now (oPort C qr0 qr1 qr2 qr3 qr4 qr5 qr6 trial (oArrI C qw0 30 rows []))))) (va_runS (As := [.int x1, .int 1, .int 10]) (rest := []) ⟨hx, hb, hml, hown, hts⟩ (c_X5_within l E D C H.size x1 1 10 _ rfl) (va_cwS 3 hts gX5_prove_X5_within rfl rfl rfl hdX5_within ⟨Nat.le_of_ble_eq_true rfl, Nat.le_of_ble_eq_true rfl⟩) (kpre hP hD hK hS hE hA [] rfl rfl) rfl rfl hl.1 rfl (lv_room (Nat.le_of_ble_eq_true rfl)) dX5_prove_12 ⟨Nat.zero_le _, Nat.zero_le _⟩) hP hD hS hA [] rfl rfl rfl (fun H locs hz3 hP hD hS => ?_)
      refine lv_if_ne (tgt := 20) hx hb dX5_prove_15 (by decide) (fun c4 => ?_) (fun c4 => ?_)
      · replace hf := if_fe c4 hf
        refine lv_aload_n hx hb dX5_prove_20 rfl (lv_at hl 0 rfl) ?_
        refine va_get (D := D) (ci := 5) (v := .ref qr0) (C := RX5) (T := TX5) (N := 11) hx hb hts hi_RX5 hown hK hP 0 rfl rfl 2 (by decide) (hts (.fieldLink RX5 19 "TravelMarks" "trial" "LTravelMarks$Port;") (List.mem_of_getElem? (i := 1) rfl)) (fun _ h9 => h9) rfl dX5_prove_21 ?_
        refine lv_aload_n hx hb dX5_prove_24 rfl (lv_at hl 0 rfl) ?_
        refine va_get (D := D) (ci := 5) (v := .ref qn0) (C := RX5) (T := TX5) (N := 11) hx hb hts hi_RX5 hown hK hP 0 rfl rfl 0 (by decide) (hts (.fieldLink RX5 10 "TravelMarks" "now" "LTravelMarks$Port;") (List.mem_of_getElem? (i := 2) rfl)) (fun _ h9 => h9) rfl dX5_prove_25 ?_
        obtain ⟨v5, h6, hf⟩ := ob1_e hf
        refine kcv (Wx := (oTM q0 qn0 qk0 qr0 qc0 qt0 qd0 qs0 qf0 qw0 rowCount anyKept (oPort C qn0 qn1 qn2 qn3 qn4 qn5 qn6 now (oPort C qr0 qr1 qr2 qr3 qr4 qr5 qr6 v5 (oArrI C qw0 30 rows []))))) (va_runV (As := [.ref qn0]) (rest := []) ⟨hx, hb, hml, hown, hts⟩ (c_X1_become l E D C qr0 qr1 qr2 qr3 qr4 qr5 qr6 qn0 qn1 qn2 qn3 qn4 qn5 qn6 H.size trial now v5 h6) (cwV 1 hts gX5_prove_X1_become rfl rfl rfl hdX1_become ⟨Nat.le_of_ble_eq_true rfl, Nat.le_of_ble_eq_true rfl⟩) (kpreV hP hD hK hS hE hA [8, 9, 10, 11, 12, 13, 14, 1, 2, 3, 4, 5, 6, 7] rfl rfl 8 rfl rfl rfl) rfl rfl hl.1 rfl (lv_room (Nat.le_of_ble_eq_true rfl)) dX5_prove_28 ⟨Nat.zero_le _, Nat.zero_le _⟩) hP hD hS hA [8, 9, 10, 11, 12, 13, 14, 1, 2, 3, 4, 5, 6, 7] rfl rfl rfl (fun H locs hP hD hS => ?_)
        refine lv_iconst (v := 0) hx hb dX5_prove_31 rfl ?_
        refine lv_istore_n (lv' := [(3, .int 0), (0, .ref q0), (1, .int x0), (2, .int x1)]) hx hb dX5_prove_32 rfl hl (by decide) rfl (fun ls hl => ?_)
        obtain ⟨j9, hj9, hf⟩ := lj_e hf
        have Hj9 : ∀ (v7 : PV) (v8 : Nat → Int32) (H : Heap) (locs : List Loc) (ls : Array Slot), va_P D vwCl (oTM q0 qn0 qk0 qr0 qc0 qt0 qd0 qs0 qf0 qw0 rowCount anyKept (oPort C qn0 qn1 qn2 qn3 qn4 qn5 qn6 now (oPort C qr0 qr1 qr2 qr3 qr4 qr5 qr6 v7 (oArrI C qw0 30 v8 [])))) H → va_D A (oTM q0 qn0 qk0 qr0 qc0 qt0 qd0 qs0 qf0 qw0 rowCount anyKept (oPort C qn0 qn1 qn2 qn3 qn4 qn5 qn6 now (oPort C qr0 qr1 qr2 qr3 qr4 qr5 qr6 v7 (oArrI C qw0 30 v8 [])))) → va_S A s.heap H locs → lv_has ls 5 [(0, .ref q0), (2, .int x1)] → j9 v7 v8 = some (r, rowCount', trial', rows') → W p l e (headSpec wsX5_prove (rmX5_prove)).room s m (List.toArray [Value.ref q0, Value.int x0, Value.int x1]) below meth c H locs 0 0 Q (F0 m 87 ls []) := by
          intro v7 v8 H locs ls hP hD hS hl hf
          rw [hj9] at hf
          refine lv_aload_n hx hb dX5_prove_87 rfl (lv_at hl 0 rfl) ?_
          refine lv_iload_n hx hb dX5_prove_88 rfl (lv_at hl 1 rfl) ?_
          refine va_put (D := D) (ci := 5) (v := .int x1) (ty := .int) (C := RX5) (T := TX5) (N := 11) hx hb hts hi_RX5 tyX5 tyX5_ok nmX5 hown hK hP hD hS 0 rfl rfl 9 (by decide) (hts (.fieldLink RX5 83 "TravelMarks" "rowCount" "I") (List.mem_of_getElem? (i := 4) rfl)) (fun _ h9 => h9) rfl (tyX5_ok 9 (by decide)) rfl rfl (Nat.le_of_ble_eq_true rfl) dX5_prove_89 (fun H locs hP hD hS => ?_)
          have hP : va_P D vwCl (oTM q0 qn0 qk0 qr0 qc0 qt0 qd0 qs0 qf0 qw0 x1 anyKept (oPort C qn0 qn1 qn2 qn3 qn4 qn5 qn6 now (oPort C qr0 qr1 qr2 qr3 qr4 qr5 qr6 v7 (oArrI C qw0 30 v8 [])))) H := hP
          have hD : va_D A (oTM q0 qn0 qk0 qr0 qc0 qt0 qd0 qs0 qf0 qw0 x1 anyKept (oPort C qn0 qn1 qn2 qn3 qn4 qn5 qn6 now (oPort C qr0 qr1 qr2 qr3 qr4 qr5 qr6 v7 (oArrI C qw0 30 v8 [])))) := hD
          refine lv_iload_n hx hb dX5_prove_92 rfl (lv_at hl 1 rfl) ?_
          cases hf
          exact kri hQ hAe hx hb hr hlocks hP hD hK hS dX5_prove_93
        have hL33 : ∀ (n : Nat) (i10 : Int32) (v11 : PV) (v12 : Nat → Int32) (H : Heap) (locs : List Loc) (ls : Array Slot), va_P D vwCl (oTM q0 qn0 qk0 qr0 qc0 qt0 qd0 qs0 qf0 qw0 rowCount anyKept (oPort C qn0 qn1 qn2 qn3 qn4 qn5 qn6 now (oPort C qr0 qr1 qr2 qr3 qr4 qr5 qr6 v11 (oArrI C qw0 30 v12 [])))) H → va_D A (oTM q0 qn0 qk0 qr0 qc0 qt0 qd0 qs0 qf0 qw0 rowCount anyKept (oPort C qn0 qn1 qn2 qn3 qn4 qn5 qn6 now (oPort C qr0 qr1 qr2 qr3 qr4 qr5 qr6 v11 (oArrI C qw0 30 v12 [])))) → va_S A s.heap H locs → lv_has ls 5 [(3, .int i10), (0, .ref q0), (1, .int x0), (2, .int x1)] → f_X5_prove_L33 N x0 x1 j9 n i10 v11 v12 = some (r, rowCount', trial', rows') → W p l e (headSpec wsX5_prove (rmX5_prove)).room s m (List.toArray [Value.ref q0, Value.int x0, Value.int x1]) below meth c H locs 0 0 Q (F0 m 33 ls []) := by
          intro n
          induction n with
          | zero =>
            intro i10 v11 v12 H locs ls hP hD hS hl hf
            exact absurd hf (fun h => by cases h)
          | succ n ih =>
            intro i10 v11 v12 H locs ls hP hD hS hl hf
            rw [f_X5_prove_L33] at hf
            refine lv_iload_n hx hb dX5_prove_33 rfl (lv_at hl 0 rfl) ?_
            refine lv_iload_n hx hb dX5_prove_34 rfl (lv_at hl 3 rfl) ?_
            refine lv_icmp_ge (tgt := 87) hx hb dX5_prove_35 (by decide) (fun c13 => ?_) (fun c13 => ?_)
            · replace hf := if_te c13 hf
              exact Hj9 v11 v12 H locs ls hP hD hS (lv_sub hl [1, 3] rfl) hf
            · replace hf := if_fe c13 hf
              refine lv_aload_n hx hb dX5_prove_38 rfl (lv_at hl 1 rfl) ?_
              refine va_get (D := D) (ci := 5) (v := .ref qr0) (C := RX5) (T := TX5) (N := 11) hx hb hts hi_RX5 hown hK hP 0 rfl rfl 2 (by decide) (hts (.fieldLink RX5 19 "TravelMarks" "trial" "LTravelMarks$Port;") (List.mem_of_getElem? (i := 1) rfl)) (fun _ h9 => h9) rfl dX5_prove_39 ?_
              obtain ⟨v14, h15, hf⟩ := ob1_e hf
              refine kcv (Wx := (oTM q0 qn0 qk0 qr0 qc0 qt0 qd0 qs0 qf0 qw0 rowCount anyKept (oPort C qn0 qn1 qn2 qn3 qn4 qn5 qn6 now (oPort C qr0 qr1 qr2 qr3 qr4 qr5 qr6 v14 (oArrI C qw0 30 v12 []))))) (va_runV (As := []) (rest := []) ⟨hx, hb, hml, hown, hts⟩ (c_X1_passHour l E D C qr0 qr1 qr2 qr3 qr4 qr5 qr6 H.size N v11 v14 h15) (cwV 0 hts gX5_prove_X1_passHour rfl rfl rfl hdX1_passHour ⟨Nat.le_of_ble_eq_true rfl, Nat.le_of_ble_eq_true rfl⟩) (kpreV hP hD hK hS hE hA [8, 9, 10, 11, 12, 13, 14] rfl rfl 8 rfl rfl rfl) rfl rfl hl.1 rfl (lv_room (Nat.le_of_ble_eq_true rfl)) dX5_prove_42 ⟨Nat.zero_le _, Nat.zero_le _⟩) hP hD hS hA [8, 9, 10, 11, 12, 13, 14] rfl rfl rfl (fun H locs hP hD hS => ?_)
              refine lv_iconst (v := 0) hx hb dX5_prove_45 rfl ?_
              refine lv_istore (lv' := [(4, .int 0), (3, .int i10), (0, .ref q0), (1, .int x0), (2, .int x1)]) hx hb dX5_prove_46 hl (by decide) rfl (fun ls hl => ?_)
              obtain ⟨j17, hj17, hf⟩ := lj_e hf
              have Hj17 : ∀ (v16 : Nat → Int32) (H : Heap) (locs : List Loc) (ls : Array Slot), va_P D vwCl (oTM q0 qn0 qk0 qr0 qc0 qt0 qd0 qs0 qf0 qw0 rowCount anyKept (oPort C qn0 qn1 qn2 qn3 qn4 qn5 qn6 now (oPort C qr0 qr1 qr2 qr3 qr4 qr5 qr6 v14 (oArrI C qw0 30 v16 [])))) H → va_D A (oTM q0 qn0 qk0 qr0 qc0 qt0 qd0 qs0 qf0 qw0 rowCount anyKept (oPort C qn0 qn1 qn2 qn3 qn4 qn5 qn6 now (oPort C qr0 qr1 qr2 qr3 qr4 qr5 qr6 v14 (oArrI C qw0 30 v16 [])))) → va_S A s.heap H locs → lv_has ls 5 [(3, .int i10), (0, .ref q0), (1, .int x0), (2, .int x1)] → j17 v16 = some (r, rowCount', trial', rows') → W p l e (headSpec wsX5_prove (rmX5_prove)).room s m (List.toArray [Value.ref q0, Value.int x0, Value.int x1]) below meth c H locs 0 0 Q (F0 m 81 ls []) := by
                intro v16 H locs ls hP hD hS hl hf
                rw [hj17] at hf
                obtain ⟨t18, et18, hf⟩ := lj_e hf
                refine lv_iinc (v := t18) (lv' := [(3, .int t18), (0, .ref q0), (1, .int x0), (2, .int x1)]) hx hb dX5_prove_81 hl (k := 0) rfl (by rw [et18]; rfl) (by decide) rfl (fun ls hl => ?_)
                refine lv_goto (tgt := 33) hx hb dX5_prove_84 (by decide) ?_
                exact ih t18 v14 v16 H locs ls hP hD hS (lv_sub hl [0, 1, 2, 3] rfl) hf
              have hL48 : ∀ (n : Nat) (i19 : Int32) (v20 : Nat → Int32) (H : Heap) (locs : List Loc) (ls : Array Slot), va_P D vwCl (oTM q0 qn0 qk0 qr0 qc0 qt0 qd0 qs0 qf0 qw0 rowCount anyKept (oPort C qn0 qn1 qn2 qn3 qn4 qn5 qn6 now (oPort C qr0 qr1 qr2 qr3 qr4 qr5 qr6 v14 (oArrI C qw0 30 v20 [])))) H → va_D A (oTM q0 qn0 qk0 qr0 qc0 qt0 qd0 qs0 qf0 qw0 rowCount anyKept (oPort C qn0 qn1 qn2 qn3 qn4 qn5 qn6 now (oPort C qr0 qr1 qr2 qr3 qr4 qr5 qr6 v14 (oArrI C qw0 30 v20 [])))) → va_S A s.heap H locs → lv_has ls 5 [(4, .int i19), (3, .int i10), (0, .ref q0), (1, .int x0), (2, .int x1)] → f_X5_prove_L48 x0 i10 v14 j17 n i19 v20 = some (r, rowCount', trial', rows') → W p l e (headSpec wsX5_prove (rmX5_prove)).room s m (List.toArray [Value.ref q0, Value.int x0, Value.int x1]) below meth c H locs 0 0 Q (F0 m 48 ls []) := by
                intro n
                induction n with
                | zero =>
                  intro i19 v20 H locs ls hP hD hS hl hf
                  exact absurd hf (fun h => by cases h)
                | succ n ih =>
                  intro i19 v20 H locs ls hP hD hS hl hf
                  rw [f_X5_prove_L48] at hf
                  refine lv_iload hx hb dX5_prove_48 (lv_at hl 0 rfl) ?_
                  refine lv_iconst (v := 3) hx hb dX5_prove_50 rfl ?_
                  refine lv_icmp_ge (tgt := 81) hx hb dX5_prove_51 (by decide) (fun c21 => ?_) (fun c21 => ?_)
                  · replace hf := if_te c21 hf
                    exact Hj17 v20 H locs ls hP hD hS (lv_sub hl [1, 2, 3, 4] rfl) hf
                  · replace hf := if_fe c21 hf
                    refine lv_aload_n hx hb dX5_prove_54 rfl (lv_at hl 2 rfl) ?_
                    refine va_get (D := D) (ci := 5) (v := .ref qw0) (C := RX5) (T := TX5) (N := 11) hx hb hts hi_RX5 hown hK hP 0 rfl rfl 8 (by decide) (hts (.fieldLink RX5 51 "TravelMarks" "rows" "[I") (List.mem_of_getElem? (i := 3) rfl)) (fun _ h9 => h9) rfl dX5_prove_55 ?_
                    refine lv_iload_n hx hb dX5_prove_58 rfl (lv_at hl 1 rfl) ?_
                    refine lv_iconst (v := 3) hx hb dX5_prove_59 rfl ?_
                    refine lv_imul hx hb dX5_prove_60 ?_
                    refine lv_iload hx hb dX5_prove_61 (lv_at hl 0 rfl) ?_
                    refine lv_iadd hx hb dX5_prove_63 ?_
                    refine lv_aload_n hx hb dX5_prove_64 rfl (lv_at hl 2 rfl) ?_
                    refine va_get (D := D) (ci := 5) (v := .ref qr0) (C := RX5) (T := TX5) (N := 11) hx hb hts hi_RX5 hown hK hP 0 rfl rfl 2 (by decide) (hts (.fieldLink RX5 19 "TravelMarks" "trial" "LTravelMarks$Port;") (List.mem_of_getElem? (i := 1) rfl)) (fun _ h9 => h9) rfl dX5_prove_65 ?_
                    refine lv_iload_n hx hb dX5_prove_68 rfl (lv_at hl 3 rfl) ?_
                    refine lv_iload hx hb dX5_prove_69 (lv_at hl 0 rfl) ?_
                    obtain ⟨r22, h23, hf⟩ := ob1_e hf
                    refine kci (Wx := (oTM q0 qn0 qk0 qr0 qc0 qt0 qd0 qs0 qf0 qw0 rowCount anyKept (oPort C qn0 qn1 qn2 qn3 qn4 qn5 qn6 now (oPort C qr0 qr1 qr2 qr3 qr4 qr5 qr6 v14 (oArrI C qw0 30 v20 []))))) (va_runV (As := [.int x0, .int i19]) (rest := [.int ((i10 * 3) + i19), .ref qw0]) ⟨hx, hb, hml, hown, hts⟩ (c_X1_rowPart l E D C qr0 qr1 qr2 qr3 qr4 qr5 qr6 H.size v14 x0 i19 r22 h23) (cwV 2 hts gX5_prove_X1_rowPart rfl rfl rfl hdX1_rowPart ⟨Nat.le_of_ble_eq_true rfl, Nat.le_of_ble_eq_true rfl⟩) (kpreV hP hD hK hS hE hA [8, 9, 10, 11, 12, 13, 14] rfl rfl 8 rfl rfl rfl) rfl rfl hl.1 rfl (lv_room (Nat.le_of_ble_eq_true rfl)) dX5_prove_71 ⟨Nat.zero_le _, Nat.zero_le _⟩) hP hD hS hA [8, 9, 10, 11, 12, 13, 14] rfl rfl rfl (fun H locs hP hD hS => ?_)
                    obtain ⟨hi24, hf⟩ := ckA_e hf
                    refine va_iast hx hb hK hP hD hS 15 0 rfl rfl hi24 dX5_prove_74 (fun H locs hP hD hS => ?_)
                    obtain ⟨v25, ev25, hf⟩ := lj_e hf
                    have hP : va_P D vwCl (oTM q0 qn0 qk0 qr0 qc0 qt0 qd0 qs0 qf0 qw0 rowCount anyKept (oPort C qn0 qn1 qn2 qn3 qn4 qn5 qn6 now (oPort C qr0 qr1 qr2 qr3 qr4 qr5 qr6 v14 (oArrI C qw0 30 v25 [])))) H := by rw [ev25]; exact hP
                    have hD : va_D A (oTM q0 qn0 qk0 qr0 qc0 qt0 qd0 qs0 qf0 qw0 rowCount anyKept (oPort C qn0 qn1 qn2 qn3 qn4 qn5 qn6 now (oPort C qr0 qr1 qr2 qr3 qr4 qr5 qr6 v14 (oArrI C qw0 30 v25 [])))) := by rw [ev25]; exact hD
                    obtain ⟨t26, et26, hf⟩ := lj_e hf
                    refine lv_iinc (v := t26) (lv' := [(4, .int t26), (3, .int i10), (0, .ref q0), (1, .int x0), (2, .int x1)]) hx hb dX5_prove_75 hl (k := 0) rfl (by rw [et26]; rfl) (by decide) rfl (fun ls hl => ?_)
                    refine lv_goto (tgt := 48) hx hb dX5_prove_78 (by decide) ?_
                    exact ih t26 v25 H locs ls hP hD hS (lv_sub hl [0, 1, 2, 3, 4] rfl) hf
              exact hL48 N 0 v12 H locs ls hP hD hS (lv_sub hl [0, 1, 2, 3, 4] rfl) hf
        exact hL33 N 0 v5 rows H locs ls hP hD hS (lv_sub hl [0, 1, 2, 3] rfl) hf
      · replace hf := if_te c4 hf
        refine lv_iconst (v := (-1)) hx hb dX5_prove_18 rfl ?_
        cases hf
        exact kri hQ hAe hx hb hr hlocks hP hD hK hS dX5_prove_19
  exact main _ _ hP hD hS

def rmX5_isRowPart : Room := { frames := 1, cells := 0, slots := 0, locals := 22 }
theorem hdX5_isRowPart : yX5_isRowPart.cls = RX5 ∧ yX5_isRowPart.cls ≠ "java/lang/invoke/MethodHandle" ∧ yX5_isRowPart.cls ≠ "java/lang/invoke/VarHandle" ∧ (parseMethodDescriptor yX5_isRowPart.desc).map (fun d => d.parameters.length) = some 2 := by decide +kernel
set_option maxHeartbeats 40000000 in
set_option maxRecDepth 100000 in
theorem c_X5_isRowPart (l : Launch) (E : Nat → Nat) (D : va_G) (C : Nat → ClassId) (q0 qn0 qk0 qr0 qc0 qt0 qd0 qs0 qf0 qw0 : Nat) (sz : Nat) (rowCount : Int32) (anyKept : Int32) (x0 : Int32) (x1 : Int32) (r : Int32) (hf : f_X5_isRowPart rowCount x0 x1 = r) : Met l yX5_isRowPart wsX5_isRowPart rmX5_isRowPart (PC E D C [.ref q0, .int x0, .int x1] (oTM q0 qn0 qk0 qr0 qc0 qt0 qd0 qs0 qf0 qw0 rowCount anyKept []) sz) (QZ D C (oTM q0 qn0 qk0 qr0 qc0 qt0 qd0 qs0 qf0 qw0 rowCount anyKept []) (oTM q0 qn0 qk0 qr0 qc0 qt0 qd0 qs0 qf0 qw0 rowCount anyKept []) sz r) 0 0 (va_A (oTM q0 qn0 qk0 qr0 qc0 qt0 qd0 qs0 qf0 qw0 rowCount anyKept []) sz) := by
  refine Met.ofW (cc := cX5_isRowPart) (maxL := 3) (ret := (some .boolean)) (by decide) rfl ?_
  intro p e s m args below meth c s₁ B hml hv
  obtain ⟨rfl, hsz, hP, hK, hD0, hE⟩ := hv
  have hx := B.exec
  have hb := B.bytes
  have hr := B.returns
  have hts := atoms_spec (ws := wsX5_isRowPart) B.pre
  have hown : s.vm.findClass RX5 = some m.cls := findClass_of_methodNamed B.named
  have hlocks := B.notSynchronized
  subst hsz
  have hi_RX5 : ∀ w ∈ wsX50, w ∈ wsX5_isRowPart := fun _ h => List.mem_cons_of_mem _ (List.mem_append_right _ h)
  have hD := hD0.self (sz := s.heap.size)
  obtain ⟨A, hAe⟩ := nm_ex (va_A (oTM q0 qn0 qk0 qr0 qc0 qt0 qd0 qs0 qf0 qw0 rowCount anyKept []) s.heap.size)
  rw [← hAe] at hD hE ⊢
  have hA : ∀ q : Nat, s.heap.size ≤ q → A q := fun q h => by rw [hAe]; exact Or.inr h
  have hS : va_S A s.heap s.heap [] := va_S.rf
  have hl := lv_entry ([.ref q0, .int x0, .int x1]) (n := 3) (Nat.le_of_ble_eq_true rfl)
  rw [lg_entry_eq]
  generalize (lg_sl ([.ref q0, .int x0, .int x1]) ++ List.replicate (3 - (lg_sl ([.ref q0, .int x0, .int x1])).length) Slot.unset).toArray = ls at hl ⊢
  have hl : lv_has ls 3 [(0, .ref q0), (1, .int x0), (2, .int x1)] := hl
  obtain ⟨Q, hQ⟩ := nm_ex (MQ below (QZ D C (oTM q0 qn0 qk0 qr0 qc0 qt0 qd0 qs0 qf0 qw0 rowCount anyKept []) (oTM q0 qn0 qk0 qr0 qc0 qt0 qd0 qs0 qf0 qw0 rowCount anyKept []) s.heap.size r) (List.toArray [Value.ref q0, Value.int x0, Value.int x1]) s 0 0 A)
  show W p l e (headSpec wsX5_isRowPart (rmX5_isRowPart)).room s m (List.toArray [Value.ref q0, Value.int x0, Value.int x1]) below meth c s.heap [] 0 0 (MQ below (QZ D C (oTM q0 qn0 qk0 qr0 qc0 qt0 qd0 qs0 qf0 qw0 rowCount anyKept []) (oTM q0 qn0 qk0 qr0 qc0 qt0 qd0 qs0 qf0 qw0 rowCount anyKept []) s.heap.size r) (List.toArray [Value.ref q0, Value.int x0, Value.int x1]) s 0 0 A) _
  rw [← hQ]
  unfold f_X5_isRowPart at hf
  have main : ∀ (H : Heap) (locs : List Loc), va_P D vwCl (oTM q0 qn0 qk0 qr0 qc0 qt0 qd0 qs0 qf0 qw0 rowCount anyKept []) H → va_D A (oTM q0 qn0 qk0 qr0 qc0 qt0 qd0 qs0 qf0 qw0 rowCount anyKept []) → va_S A s.heap H locs → W p l e (headSpec wsX5_isRowPart (rmX5_isRowPart)).room s m (List.toArray [Value.ref q0, Value.int x0, Value.int x1]) below meth c H locs 0 0 Q (F0 m 0 ls []) := by
    intro H locs hP hD hS
    refine lv_iload_n hx hb dX5_isRowPart_0 rfl (lv_at hl 1 rfl) ?_
    refine lv_iconst (v := 0) hx hb dX5_isRowPart_1 rfl ?_
    refine lv_aload_n hx hb dX5_isRowPart_2 rfl (lv_at hl 0 rfl) ?_
    refine va_get (D := D) (ci := 5) (v := .int rowCount) (C := RX5) (T := TX5) (N := 11) hx hb hts hi_RX5 hown hK hP 0 rfl rfl 9 (by decide) (hts (.fieldLink RX5 83 "TravelMarks" "rowCount" "I") (List.mem_of_getElem? (i := 1) rfl)) (fun _ h9 => h9) rfl dX5_isRowPart_3 ?_
    refine lv_iconst (v := 1) hx hb dX5_isRowPart_6 rfl ?_
    refine lv_isub hx hb dX5_isRowPart_7 ?_
    refine kcz (Wx := (oTM q0 qn0 qk0 qr0 qc0 qt0 qd0 qs0 qf0 qw0 rowCount anyKept [])) (va_runS (As := [.int x0, .int 0, .int (rowCount - 1)]) (rest := []) ⟨hx, hb, hml, hown, hts⟩ (c_X5_within l E D C H.size x0 0 (rowCount - 1) _ rfl) (va_cwS 3 hts gX5_isRowPart_X5_within rfl rfl rfl hdX5_within ⟨Nat.le_of_ble_eq_true rfl, Nat.le_of_ble_eq_true rfl⟩) (kpre hP hD hK hS hE hA [] rfl rfl) rfl rfl hl.1 rfl (lv_room (Nat.le_of_ble_eq_true rfl)) dX5_isRowPart_8 ⟨Nat.zero_le _, Nat.zero_le _⟩) hP hD hS hA [] rfl rfl rfl (fun H locs hz1 hP hD hS => ?_)
    refine lv_if_eq (tgt := 27) hx hb dX5_isRowPart_11 (by decide) (fun c2 => ?_) (fun c2 => ?_)
    · replace hf := if_te c2 hf
      refine lv_iconst (v := 0) hx hb dX5_isRowPart_27 rfl ?_
      cases hf
      exact krz hQ hAe hx hb hr hlocks zb_0 hP hD hK hS dX5_isRowPart_28
    · replace hf := if_fe c2 hf
      refine lv_iload_n hx hb dX5_isRowPart_14 rfl (lv_at hl 2 rfl) ?_
      refine lv_iconst (v := 0) hx hb dX5_isRowPart_15 rfl ?_
      refine lv_iconst (v := 2) hx hb dX5_isRowPart_16 rfl ?_
      refine kcz (Wx := (oTM q0 qn0 qk0 qr0 qc0 qt0 qd0 qs0 qf0 qw0 rowCount anyKept [])) (va_runS (As := [.int x1, .int 0, .int 2]) (rest := []) ⟨hx, hb, hml, hown, hts⟩ (c_X5_within l E D C H.size x1 0 2 _ rfl) (va_cwS 3 hts gX5_isRowPart_X5_within rfl rfl rfl hdX5_within ⟨Nat.le_of_ble_eq_true rfl, Nat.le_of_ble_eq_true rfl⟩) (kpre hP hD hK hS hE hA [] rfl rfl) rfl rfl hl.1 rfl (lv_room (Nat.le_of_ble_eq_true rfl)) dX5_isRowPart_17 ⟨Nat.zero_le _, Nat.zero_le _⟩) hP hD hS hA [] rfl rfl rfl (fun H locs hz3 hP hD hS => ?_)
      refine lv_if_eq (tgt := 27) hx hb dX5_isRowPart_20 (by decide) (fun c4 => ?_) (fun c4 => ?_)
      · replace hf := if_te c4 hf
        refine lv_iconst (v := 0) hx hb dX5_isRowPart_27 rfl ?_
        cases hf
        exact krz hQ hAe hx hb hr hlocks zb_0 hP hD hK hS dX5_isRowPart_28
      · replace hf := if_fe c4 hf
        refine lv_iconst (v := 1) hx hb dX5_isRowPart_23 rfl ?_
        refine lv_goto (tgt := 28) hx hb dX5_isRowPart_24 (by decide) ?_
        cases hf
        exact krz hQ hAe hx hb hr hlocks zb_1 hP hD hK hS dX5_isRowPart_28
  exact main _ _ hP hD hS

def rmX5_row : Room := { frames := 2, cells := 0, slots := 0, locals := 44 }
theorem hdX5_row : yX5_row.cls = RX5 ∧ yX5_row.cls ≠ "java/lang/invoke/MethodHandle" ∧ yX5_row.cls ≠ "java/lang/invoke/VarHandle" ∧ (parseMethodDescriptor yX5_row.desc).map (fun d => d.parameters.length) = some 2 := by decide +kernel
set_option maxHeartbeats 40000000 in
set_option maxRecDepth 100000 in
theorem c_X5_row (l : Launch) (E : Nat → Nat) (D : va_G) (C : Nat → ClassId) (q0 qn0 qk0 qr0 qc0 qt0 qd0 qs0 qf0 qw0 : Nat) (sz : Nat) (rowCount : Int32) (anyKept : Int32) (rows : Nat → Int32) (x0 : Int32) (x1 : Int32) (r : Int32) (hf : f_X5_row rowCount rows x0 x1 = some r) : Met l yX5_row wsX5_row rmX5_row (PC E D C [.ref q0, .int x0, .int x1] (oTM q0 qn0 qk0 qr0 qc0 qt0 qd0 qs0 qf0 qw0 rowCount anyKept (oArrI C qw0 30 rows [])) sz) (QI D C (oTM q0 qn0 qk0 qr0 qc0 qt0 qd0 qs0 qf0 qw0 rowCount anyKept (oArrI C qw0 30 rows [])) (oTM q0 qn0 qk0 qr0 qc0 qt0 qd0 qs0 qf0 qw0 rowCount anyKept (oArrI C qw0 30 rows [])) sz r) 0 0 (va_A (oTM q0 qn0 qk0 qr0 qc0 qt0 qd0 qs0 qf0 qw0 rowCount anyKept (oArrI C qw0 30 rows [])) sz) := by
  refine Met.ofW (cc := cX5_row) (maxL := 3) (ret := (some .int)) (by decide) rfl ?_
  intro p e s m args below meth c s₁ B hml hv
  obtain ⟨rfl, hsz, hP, hK, hD0, hE⟩ := hv
  have hx := B.exec
  have hb := B.bytes
  have hr := B.returns
  have hts := atoms_spec (ws := wsX5_row) B.pre
  have hown : s.vm.findClass RX5 = some m.cls := findClass_of_methodNamed B.named
  have hlocks := B.notSynchronized
  subst hsz
  have hi_RX5 : ∀ w ∈ wsX50, w ∈ wsX5_row := fun _ h => List.mem_cons_of_mem _ (List.mem_append_right _ h)
  have hD := hD0.self (sz := s.heap.size)
  obtain ⟨A, hAe⟩ := nm_ex (va_A (oTM q0 qn0 qk0 qr0 qc0 qt0 qd0 qs0 qf0 qw0 rowCount anyKept (oArrI C qw0 30 rows [])) s.heap.size)
  rw [← hAe] at hD hE ⊢
  have hA : ∀ q : Nat, s.heap.size ≤ q → A q := fun q h => by rw [hAe]; exact Or.inr h
  have hS : va_S A s.heap s.heap [] := va_S.rf
  have hl := lv_entry ([.ref q0, .int x0, .int x1]) (n := 3) (Nat.le_of_ble_eq_true rfl)
  rw [lg_entry_eq]
  generalize (lg_sl ([.ref q0, .int x0, .int x1]) ++ List.replicate (3 - (lg_sl ([.ref q0, .int x0, .int x1])).length) Slot.unset).toArray = ls at hl ⊢
  have hl : lv_has ls 3 [(0, .ref q0), (1, .int x0), (2, .int x1)] := hl
  obtain ⟨Q, hQ⟩ := nm_ex (MQ below (QI D C (oTM q0 qn0 qk0 qr0 qc0 qt0 qd0 qs0 qf0 qw0 rowCount anyKept (oArrI C qw0 30 rows [])) (oTM q0 qn0 qk0 qr0 qc0 qt0 qd0 qs0 qf0 qw0 rowCount anyKept (oArrI C qw0 30 rows [])) s.heap.size r) (List.toArray [Value.ref q0, Value.int x0, Value.int x1]) s 0 0 A)
  show W p l e (headSpec wsX5_row (rmX5_row)).room s m (List.toArray [Value.ref q0, Value.int x0, Value.int x1]) below meth c s.heap [] 0 0 (MQ below (QI D C (oTM q0 qn0 qk0 qr0 qc0 qt0 qd0 qs0 qf0 qw0 rowCount anyKept (oArrI C qw0 30 rows [])) (oTM q0 qn0 qk0 qr0 qc0 qt0 qd0 qs0 qf0 qw0 rowCount anyKept (oArrI C qw0 30 rows [])) s.heap.size r) (List.toArray [Value.ref q0, Value.int x0, Value.int x1]) s 0 0 A) _
  rw [← hQ]
  unfold f_X5_row at hf
  have main : ∀ (H : Heap) (locs : List Loc), va_P D vwCl (oTM q0 qn0 qk0 qr0 qc0 qt0 qd0 qs0 qf0 qw0 rowCount anyKept (oArrI C qw0 30 rows [])) H → va_D A (oTM q0 qn0 qk0 qr0 qc0 qt0 qd0 qs0 qf0 qw0 rowCount anyKept (oArrI C qw0 30 rows [])) → va_S A s.heap H locs → W p l e (headSpec wsX5_row (rmX5_row)).room s m (List.toArray [Value.ref q0, Value.int x0, Value.int x1]) below meth c H locs 0 0 Q (F0 m 0 ls []) := by
    intro H locs hP hD hS
    refine lv_aload_n hx hb dX5_row_0 rfl (lv_at hl 0 rfl) ?_
    refine lv_iload_n hx hb dX5_row_1 rfl (lv_at hl 1 rfl) ?_
    refine lv_iload_n hx hb dX5_row_2 rfl (lv_at hl 2 rfl) ?_
    refine kcz (Wx := (oTM q0 qn0 qk0 qr0 qc0 qt0 qd0 qs0 qf0 qw0 rowCount anyKept (oArrI C qw0 30 rows []))) (va_runV (As := [.int x0, .int x1]) (rest := []) ⟨hx, hb, hml, hown, hts⟩ (c_X5_isRowPart l E D C q0 qn0 qk0 qr0 qc0 qt0 qd0 qs0 qf0 qw0 H.size rowCount anyKept x0 x1 _ rfl) (cwV 2 hts gX5_row_X5_isRowPart rfl rfl rfl hdX5_isRowPart ⟨Nat.le_of_ble_eq_true rfl, Nat.le_of_ble_eq_true rfl⟩) (kpreV hP hD hK hS hE hA [0] rfl rfl 0 rfl rfl rfl) rfl rfl hl.1 rfl (lv_room (Nat.le_of_ble_eq_true rfl)) dX5_row_3 ⟨Nat.zero_le _, Nat.zero_le _⟩) hP hD hS hA [0] rfl rfl rfl (fun H locs hz1 hP hD hS => ?_)
    refine lv_if_eq (tgt := 22) hx hb dX5_row_6 (by decide) (fun c2 => ?_) (fun c2 => ?_)
    · replace hf := if_te c2 hf
      refine lv_bipush (v := (-9)) hx hb dX5_row_22 rfl ?_
      cases hf
      exact kri hQ hAe hx hb hr hlocks hP hD hK hS dX5_row_24
    · replace hf := if_fe c2 hf
      refine lv_aload_n hx hb dX5_row_9 rfl (lv_at hl 0 rfl) ?_
      refine va_get (D := D) (ci := 5) (v := .ref qw0) (C := RX5) (T := TX5) (N := 11) hx hb hts hi_RX5 hown hK hP 0 rfl rfl 8 (by decide) (hts (.fieldLink RX5 51 "TravelMarks" "rows" "[I") (List.mem_of_getElem? (i := 1) rfl)) (fun _ h9 => h9) rfl dX5_row_10 ?_
      refine lv_iload_n hx hb dX5_row_13 rfl (lv_at hl 1 rfl) ?_
      refine lv_iconst (v := 3) hx hb dX5_row_14 rfl ?_
      refine lv_imul hx hb dX5_row_15 ?_
      refine lv_iload_n hx hb dX5_row_16 rfl (lv_at hl 2 rfl) ?_
      refine lv_iadd hx hb dX5_row_17 ?_
      obtain ⟨y4, ey4, hi3, hf⟩ := rdA_x hf
      refine va_iald hx hb hK hP 1 0 rfl rfl hi3 dX5_row_18 ?_
      refine lv_ren ey4 ?_
      refine lv_goto (tgt := 24) hx hb dX5_row_19 (by decide) ?_
      cases hf
      exact kri hQ hAe hx hb hr hlocks hP hD hK hS dX5_row_24
  exact main _ _ hP hD hS

def rmX5_alterRow : Room := { frames := 2, cells := 0, slots := 0, locals := 44 }
theorem hdX5_alterRow : yX5_alterRow.cls = RX5 ∧ yX5_alterRow.cls ≠ "java/lang/invoke/MethodHandle" ∧ yX5_alterRow.cls ≠ "java/lang/invoke/VarHandle" ∧ (parseMethodDescriptor yX5_alterRow.desc).map (fun d => d.parameters.length) = some 3 := by decide +kernel
set_option maxHeartbeats 40000000 in
set_option maxRecDepth 100000 in
theorem c_X5_alterRow (l : Launch) (E : Nat → Nat) (D : va_G) (C : Nat → ClassId) (q0 qn0 qk0 qr0 qc0 qt0 qd0 qs0 qf0 qw0 : Nat) (sz : Nat) (rowCount : Int32) (anyKept : Int32) (rows : Nat → Int32) (x0 : Int32) (x1 : Int32) (x2 : Int32) (r : Int32) (rows' : Nat → Int32) (hf : f_X5_alterRow rowCount rows x0 x1 x2 = some (r, rows')) : Met l yX5_alterRow wsX5_alterRow rmX5_alterRow (PC E D C [.ref q0, .int x0, .int x1, .int x2] (oTM q0 qn0 qk0 qr0 qc0 qt0 qd0 qs0 qf0 qw0 rowCount anyKept (oArrI C qw0 30 rows [])) sz) (QI D C (oTM q0 qn0 qk0 qr0 qc0 qt0 qd0 qs0 qf0 qw0 rowCount anyKept (oArrI C qw0 30 rows [])) (oTM q0 qn0 qk0 qr0 qc0 qt0 qd0 qs0 qf0 qw0 rowCount anyKept (oArrI C qw0 30 (rows') [])) sz r) 0 0 (va_A (oTM q0 qn0 qk0 qr0 qc0 qt0 qd0 qs0 qf0 qw0 rowCount anyKept (oArrI C qw0 30 rows [])) sz) := by
  refine Met.ofW (cc := cX5_alterRow) (maxL := 5) (ret := (some .int)) (by decide) rfl ?_
  intro p e s m args below meth c s₁ B hml hv
  obtain ⟨rfl, hsz, hP, hK, hD0, hE⟩ := hv
  have hx := B.exec
  have hb := B.bytes
  have hr := B.returns
  have hts := atoms_spec (ws := wsX5_alterRow) B.pre
  have hown : s.vm.findClass RX5 = some m.cls := findClass_of_methodNamed B.named
  have hlocks := B.notSynchronized
  subst hsz
  have hi_RX5 : ∀ w ∈ wsX50, w ∈ wsX5_alterRow := fun _ h => List.mem_cons_of_mem _ (List.mem_append_right _ h)
  have hD := hD0.self (sz := s.heap.size)
  obtain ⟨A, hAe⟩ := nm_ex (va_A (oTM q0 qn0 qk0 qr0 qc0 qt0 qd0 qs0 qf0 qw0 rowCount anyKept (oArrI C qw0 30 rows [])) s.heap.size)
  rw [← hAe] at hD hE ⊢
  have hA : ∀ q : Nat, s.heap.size ≤ q → A q := fun q h => by rw [hAe]; exact Or.inr h
  have hS : va_S A s.heap s.heap [] := va_S.rf
  have hl := lv_entry ([.ref q0, .int x0, .int x1, .int x2]) (n := 5) (Nat.le_of_ble_eq_true rfl)
  rw [lg_entry_eq]
  generalize (lg_sl ([.ref q0, .int x0, .int x1, .int x2]) ++ List.replicate (5 - (lg_sl ([.ref q0, .int x0, .int x1, .int x2])).length) Slot.unset).toArray = ls at hl ⊢
  have hl : lv_has ls 5 [(0, .ref q0), (1, .int x0), (2, .int x1), (3, .int x2)] := hl
  obtain ⟨Q, hQ⟩ := nm_ex (MQ below (QI D C (oTM q0 qn0 qk0 qr0 qc0 qt0 qd0 qs0 qf0 qw0 rowCount anyKept (oArrI C qw0 30 rows [])) (oTM q0 qn0 qk0 qr0 qc0 qt0 qd0 qs0 qf0 qw0 rowCount anyKept (oArrI C qw0 30 (rows') [])) s.heap.size r) (List.toArray [Value.ref q0, Value.int x0, Value.int x1, Value.int x2]) s 0 0 A)
  show W p l e (headSpec wsX5_alterRow (rmX5_alterRow)).room s m (List.toArray [Value.ref q0, Value.int x0, Value.int x1, Value.int x2]) below meth c s.heap [] 0 0 (MQ below (QI D C (oTM q0 qn0 qk0 qr0 qc0 qt0 qd0 qs0 qf0 qw0 rowCount anyKept (oArrI C qw0 30 rows [])) (oTM q0 qn0 qk0 qr0 qc0 qt0 qd0 qs0 qf0 qw0 rowCount anyKept (oArrI C qw0 30 (rows') [])) s.heap.size r) (List.toArray [Value.ref q0, Value.int x0, Value.int x1, Value.int x2]) s 0 0 A) _
  rw [← hQ]
  unfold f_X5_alterRow at hf
  have main : ∀ (H : Heap) (locs : List Loc), va_P D vwCl (oTM q0 qn0 qk0 qr0 qc0 qt0 qd0 qs0 qf0 qw0 rowCount anyKept (oArrI C qw0 30 rows [])) H → va_D A (oTM q0 qn0 qk0 qr0 qc0 qt0 qd0 qs0 qf0 qw0 rowCount anyKept (oArrI C qw0 30 rows [])) → va_S A s.heap H locs → W p l e (headSpec wsX5_alterRow (rmX5_alterRow)).room s m (List.toArray [Value.ref q0, Value.int x0, Value.int x1, Value.int x2]) below meth c H locs 0 0 Q (F0 m 0 ls []) := by
    intro H locs hP hD hS
    refine lv_aload_n hx hb dX5_alterRow_0 rfl (lv_at hl 0 rfl) ?_
    refine lv_iload_n hx hb dX5_alterRow_1 rfl (lv_at hl 1 rfl) ?_
    refine lv_iload_n hx hb dX5_alterRow_2 rfl (lv_at hl 2 rfl) ?_
    refine kcz (Wx := (oTM q0 qn0 qk0 qr0 qc0 qt0 qd0 qs0 qf0 qw0 rowCount anyKept (oArrI C qw0 30 rows []))) (va_runV (As := [.int x0, .int x1]) (rest := []) ⟨hx, hb, hml, hown, hts⟩ (c_X5_isRowPart l E D C q0 qn0 qk0 qr0 qc0 qt0 qd0 qs0 qf0 qw0 H.size rowCount anyKept x0 x1 _ rfl) (cwV 2 hts gX5_alterRow_X5_isRowPart rfl rfl rfl hdX5_isRowPart ⟨Nat.le_of_ble_eq_true rfl, Nat.le_of_ble_eq_true rfl⟩) (kpreV hP hD hK hS hE hA [0] rfl rfl 0 rfl rfl rfl) rfl rfl hl.1 rfl (lv_room (Nat.le_of_ble_eq_true rfl)) dX5_alterRow_3 ⟨Nat.zero_le _, Nat.zero_le _⟩) hP hD hS hA [0] rfl rfl rfl (fun H locs hz1 hP hD hS => ?_)
    refine lv_if_ne (tgt := 12) hx hb dX5_alterRow_6 (by decide) (fun c2 => ?_) (fun c2 => ?_)
    · replace hf := if_fe c2 hf
      refine lv_aload_n hx hb dX5_alterRow_12 rfl (lv_at hl 0 rfl) ?_
      refine va_get (D := D) (ci := 5) (v := .ref qw0) (C := RX5) (T := TX5) (N := 11) hx hb hts hi_RX5 hown hK hP 0 rfl rfl 8 (by decide) (hts (.fieldLink RX5 51 "TravelMarks" "rows" "[I") (List.mem_of_getElem? (i := 1) rfl)) (fun _ h9 => h9) rfl dX5_alterRow_13 ?_
      refine lv_iload_n hx hb dX5_alterRow_16 rfl (lv_at hl 1 rfl) ?_
      refine lv_iconst (v := 3) hx hb dX5_alterRow_17 rfl ?_
      refine lv_imul hx hb dX5_alterRow_18 ?_
      refine lv_iload_n hx hb dX5_alterRow_19 rfl (lv_at hl 2 rfl) ?_
      refine lv_iadd hx hb dX5_alterRow_20 ?_
      obtain ⟨y4, ey4, hi3, hf⟩ := rdA_x hf
      refine va_iald hx hb hK hP 1 0 rfl rfl hi3 dX5_alterRow_21 ?_
      refine lv_ren ey4 ?_
      refine lv_istore (lv' := [(4, .int y4), (0, .ref q0), (1, .int x0), (2, .int x1), (3, .int x2)]) hx hb dX5_alterRow_22 hl (by decide) rfl (fun ls hl => ?_)
      refine lv_aload_n hx hb dX5_alterRow_24 rfl (lv_at hl 1 rfl) ?_
      refine va_get (D := D) (ci := 5) (v := .ref qw0) (C := RX5) (T := TX5) (N := 11) hx hb hts hi_RX5 hown hK hP 0 rfl rfl 8 (by decide) (hts (.fieldLink RX5 51 "TravelMarks" "rows" "[I") (List.mem_of_getElem? (i := 1) rfl)) (fun _ h9 => h9) rfl dX5_alterRow_25 ?_
      refine lv_iload_n hx hb dX5_alterRow_28 rfl (lv_at hl 2 rfl) ?_
      refine lv_iconst (v := 3) hx hb dX5_alterRow_29 rfl ?_
      refine lv_imul hx hb dX5_alterRow_30 ?_
      refine lv_iload_n hx hb dX5_alterRow_31 rfl (lv_at hl 3 rfl) ?_
      refine lv_iadd hx hb dX5_alterRow_32 ?_
      refine lv_iload_n hx hb dX5_alterRow_33 rfl (lv_at hl 4 rfl) ?_
      obtain ⟨hi5, hf⟩ := ckA_e hf
      refine va_iast hx hb hK hP hD hS 1 0 rfl rfl hi5 dX5_alterRow_34 (fun H locs hP hD hS => ?_)
      obtain ⟨v6, ev6, hf⟩ := lj_e hf
      have hP : va_P D vwCl (oTM q0 qn0 qk0 qr0 qc0 qt0 qd0 qs0 qf0 qw0 rowCount anyKept (oArrI C qw0 30 v6 [])) H := by rw [ev6]; exact hP
      have hD : va_D A (oTM q0 qn0 qk0 qr0 qc0 qt0 qd0 qs0 qf0 qw0 rowCount anyKept (oArrI C qw0 30 v6 [])) := by rw [ev6]; exact hD
      refine lv_iload hx hb dX5_alterRow_35 (lv_at hl 0 rfl) ?_
      cases hf
      exact kri hQ hAe hx hb hr hlocks hP hD hK hS dX5_alterRow_37
    · replace hf := if_te c2 hf
      refine lv_bipush (v := (-9)) hx hb dX5_alterRow_9 rfl ?_
      cases hf
      exact kri hQ hAe hx hb hr hlocks hP hD hK hS dX5_alterRow_11
  exact main _ _ hP hD hS

def rmX5_judge : Room := { frames := 4, cells := 0, slots := 0, locals := 91 }
theorem hdX5_judge : yX5_judge.cls = RX5 ∧ yX5_judge.cls ≠ "java/lang/invoke/MethodHandle" ∧ yX5_judge.cls ≠ "java/lang/invoke/VarHandle" ∧ (parseMethodDescriptor yX5_judge.desc).map (fun d => d.parameters.length) = some 1 := by decide +kernel
set_option maxHeartbeats 40000000 in
set_option maxRecDepth 100000 in
theorem c_X5_judge (l : Launch) (E : Nat → Nat) (D : va_G) (C : Nat → ClassId) (q0 qn0 qk0 qr0 qc0 qt0 qd0 qs0 qf0 qw0 qn1 qn2 qn3 qn4 qn5 qn6 qr1 qr2 qr3 qr4 qr5 qr6 : Nat) (sz : Nat) (N : Nat) (rowCount : Int32) (anyKept : Int32) (now : PV) (trial : PV) (rows : Nat → Int32) (x0 : Int32) (r : Int32) (trial' : PV) (hf : f_X5_judge N rowCount now trial rows x0 = some (r, trial')) : Met l yX5_judge wsX5_judge rmX5_judge (PC E D C [.ref q0, .int x0] (oTM q0 qn0 qk0 qr0 qc0 qt0 qd0 qs0 qf0 qw0 rowCount anyKept (oPort C qn0 qn1 qn2 qn3 qn4 qn5 qn6 now (oPort C qr0 qr1 qr2 qr3 qr4 qr5 qr6 trial (oArrI C qw0 30 rows [])))) sz) (QI D C (oTM q0 qn0 qk0 qr0 qc0 qt0 qd0 qs0 qf0 qw0 rowCount anyKept (oPort C qn0 qn1 qn2 qn3 qn4 qn5 qn6 now (oPort C qr0 qr1 qr2 qr3 qr4 qr5 qr6 trial (oArrI C qw0 30 rows [])))) (oTM q0 qn0 qk0 qr0 qc0 qt0 qd0 qs0 qf0 qw0 rowCount anyKept (oPort C qn0 qn1 qn2 qn3 qn4 qn5 qn6 now (oPort C qr0 qr1 qr2 qr3 qr4 qr5 qr6 (trial') (oArrI C qw0 30 rows [])))) sz r) 0 0 (va_A (oTM q0 qn0 qk0 qr0 qc0 qt0 qd0 qs0 qf0 qw0 rowCount anyKept (oPort C qn0 qn1 qn2 qn3 qn4 qn5 qn6 now (oPort C qr0 qr1 qr2 qr3 qr4 qr5 qr6 trial (oArrI C qw0 30 rows [])))) sz) := by
  refine Met.ofW (cc := cX5_judge) (maxL := 4) (ret := (some .int)) (by decide) rfl ?_
  intro p e s m args below meth c s₁ B hml hv
  obtain ⟨rfl, hsz, hP, hK, hD0, hE⟩ := hv
  have hx := B.exec
  have hb := B.bytes
  have hr := B.returns
  have hts := atoms_spec (ws := wsX5_judge) B.pre
  have hown : s.vm.findClass RX5 = some m.cls := findClass_of_methodNamed B.named
  have hlocks := B.notSynchronized
  subst hsz
  have hi_RX5 : ∀ w ∈ wsX50, w ∈ wsX5_judge := fun _ h => List.mem_cons_of_mem _ (List.mem_append_left _ (List.mem_append_right _ h))
  have hD := hD0.self (sz := s.heap.size)
  obtain ⟨A, hAe⟩ := nm_ex (va_A (oTM q0 qn0 qk0 qr0 qc0 qt0 qd0 qs0 qf0 qw0 rowCount anyKept (oPort C qn0 qn1 qn2 qn3 qn4 qn5 qn6 now (oPort C qr0 qr1 qr2 qr3 qr4 qr5 qr6 trial (oArrI C qw0 30 rows [])))) s.heap.size)
  rw [← hAe] at hD hE ⊢
  have hA : ∀ q : Nat, s.heap.size ≤ q → A q := fun q h => by rw [hAe]; exact Or.inr h
  have hS : va_S A s.heap s.heap [] := va_S.rf
  have hl := lv_entry ([.ref q0, .int x0]) (n := 4) (Nat.le_of_ble_eq_true rfl)
  rw [lg_entry_eq]
  generalize (lg_sl ([.ref q0, .int x0]) ++ List.replicate (4 - (lg_sl ([.ref q0, .int x0])).length) Slot.unset).toArray = ls at hl ⊢
  have hl : lv_has ls 4 [(0, .ref q0), (1, .int x0)] := hl
  obtain ⟨Q, hQ⟩ := nm_ex (MQ below (QI D C (oTM q0 qn0 qk0 qr0 qc0 qt0 qd0 qs0 qf0 qw0 rowCount anyKept (oPort C qn0 qn1 qn2 qn3 qn4 qn5 qn6 now (oPort C qr0 qr1 qr2 qr3 qr4 qr5 qr6 trial (oArrI C qw0 30 rows [])))) (oTM q0 qn0 qk0 qr0 qc0 qt0 qd0 qs0 qf0 qw0 rowCount anyKept (oPort C qn0 qn1 qn2 qn3 qn4 qn5 qn6 now (oPort C qr0 qr1 qr2 qr3 qr4 qr5 qr6 (trial') (oArrI C qw0 30 rows [])))) s.heap.size r) (List.toArray [Value.ref q0, Value.int x0]) s 0 0 A)
  show W p l e (headSpec wsX5_judge (rmX5_judge)).room s m (List.toArray [Value.ref q0, Value.int x0]) below meth c s.heap [] 0 0 (MQ below (QI D C (oTM q0 qn0 qk0 qr0 qc0 qt0 qd0 qs0 qf0 qw0 rowCount anyKept (oPort C qn0 qn1 qn2 qn3 qn4 qn5 qn6 now (oPort C qr0 qr1 qr2 qr3 qr4 qr5 qr6 trial (oArrI C qw0 30 rows [])))) (oTM q0 qn0 qk0 qr0 qc0 qt0 qd0 qs0 qf0 qw0 rowCount anyKept (oPort C qn0 qn1 qn2 qn3 qn4 qn5 qn6 now (oPort C qr0 qr1 qr2 qr3 qr4 qr5 qr6 (trial') (oArrI C qw0 30 rows [])))) s.heap.size r) (List.toArray [Value.ref q0, Value.int x0]) s 0 0 A) _
  rw [← hQ]
  unfold f_X5_judge at hf
  have main : ∀ (H : Heap) (locs : List Loc), va_P D vwCl (oTM q0 qn0 qk0 qr0 qc0 qt0 qd0 qs0 qf0 qw0 rowCount anyKept (oPort C qn0 qn1 qn2 qn3 qn4 qn5 qn6 now (oPort C qr0 qr1 qr2 qr3 qr4 qr5 qr6 trial (oArrI C qw0 30 rows [])))) H → va_D A (oTM q0 qn0 qk0 qr0 qc0 qt0 qd0 qs0 qf0 qw0 rowCount anyKept (oPort C qn0 qn1 qn2 qn3 qn4 qn5 qn6 now (oPort C qr0 qr1 qr2 qr3 qr4 qr5 qr6 trial (oArrI C qw0 30 rows [])))) → va_S A s.heap H locs → W p l e (headSpec wsX5_judge (rmX5_judge)).room s m (List.toArray [Value.ref q0, Value.int x0]) below meth c H locs 0 0 Q (F0 m 0 ls []) := by
    intro H locs hP hD hS
    refine lv_aload_n hx hb dX5_judge_0 rfl (lv_at hl 0 rfl) ?_
    refine lv_iload_n hx hb dX5_judge_1 rfl (lv_at hl 1 rfl) ?_
    refine kcz (Wx := (oTM q0 qn0 qk0 qr0 qc0 qt0 qd0 qs0 qf0 qw0 rowCount anyKept (oPort C qn0 qn1 qn2 qn3 qn4 qn5 qn6 now (oPort C qr0 qr1 qr2 qr3 qr4 qr5 qr6 trial (oArrI C qw0 30 rows []))))) (va_runV (As := [.int x0]) (rest := []) ⟨hx, hb, hml, hown, hts⟩ (c_X5_isMark l E D C q0 qn0 qk0 qr0 qc0 qt0 qd0 qs0 qf0 qw0 qn1 qn2 qn3 qn4 qn5 qn6 H.size rowCount anyKept now x0 _ rfl) (cwV 1 hts gX5_judge_X5_isMark rfl rfl rfl hdX5_isMark ⟨Nat.le_of_ble_eq_true rfl, Nat.le_of_ble_eq_true rfl⟩) (kpreV hP hD hK hS hE hA [0, 1, 2, 3, 4, 5, 6, 7] rfl rfl 0 rfl rfl rfl) rfl rfl hl.1 rfl (lv_room (Nat.le_of_ble_eq_true rfl)) dX5_judge_2 ⟨Nat.zero_le _, Nat.zero_le _⟩) hP hD hS hA [0, 1, 2, 3, 4, 5, 6, 7] rfl rfl rfl (fun H locs hz1 hP hD hS => ?_)
    refine lv_if_ne (tgt := 10) hx hb dX5_judge_5 (by decide) (fun c2 => ?_) (fun c2 => ?_)
    · replace hf := if_fe c2 hf
      refine lv_aload_n hx hb dX5_judge_10 rfl (lv_at hl 0 rfl) ?_
      refine va_get (D := D) (ci := 5) (v := .ref qr0) (C := RX5) (T := TX5) (N := 11) hx hb hts hi_RX5 hown hK hP 0 rfl rfl 2 (by decide) (hts (.fieldLink RX5 19 "TravelMarks" "trial" "LTravelMarks$Port;") (List.mem_of_getElem? (i := 1) rfl)) (fun _ h9 => h9) rfl dX5_judge_11 ?_
      refine lv_aload_n hx hb dX5_judge_14 rfl (lv_at hl 0 rfl) ?_
      refine va_get (D := D) (ci := 5) (v := .ref qn0) (C := RX5) (T := TX5) (N := 11) hx hb hts hi_RX5 hown hK hP 0 rfl rfl 0 (by decide) (hts (.fieldLink RX5 10 "TravelMarks" "now" "LTravelMarks$Port;") (List.mem_of_getElem? (i := 2) rfl)) (fun _ h9 => h9) rfl dX5_judge_15 ?_
      obtain ⟨v3, h4, hf⟩ := ob1_e hf
      refine kcv (Wx := (oTM q0 qn0 qk0 qr0 qc0 qt0 qd0 qs0 qf0 qw0 rowCount anyKept (oPort C qn0 qn1 qn2 qn3 qn4 qn5 qn6 now (oPort C qr0 qr1 qr2 qr3 qr4 qr5 qr6 v3 (oArrI C qw0 30 rows []))))) (va_runV (As := [.ref qn0]) (rest := []) ⟨hx, hb, hml, hown, hts⟩ (c_X1_become l E D C qr0 qr1 qr2 qr3 qr4 qr5 qr6 qn0 qn1 qn2 qn3 qn4 qn5 qn6 H.size trial now v3 h4) (cwV 1 hts gX5_judge_X1_become rfl rfl rfl hdX1_become ⟨Nat.le_of_ble_eq_true rfl, Nat.le_of_ble_eq_true rfl⟩) (kpreV hP hD hK hS hE hA [8, 9, 10, 11, 12, 13, 14, 1, 2, 3, 4, 5, 6, 7] rfl rfl 8 rfl rfl rfl) rfl rfl hl.1 rfl (lv_room (Nat.le_of_ble_eq_true rfl)) dX5_judge_18 ⟨Nat.zero_le _, Nat.zero_le _⟩) hP hD hS hA [8, 9, 10, 11, 12, 13, 14, 1, 2, 3, 4, 5, 6, 7] rfl rfl rfl (fun H locs hP hD hS => ?_)
      refine lv_iconst (v := 0) hx hb dX5_judge_21 rfl ?_
      refine lv_istore_n (lv' := [(2, .int 0), (0, .ref q0), (1, .int x0)]) hx hb dX5_judge_22 rfl hl (by decide) rfl (fun ls hl => ?_)
      have hL23 : ∀ (n : Nat) (i5 : Int32) (v6 : PV) (H : Heap) (locs : List Loc) (ls : Array Slot), va_P D vwCl (oTM q0 qn0 qk0 qr0 qc0 qt0 qd0 qs0 qf0 qw0 rowCount anyKept (oPort C qn0 qn1 qn2 qn3 qn4 qn5 qn6 now (oPort C qr0 qr1 qr2 qr3 qr4 qr5 qr6 v6 (oArrI C qw0 30 rows [])))) H → va_D A (oTM q0 qn0 qk0 qr0 qc0 qt0 qd0 qs0 qf0 qw0 rowCount anyKept (oPort C qn0 qn1 qn2 qn3 qn4 qn5 qn6 now (oPort C qr0 qr1 qr2 qr3 qr4 qr5 qr6 v6 (oArrI C qw0 30 rows [])))) → va_S A s.heap H locs → lv_has ls 4 [(2, .int i5), (0, .ref q0), (1, .int x0)] → f_X5_judge_L23 N rowCount rows x0 n i5 v6 = some (r, trial') → W p l e (headSpec wsX5_judge (rmX5_judge)).room s m (List.toArray [Value.ref q0, Value.int x0]) below meth c H locs 0 0 Q (F0 m 23 ls []) := by
        intro n
        induction n with
        | zero =>
          intro i5 v6 H locs ls hP hD hS hl hf
          exact absurd hf (fun h => by cases h)
        | succ n ih =>
          intro i5 v6 H locs ls hP hD hS hl hf
          rw [f_X5_judge_L23] at hf
          refine lv_iload_n hx hb dX5_judge_23 rfl (lv_at hl 0 rfl) ?_
          refine lv_aload_n hx hb dX5_judge_24 rfl (lv_at hl 1 rfl) ?_
          refine va_get (D := D) (ci := 5) (v := .int rowCount) (C := RX5) (T := TX5) (N := 11) hx hb hts hi_RX5 hown hK hP 0 rfl rfl 9 (by decide) (hts (.fieldLink RX5 83 "TravelMarks" "rowCount" "I") (List.mem_of_getElem? (i := 3) rfl)) (fun _ h9 => h9) rfl dX5_judge_25 ?_
          refine lv_icmp_ge (tgt := 83) hx hb dX5_judge_28 (by decide) (fun c7 => ?_) (fun c7 => ?_)
          · replace hf := if_te c7 hf
            refine lv_iconst (v := 0) hx hb dX5_judge_83 rfl ?_
            cases hf
            exact kri hQ hAe hx hb hr hlocks hP hD hK hS dX5_judge_84
          · replace hf := if_fe c7 hf
            refine lv_aload_n hx hb dX5_judge_31 rfl (lv_at hl 1 rfl) ?_
            refine va_get (D := D) (ci := 5) (v := .ref qr0) (C := RX5) (T := TX5) (N := 11) hx hb hts hi_RX5 hown hK hP 0 rfl rfl 2 (by decide) (hts (.fieldLink RX5 19 "TravelMarks" "trial" "LTravelMarks$Port;") (List.mem_of_getElem? (i := 1) rfl)) (fun _ h9 => h9) rfl dX5_judge_32 ?_
            obtain ⟨v8, h9, hf⟩ := ob1_e hf
            refine kcv (Wx := (oTM q0 qn0 qk0 qr0 qc0 qt0 qd0 qs0 qf0 qw0 rowCount anyKept (oPort C qn0 qn1 qn2 qn3 qn4 qn5 qn6 now (oPort C qr0 qr1 qr2 qr3 qr4 qr5 qr6 v8 (oArrI C qw0 30 rows []))))) (va_runV (As := []) (rest := []) ⟨hx, hb, hml, hown, hts⟩ (c_X1_passHour l E D C qr0 qr1 qr2 qr3 qr4 qr5 qr6 H.size N v6 v8 h9) (cwV 0 hts gX5_judge_X1_passHour rfl rfl rfl hdX1_passHour ⟨Nat.le_of_ble_eq_true rfl, Nat.le_of_ble_eq_true rfl⟩) (kpreV hP hD hK hS hE hA [8, 9, 10, 11, 12, 13, 14] rfl rfl 8 rfl rfl rfl) rfl rfl hl.1 rfl (lv_room (Nat.le_of_ble_eq_true rfl)) dX5_judge_35 ⟨Nat.zero_le _, Nat.zero_le _⟩) hP hD hS hA [8, 9, 10, 11, 12, 13, 14] rfl rfl rfl (fun H locs hP hD hS => ?_)
            refine lv_iconst (v := 0) hx hb dX5_judge_38 rfl ?_
            refine lv_istore_n (lv' := [(3, .int 0), (2, .int i5), (0, .ref q0), (1, .int x0)]) hx hb dX5_judge_39 rfl hl (by decide) rfl (fun ls hl => ?_)
            obtain ⟨j10, hj10, hf⟩ := lj_e hf
            have Hj10 : ∀ (H : Heap) (locs : List Loc) (ls : Array Slot), va_P D vwCl (oTM q0 qn0 qk0 qr0 qc0 qt0 qd0 qs0 qf0 qw0 rowCount anyKept (oPort C qn0 qn1 qn2 qn3 qn4 qn5 qn6 now (oPort C qr0 qr1 qr2 qr3 qr4 qr5 qr6 v8 (oArrI C qw0 30 rows [])))) H → va_D A (oTM q0 qn0 qk0 qr0 qc0 qt0 qd0 qs0 qf0 qw0 rowCount anyKept (oPort C qn0 qn1 qn2 qn3 qn4 qn5 qn6 now (oPort C qr0 qr1 qr2 qr3 qr4 qr5 qr6 v8 (oArrI C qw0 30 rows [])))) → va_S A s.heap H locs → lv_has ls 4 [(2, .int i5), (0, .ref q0), (1, .int x0)] → j10 = some (r, trial') → W p l e (headSpec wsX5_judge (rmX5_judge)).room s m (List.toArray [Value.ref q0, Value.int x0]) below meth c H locs 0 0 Q (F0 m 77 ls []) := by
              intro H locs ls hP hD hS hl hf
              rw [hj10] at hf
              obtain ⟨t11, et11, hf⟩ := lj_e hf
              refine lv_iinc (v := t11) (lv' := [(2, .int t11), (0, .ref q0), (1, .int x0)]) hx hb dX5_judge_77 hl (k := 0) rfl (by rw [et11]; rfl) (by decide) rfl (fun ls hl => ?_)
              refine lv_goto (tgt := 23) hx hb dX5_judge_80 (by decide) ?_
              exact ih t11 v8 H locs ls hP hD hS (lv_sub hl [0, 1, 2] rfl) hf
            have hL40 : ∀ (n : Nat) (i12 : Int32) (H : Heap) (locs : List Loc) (ls : Array Slot), va_P D vwCl (oTM q0 qn0 qk0 qr0 qc0 qt0 qd0 qs0 qf0 qw0 rowCount anyKept (oPort C qn0 qn1 qn2 qn3 qn4 qn5 qn6 now (oPort C qr0 qr1 qr2 qr3 qr4 qr5 qr6 v8 (oArrI C qw0 30 rows [])))) H → va_D A (oTM q0 qn0 qk0 qr0 qc0 qt0 qd0 qs0 qf0 qw0 rowCount anyKept (oPort C qn0 qn1 qn2 qn3 qn4 qn5 qn6 now (oPort C qr0 qr1 qr2 qr3 qr4 qr5 qr6 v8 (oArrI C qw0 30 rows [])))) → va_S A s.heap H locs → lv_has ls 4 [(3, .int i12), (2, .int i5), (0, .ref q0), (1, .int x0)] → f_X5_judge_L40 rows x0 i5 v8 j10 n i12 = some (r, trial') → W p l e (headSpec wsX5_judge (rmX5_judge)).room s m (List.toArray [Value.ref q0, Value.int x0]) below meth c H locs 0 0 Q (F0 m 40 ls []) := by
              intro n
              induction n with
              | zero =>
                intro i12 H locs ls hP hD hS hl hf
                exact absurd hf (fun h => by cases h)
              | succ n ih =>
                intro i12 H locs ls hP hD hS hl hf
                rw [f_X5_judge_L40] at hf
                refine lv_iload_n hx hb dX5_judge_40 rfl (lv_at hl 0 rfl) ?_
                refine lv_iconst (v := 3) hx hb dX5_judge_41 rfl ?_
                refine lv_icmp_ge (tgt := 77) hx hb dX5_judge_42 (by decide) (fun c13 => ?_) (fun c13 => ?_)
                · replace hf := if_te c13 hf
                  exact Hj10 H locs ls hP hD hS (lv_sub hl [1, 2, 3] rfl) hf
                · replace hf := if_fe c13 hf
                  refine lv_aload_n hx hb dX5_judge_45 rfl (lv_at hl 2 rfl) ?_
                  refine va_get (D := D) (ci := 5) (v := .ref qw0) (C := RX5) (T := TX5) (N := 11) hx hb hts hi_RX5 hown hK hP 0 rfl rfl 8 (by decide) (hts (.fieldLink RX5 51 "TravelMarks" "rows" "[I") (List.mem_of_getElem? (i := 4) rfl)) (fun _ h9 => h9) rfl dX5_judge_46 ?_
                  refine lv_iload_n hx hb dX5_judge_49 rfl (lv_at hl 1 rfl) ?_
                  refine lv_iconst (v := 3) hx hb dX5_judge_50 rfl ?_
                  refine lv_imul hx hb dX5_judge_51 ?_
                  refine lv_iload_n hx hb dX5_judge_52 rfl (lv_at hl 0 rfl) ?_
                  refine lv_iadd hx hb dX5_judge_53 ?_
                  obtain ⟨y15, ey15, hi14, hf⟩ := rdA_x hf
                  refine va_iald hx hb hK hP 15 0 rfl rfl hi14 dX5_judge_54 ?_
                  refine lv_ren ey15 ?_
                  refine lv_aload_n hx hb dX5_judge_55 rfl (lv_at hl 2 rfl) ?_
                  refine va_get (D := D) (ci := 5) (v := .ref qr0) (C := RX5) (T := TX5) (N := 11) hx hb hts hi_RX5 hown hK hP 0 rfl rfl 2 (by decide) (hts (.fieldLink RX5 19 "TravelMarks" "trial" "LTravelMarks$Port;") (List.mem_of_getElem? (i := 1) rfl)) (fun _ h9 => h9) rfl dX5_judge_56 ?_
                  refine lv_iload_n hx hb dX5_judge_59 rfl (lv_at hl 3 rfl) ?_
                  refine lv_iload_n hx hb dX5_judge_60 rfl (lv_at hl 0 rfl) ?_
                  obtain ⟨r16, h17, hf⟩ := ob1_e hf
                  refine kci (Wx := (oTM q0 qn0 qk0 qr0 qc0 qt0 qd0 qs0 qf0 qw0 rowCount anyKept (oPort C qn0 qn1 qn2 qn3 qn4 qn5 qn6 now (oPort C qr0 qr1 qr2 qr3 qr4 qr5 qr6 v8 (oArrI C qw0 30 rows []))))) (va_runV (As := [.int x0, .int i12]) (rest := [.int y15]) ⟨hx, hb, hml, hown, hts⟩ (c_X1_rowPart l E D C qr0 qr1 qr2 qr3 qr4 qr5 qr6 H.size v8 x0 i12 r16 h17) (cwV 2 hts gX5_judge_X1_rowPart rfl rfl rfl hdX1_rowPart ⟨Nat.le_of_ble_eq_true rfl, Nat.le_of_ble_eq_true rfl⟩) (kpreV hP hD hK hS hE hA [8, 9, 10, 11, 12, 13, 14] rfl rfl 8 rfl rfl rfl) rfl rfl hl.1 rfl (lv_room (Nat.le_of_ble_eq_true rfl)) dX5_judge_61 ⟨Nat.zero_le _, Nat.zero_le _⟩) hP hD hS hA [8, 9, 10, 11, 12, 13, 14] rfl rfl rfl (fun H locs hP hD hS => ?_)
                  refine lv_icmp_eq (tgt := 71) hx hb dX5_judge_64 (by decide) (fun c18 => ?_) (fun c18 => ?_)
                  · replace hf := if_te c18 hf
                    obtain ⟨t19, et19, hf⟩ := lj_e hf
                    refine lv_iinc (v := t19) (lv' := [(3, .int t19), (2, .int i5), (0, .ref q0), (1, .int x0)]) hx hb dX5_judge_71 hl (k := 0) rfl (by rw [et19]; rfl) (by decide) rfl (fun ls hl => ?_)
                    refine lv_goto (tgt := 40) hx hb dX5_judge_74 (by decide) ?_
                    exact ih t19 H locs ls hP hD hS (lv_sub hl [0, 1, 2, 3] rfl) hf
                  · replace hf := if_fe c18 hf
                    refine lv_iload_n hx hb dX5_judge_67 rfl (lv_at hl 1 rfl) ?_
                    refine lv_iconst (v := 1) hx hb dX5_judge_68 rfl ?_
                    refine lv_iadd hx hb dX5_judge_69 ?_
                    obtain ⟨t20, et20, hf⟩ := lj_e hf
                    refine lv_ren et20 ?_
                    cases hf
                    exact kri hQ hAe hx hb hr hlocks hP hD hK hS dX5_judge_70
            exact hL40 N 0 H locs ls hP hD hS (lv_sub hl [0, 1, 2, 3] rfl) hf
      exact hL23 N 0 v3 H locs ls hP hD hS (lv_sub hl [0, 1, 2] rfl) hf
    · replace hf := if_te c2 hf
      refine lv_iconst (v := (-1)) hx hb dX5_judge_8 rfl ?_
      cases hf
      exact kri hQ hAe hx hb hr hlocks hP hD hK hS dX5_judge_9
  exact main _ _ hP hD hS

def rmX5_minds : Room := { frames := 2, cells := 0, slots := 0, locals := 43 }
theorem hdX5_minds : yX5_minds.cls = RX5 ∧ yX5_minds.cls ≠ "java/lang/invoke/MethodHandle" ∧ yX5_minds.cls ≠ "java/lang/invoke/VarHandle" ∧ (parseMethodDescriptor yX5_minds.desc).map (fun d => d.parameters.length) = some 4 := by decide +kernel
set_option maxHeartbeats 40000000 in
set_option maxRecDepth 100000 in
theorem c_X5_minds (l : Launch) (E : Nat → Nat) (D : va_G) (C : Nat → ClassId) (q0 qn0 qk0 qr0 qc0 qt0 qd0 qs0 qf0 qw0 qn1 qn2 qn3 qn4 qn5 qn6 qs1 qs2 qs3 qs4 qs5 qs6 qs7 qs8 : Nat) (sz : Nat) (N : Nat) (rowCount : Int32) (anyKept : Int32) (now : PV) (sheets : Nat → HV) (x0 : Int32) (x1 : Int32) (x2 : Int32) (x3 : Int32) (r : Int32) (now' : PV) (hf : f_X5_minds N now sheets x0 x1 x2 x3 = some (r, now')) : Met l yX5_minds wsX5_minds rmX5_minds (PC E D C [.ref q0, .int x0, .int x1, .int x2, .int x3] (oTM q0 qn0 qk0 qr0 qc0 qt0 qd0 qs0 qf0 qw0 rowCount anyKept (oPort C qn0 qn1 qn2 qn3 qn4 qn5 qn6 now (oSheets C qs0 qs1 qs2 qs3 qs4 qs5 qs6 qs7 qs8 sheets []))) sz) (QI D C (oTM q0 qn0 qk0 qr0 qc0 qt0 qd0 qs0 qf0 qw0 rowCount anyKept (oPort C qn0 qn1 qn2 qn3 qn4 qn5 qn6 now (oSheets C qs0 qs1 qs2 qs3 qs4 qs5 qs6 qs7 qs8 sheets []))) (oTM q0 qn0 qk0 qr0 qc0 qt0 qd0 qs0 qf0 qw0 rowCount anyKept (oPort C qn0 qn1 qn2 qn3 qn4 qn5 qn6 (now') (oSheets C qs0 qs1 qs2 qs3 qs4 qs5 qs6 qs7 qs8 sheets []))) sz r) 0 0 (va_A (oTM q0 qn0 qk0 qr0 qc0 qt0 qd0 qs0 qf0 qw0 rowCount anyKept (oPort C qn0 qn1 qn2 qn3 qn4 qn5 qn6 now (oSheets C qs0 qs1 qs2 qs3 qs4 qs5 qs6 qs7 qs8 sheets []))) sz) := by
  refine Met.ofW (cc := cX5_minds) (maxL := 7) (ret := (some .int)) (by decide) rfl ?_
  intro p e s m args below meth c s₁ B hml hv
  obtain ⟨rfl, hsz, hP, hK, hD0, hE⟩ := hv
  have hx := B.exec
  have hb := B.bytes
  have hr := B.returns
  have hts := atoms_spec (ws := wsX5_minds) B.pre
  have hown : s.vm.findClass RX5 = some m.cls := findClass_of_methodNamed B.named
  have hlocks := B.notSynchronized
  subst hsz
  have hi_RX1 : ∀ w ∈ wsX10, w ∈ wsX5_minds := fun _ h => List.mem_cons_of_mem _ (List.mem_append_left _ (List.mem_append_right _ h))
  have hi_RX2 : ∀ w ∈ wsX20, w ∈ wsX5_minds := fun _ h => List.mem_cons_of_mem _ (List.mem_append_right _ h)
  have hi_RX5 : ∀ w ∈ wsX50, w ∈ wsX5_minds := fun _ h => List.mem_cons_of_mem _ (List.mem_append_left _ (List.mem_append_left _ (List.mem_append_right _ h)))
  have hD := hD0.self (sz := s.heap.size)
  obtain ⟨A, hAe⟩ := nm_ex (va_A (oTM q0 qn0 qk0 qr0 qc0 qt0 qd0 qs0 qf0 qw0 rowCount anyKept (oPort C qn0 qn1 qn2 qn3 qn4 qn5 qn6 now (oSheets C qs0 qs1 qs2 qs3 qs4 qs5 qs6 qs7 qs8 sheets []))) s.heap.size)
  rw [← hAe] at hD hE ⊢
  have hA : ∀ q : Nat, s.heap.size ≤ q → A q := fun q h => by rw [hAe]; exact Or.inr h
  have hS : va_S A s.heap s.heap [] := va_S.rf
  have hl := lv_entry ([.ref q0, .int x0, .int x1, .int x2, .int x3]) (n := 7) (Nat.le_of_ble_eq_true rfl)
  rw [lg_entry_eq]
  generalize (lg_sl ([.ref q0, .int x0, .int x1, .int x2, .int x3]) ++ List.replicate (7 - (lg_sl ([.ref q0, .int x0, .int x1, .int x2, .int x3])).length) Slot.unset).toArray = ls at hl ⊢
  have hl : lv_has ls 7 [(0, .ref q0), (1, .int x0), (2, .int x1), (3, .int x2), (4, .int x3)] := hl
  obtain ⟨Q, hQ⟩ := nm_ex (MQ below (QI D C (oTM q0 qn0 qk0 qr0 qc0 qt0 qd0 qs0 qf0 qw0 rowCount anyKept (oPort C qn0 qn1 qn2 qn3 qn4 qn5 qn6 now (oSheets C qs0 qs1 qs2 qs3 qs4 qs5 qs6 qs7 qs8 sheets []))) (oTM q0 qn0 qk0 qr0 qc0 qt0 qd0 qs0 qf0 qw0 rowCount anyKept (oPort C qn0 qn1 qn2 qn3 qn4 qn5 qn6 (now') (oSheets C qs0 qs1 qs2 qs3 qs4 qs5 qs6 qs7 qs8 sheets []))) s.heap.size r) (List.toArray [Value.ref q0, Value.int x0, Value.int x1, Value.int x2, Value.int x3]) s 0 0 A)
  show W p l e (headSpec wsX5_minds (rmX5_minds)).room s m (List.toArray [Value.ref q0, Value.int x0, Value.int x1, Value.int x2, Value.int x3]) below meth c s.heap [] 0 0 (MQ below (QI D C (oTM q0 qn0 qk0 qr0 qc0 qt0 qd0 qs0 qf0 qw0 rowCount anyKept (oPort C qn0 qn1 qn2 qn3 qn4 qn5 qn6 now (oSheets C qs0 qs1 qs2 qs3 qs4 qs5 qs6 qs7 qs8 sheets []))) (oTM q0 qn0 qk0 qr0 qc0 qt0 qd0 qs0 qf0 qw0 rowCount anyKept (oPort C qn0 qn1 qn2 qn3 qn4 qn5 qn6 (now') (oSheets C qs0 qs1 qs2 qs3 qs4 qs5 qs6 qs7 qs8 sheets []))) s.heap.size r) (List.toArray [Value.ref q0, Value.int x0, Value.int x1, Value.int x2, Value.int x3]) s 0 0 A) _
  rw [← hQ]
  unfold f_X5_minds at hf
  have main : ∀ (H : Heap) (locs : List Loc), va_P D vwCl (oTM q0 qn0 qk0 qr0 qc0 qt0 qd0 qs0 qf0 qw0 rowCount anyKept (oPort C qn0 qn1 qn2 qn3 qn4 qn5 qn6 now (oSheets C qs0 qs1 qs2 qs3 qs4 qs5 qs6 qs7 qs8 sheets []))) H → va_D A (oTM q0 qn0 qk0 qr0 qc0 qt0 qd0 qs0 qf0 qw0 rowCount anyKept (oPort C qn0 qn1 qn2 qn3 qn4 qn5 qn6 now (oSheets C qs0 qs1 qs2 qs3 qs4 qs5 qs6 qs7 qs8 sheets []))) → va_S A s.heap H locs → W p l e (headSpec wsX5_minds (rmX5_minds)).room s m (List.toArray [Value.ref q0, Value.int x0, Value.int x1, Value.int x2, Value.int x3]) below meth c H locs 0 0 Q (F0 m 0 ls []) := by
    intro H locs hP hD hS
    refine lv_iload_n hx hb dX5_minds_0 rfl (lv_at hl 1 rfl) ?_
    refine kcz (Wx := (oTM q0 qn0 qk0 qr0 qc0 qt0 qd0 qs0 qf0 qw0 rowCount anyKept (oPort C qn0 qn1 qn2 qn3 qn4 qn5 qn6 now (oSheets C qs0 qs1 qs2 qs3 qs4 qs5 qs6 qs7 qs8 sheets [])))) (va_runS (As := [.int x0]) (rest := []) ⟨hx, hb, hml, hown, hts⟩ (c_X5_isSheet l E D C H.size x0 _ rfl) (va_cwS 1 hts gX5_minds_X5_isSheet rfl rfl rfl hdX5_isSheet ⟨Nat.le_of_ble_eq_true rfl, Nat.le_of_ble_eq_true rfl⟩) (kpre hP hD hK hS hE hA [] rfl rfl) rfl rfl hl.1 rfl (lv_room (Nat.le_of_ble_eq_true rfl)) dX5_minds_1 ⟨Nat.zero_le _, Nat.zero_le _⟩) hP hD hS hA [] rfl rfl rfl (fun H locs hz1 hP hD hS => ?_)
    refine lv_if_eq (tgt := 40) hx hb dX5_minds_4 (by decide) (fun c2 => ?_) (fun c2 => ?_)
    · replace hf := if_te c2 hf
      refine lv_iconst (v := (-1)) hx hb dX5_minds_40 rfl ?_
      cases hf
      exact kri hQ hAe hx hb hr hlocks hP hD hK hS dX5_minds_41
    · replace hf := if_fe c2 hf
      refine lv_aload_n hx hb dX5_minds_7 rfl (lv_at hl 0 rfl) ?_
      refine lv_iload_n hx hb dX5_minds_8 rfl (lv_at hl 3 rfl) ?_
      refine kcz (Wx := (oTM q0 qn0 qk0 qr0 qc0 qt0 qd0 qs0 qf0 qw0 rowCount anyKept (oPort C qn0 qn1 qn2 qn3 qn4 qn5 qn6 now (oSheets C qs0 qs1 qs2 qs3 qs4 qs5 qs6 qs7 qs8 sheets [])))) (va_runV (As := [.int x2]) (rest := []) ⟨hx, hb, hml, hown, hts⟩ (c_X5_isMark l E D C q0 qn0 qk0 qr0 qc0 qt0 qd0 qs0 qf0 qw0 qn1 qn2 qn3 qn4 qn5 qn6 H.size rowCount anyKept now x2 _ rfl) (cwV 1 hts gX5_minds_X5_isMark rfl rfl rfl hdX5_isMark ⟨Nat.le_of_ble_eq_true rfl, Nat.le_of_ble_eq_true rfl⟩) (kpreV hP hD hK hS hE hA [0, 1, 2, 3, 4, 5, 6, 7] rfl rfl 0 rfl rfl rfl) rfl rfl hl.1 rfl (lv_room (Nat.le_of_ble_eq_true rfl)) dX5_minds_9 ⟨Nat.zero_le _, Nat.zero_le _⟩) hP hD hS hA [0, 1, 2, 3, 4, 5, 6, 7] rfl rfl rfl (fun H locs hz3 hP hD hS => ?_)
      refine lv_if_eq (tgt := 40) hx hb dX5_minds_12 (by decide) (fun c4 => ?_) (fun c4 => ?_)
      · replace hf := if_te c4 hf
        refine lv_iconst (v := (-1)) hx hb dX5_minds_40 rfl ?_
        cases hf
        exact kri hQ hAe hx hb hr hlocks hP hD hK hS dX5_minds_41
      · replace hf := if_fe c4 hf
        refine lv_iload hx hb dX5_minds_15 (lv_at hl 4 rfl) ?_
        refine lv_iconst (v := 0) hx hb dX5_minds_17 rfl ?_
        refine lv_bipush (v := 8) hx hb dX5_minds_18 rfl ?_
        refine kcz (Wx := (oTM q0 qn0 qk0 qr0 qc0 qt0 qd0 qs0 qf0 qw0 rowCount anyKept (oPort C qn0 qn1 qn2 qn3 qn4 qn5 qn6 now (oSheets C qs0 qs1 qs2 qs3 qs4 qs5 qs6 qs7 qs8 sheets [])))) (va_runS (As := [.int x3, .int 0, .int 8]) (rest := []) ⟨hx, hb, hml, hown, hts⟩ (c_X5_within l E D C H.size x3 0 8 _ rfl) (va_cwS 3 hts gX5_minds_X5_within rfl rfl rfl hdX5_within ⟨Nat.le_of_ble_eq_true rfl, Nat.le_of_ble_eq_true rfl⟩) (kpre hP hD hK hS hE hA [] rfl rfl) rfl rfl hl.1 rfl (lv_room (Nat.le_of_ble_eq_true rfl)) dX5_minds_20 ⟨Nat.zero_le _, Nat.zero_le _⟩) hP hD hS hA [] rfl rfl rfl (fun H locs hz5 hP hD hS => ?_)
        refine lv_if_eq (tgt := 40) hx hb dX5_minds_23 (by decide) (fun c6 => ?_) (fun c6 => ?_)
        · replace hf := if_te c6 hf
          refine lv_iconst (v := (-1)) hx hb dX5_minds_40 rfl ?_
          cases hf
          exact kri hQ hAe hx hb hr hlocks hP hD hK hS dX5_minds_41
        · replace hf := if_fe c6 hf
          refine lv_iload_n hx hb dX5_minds_26 rfl (lv_at hl 3 rfl) ?_
          refine lv_iload hx hb dX5_minds_27 (lv_at hl 4 rfl) ?_
          refine lv_iadd hx hb dX5_minds_29 ?_
          refine lv_aload_n hx hb dX5_minds_30 rfl (lv_at hl 0 rfl) ?_
          refine va_get (D := D) (ci := 5) (v := .ref qn0) (C := RX5) (T := TX5) (N := 11) hx hb hts hi_RX5 hown hK hP 0 rfl rfl 0 (by decide) (hts (.fieldLink RX5 10 "TravelMarks" "now" "LTravelMarks$Port;") (List.mem_of_getElem? (i := 1) rfl)) (fun _ h9 => h9) rfl dX5_minds_31 ?_
          refine va_get (D := D) (ci := 1) (v := .int (pCount now)) (C := RX1) (T := TX1) (N := 10) hx hb hts hi_RX1 hown hK hP 1 rfl rfl 6 (by decide) (hts (.fieldLink RX5 86 "TravelMarks$Port" "count" "I") (List.mem_of_getElem? (i := 2) rfl)) (fun _ h9 => h9) rfl dX5_minds_34 ?_
          refine lv_icmp_le (tgt := 42) hx hb dX5_minds_37 (by decide) (fun c7 => ?_) (fun c7 => ?_)
          · replace hf := if_te c7 hf
            refine lv_aload_n hx hb dX5_minds_42 rfl (lv_at hl 0 rfl) ?_
            refine va_get (D := D) (ci := 5) (v := .ref qs0) (C := RX5) (T := TX5) (N := 11) hx hb hts hi_RX5 hown hK hP 0 rfl rfl 6 (by decide) (hts (.fieldLink RX5 41 "TravelMarks" "sheets" "[LTravelMarks$Sheet;") (List.mem_of_getElem? (i := 3) rfl)) (fun _ h9 => h9) rfl dX5_minds_43 ?_
            refine lv_iload_n hx hb dX5_minds_46 rfl (lv_at hl 1 rfl) ?_
            obtain ⟨hi8, hf⟩ := ckA_e hf
            obtain ⟨o9, eo9, hf⟩ := lj_e hf
            rcases four hi8 with e4_10 | e4_10 | e4_10 | e4_10
            · rw [e4_10] at eo9
              subst eo9
              try rw [e4_10] at hf
              refine va_aldq hx hb hK hP 8 3 rfl rfl hi8 dX5_minds_47 ?_
              rw [e4_10]
              refine lv_renV (v := .ref qs1) rfl ?_
              refine lv_astore (lv' := [(5, .ref qs1), (0, .ref q0), (1, .int x0), (2, .int x1), (3, .int x2), (4, .int x3)]) hx hb dX5_minds_48 hl (by decide) rfl (fun ls hl => ?_)
              refine lv_aload hx hb dX5_minds_50 (lv_at hl 0 rfl) ?_
              refine va_get (D := D) (ci := 2) (v := .int (shSort (sheets 0))) (C := RX2) (T := TX2) (N := 3) hx hb hts hi_RX2 hown hK hP 9 rfl rfl 1 (by decide) (hts (.fieldLink RX5 212 "TravelMarks$Sheet" "sort" "I") (List.mem_of_getElem? (i := 4) rfl)) (fun _ h9 => h9) rfl dX5_minds_52 ?_
              refine lv_iconst (v := (-1)) hx hb dX5_minds_55 rfl ?_
              refine lv_icmp_ne (tgt := 62) hx hb dX5_minds_56 (by decide) (fun c11 => ?_) (fun c11 => ?_)
              · replace hf := if_fe c11 hf
                refine lv_aload hx hb dX5_minds_62 (lv_at hl 0 rfl) ?_
                refine va_get (D := D) (ci := 2) (v := .int (shSort (sheets 0))) (C := RX2) (T := TX2) (N := 3) hx hb hts hi_RX2 hown hK hP 9 rfl rfl 1 (by decide) (hts (.fieldLink RX5 212 "TravelMarks$Sheet" "sort" "I") (List.mem_of_getElem? (i := 4) rfl)) (fun _ h9 => h9) rfl dX5_minds_64 ?_
                refine lv_if_eq (tgt := 73) hx hb dX5_minds_67 (by decide) (fun c12 => ?_) (fun c12 => ?_)
                · replace hf := if_te c12 hf
                  refine lv_iload_n hx hb dX5_minds_73 rfl (lv_at hl 3 rfl) ?_
                  refine lv_iconst (v := 0) hx hb dX5_minds_74 rfl ?_
                  refine lv_aload hx hb dX5_minds_75 (lv_at hl 0 rfl) ?_
                  refine va_get (D := D) (ci := 2) (v := .int (shSize (sheets 0))) (C := RX2) (T := TX2) (N := 3) hx hb hts hi_RX2 hown hK hP 9 rfl rfl 2 (by decide) (hts (.fieldLink RX5 219 "TravelMarks$Sheet" "size" "I") (List.mem_of_getElem? (i := 5) rfl)) (fun _ h9 => h9) rfl dX5_minds_77 ?_
                  refine kcz (Wx := (oTM q0 qn0 qk0 qr0 qc0 qt0 qd0 qs0 qf0 qw0 rowCount anyKept (oPort C qn0 qn1 qn2 qn3 qn4 qn5 qn6 now (oSheets C qs0 qs1 qs2 qs3 qs4 qs5 qs6 qs7 qs8 sheets [])))) (va_runS (As := [.int x1, .int 0, .int (shSize (sheets 0))]) (rest := []) ⟨hx, hb, hml, hown, hts⟩ (c_X5_within l E D C H.size x1 0 (shSize (sheets 0)) _ rfl) (va_cwS 3 hts gX5_minds_X5_within rfl rfl rfl hdX5_within ⟨Nat.le_of_ble_eq_true rfl, Nat.le_of_ble_eq_true rfl⟩) (kpre hP hD hK hS hE hA [] rfl rfl) rfl rfl hl.1 rfl (lv_room (Nat.le_of_ble_eq_true rfl)) dX5_minds_80 ⟨Nat.zero_le _, Nat.zero_le _⟩) hP hD hS hA [] rfl rfl rfl (fun H locs hz13 hP hD hS => ?_)
                  refine lv_if_eq (tgt := 98) hx hb dX5_minds_83 (by decide) (fun c14 => ?_) (fun c14 => ?_)
                  · replace hf := if_te c14 hf
                    refine lv_bipush (v := (-12)) hx hb dX5_minds_98 rfl ?_
                    cases hf
                    exact kri hQ hAe hx hb hr hlocks hP hD hK hS dX5_minds_100
                  · replace hf := if_fe c14 hf
                    refine lv_iload hx hb dX5_minds_86 (lv_at hl 5 rfl) ?_
                    refine lv_aload hx hb dX5_minds_88 (lv_at hl 0 rfl) ?_
                    refine va_get (D := D) (ci := 2) (v := .int (shSize (sheets 0))) (C := RX2) (T := TX2) (N := 3) hx hb hts hi_RX2 hown hK hP 9 rfl rfl 2 (by decide) (hts (.fieldLink RX5 219 "TravelMarks$Sheet" "size" "I") (List.mem_of_getElem? (i := 5) rfl)) (fun _ h9 => h9) rfl dX5_minds_90 ?_
                    refine lv_iload_n hx hb dX5_minds_93 rfl (lv_at hl 3 rfl) ?_
                    refine lv_isub hx hb dX5_minds_94 ?_
                    refine lv_icmp_le (tgt := 101) hx hb dX5_minds_95 (by decide) (fun c15 => ?_) (fun c15 => ?_)
                    · replace hf := if_te c15 hf
                      refine lv_iconst (v := 0) hx hb dX5_minds_101 rfl ?_
                      refine lv_istore (lv' := [(6, .int 0), (5, .ref qs1), (0, .ref q0), (1, .int x0), (2, .int x1), (3, .int x2), (4, .int x3)]) hx hb dX5_minds_102 hl (by decide) rfl (fun ls hl => ?_)
                      have hL104 : ∀ (n : Nat) (i16 : Int32) (v17 : PV) (H : Heap) (locs : List Loc) (ls : Array Slot), va_P D vwCl (oTM q0 qn0 qk0 qr0 qc0 qt0 qd0 qs0 qf0 qw0 rowCount anyKept (oPort C qn0 qn1 qn2 qn3 qn4 qn5 qn6 v17 (oSheets C qs0 qs1 qs2 qs3 qs4 qs5 qs6 qs7 qs8 sheets []))) H → va_D A (oTM q0 qn0 qk0 qr0 qc0 qt0 qd0 qs0 qf0 qw0 rowCount anyKept (oPort C qn0 qn1 qn2 qn3 qn4 qn5 qn6 v17 (oSheets C qs0 qs1 qs2 qs3 qs4 qs5 qs6 qs7 qs8 sheets []))) → va_S A s.heap H locs → lv_has ls 7 [(6, .int i16), (5, .ref qs1), (0, .ref q0), (2, .int x1), (3, .int x2), (4, .int x3)] → f_X5_minds_L104 x1 x2 x3 (sheets 0) n i16 v17 = some (r, now') → W p l e (headSpec wsX5_minds (rmX5_minds)).room s m (List.toArray [Value.ref q0, Value.int x0, Value.int x1, Value.int x2, Value.int x3]) below meth c H locs 0 0 Q (F0 m 104 ls []) := by
                        intro n
                        induction n with
                        | zero =>
                          intro i16 v17 H locs ls hP hD hS hl hf
                          exact absurd hf (fun h => by cases h)
                        | succ n ih =>
                          intro i16 v17 H locs ls hP hD hS hl hf
                          rw [f_X5_minds_L104] at hf
                          refine lv_iload hx hb dX5_minds_104 (lv_at hl 0 rfl) ?_
                          refine lv_iload hx hb dX5_minds_106 (lv_at hl 5 rfl) ?_
                          refine lv_icmp_ge (tgt := 143) hx hb dX5_minds_108 (by decide) (fun c18 => ?_) (fun c18 => ?_)
                          · replace hf := if_te c18 hf
                            refine lv_iload hx hb dX5_minds_143 (lv_at hl 5 rfl) ?_
                            cases hf
                            exact kri hQ hAe hx hb hr hlocks hP hD hK hS dX5_minds_145
                          · replace hf := if_fe c18 hf
                            refine lv_aload_n hx hb dX5_minds_111 rfl (lv_at hl 2 rfl) ?_
                            refine va_get (D := D) (ci := 5) (v := .ref qn0) (C := RX5) (T := TX5) (N := 11) hx hb hts hi_RX5 hown hK hP 0 rfl rfl 0 (by decide) (hts (.fieldLink RX5 10 "TravelMarks" "now" "LTravelMarks$Port;") (List.mem_of_getElem? (i := 1) rfl)) (fun _ h9 => h9) rfl dX5_minds_112 ?_
                            refine va_get (D := D) (ci := 1) (v := .ref qn3) (C := RX1) (T := TX1) (N := 10) hx hb hts hi_RX1 hown hK hP 1 rfl rfl 2 (by decide) (hts (.fieldLink RX5 117 "TravelMarks$Port" "ink" "[I") (List.mem_of_getElem? (i := 6) rfl)) (fun _ h9 => h9) rfl dX5_minds_115 ?_
                            refine lv_iload_n hx hb dX5_minds_118 rfl (lv_at hl 4 rfl) ?_
                            refine lv_iload hx hb dX5_minds_119 (lv_at hl 0 rfl) ?_
                            refine lv_iadd hx hb dX5_minds_121 ?_
                            refine lv_aload hx hb dX5_minds_122 (lv_at hl 1 rfl) ?_
                            refine va_get (D := D) (ci := 2) (v := .ref qs2) (C := RX2) (T := TX2) (N := 3) hx hb hts hi_RX2 hown hK hP 9 rfl rfl 0 (by decide) (hts (.fieldLink RX5 222 "TravelMarks$Sheet" "items" "[J") (List.mem_of_getElem? (i := 7) rfl)) (fun _ h9 => h9) rfl dX5_minds_124 ?_
                            refine lv_iload_n hx hb dX5_minds_127 rfl (lv_at hl 3 rfl) ?_
                            refine lv_iload hx hb dX5_minds_128 (lv_at hl 0 rfl) ?_
                            refine lv_iadd hx hb dX5_minds_130 ?_
                            obtain ⟨y20, ey20, hi19, hf⟩ := rdA_x hf
                            refine va_lald hx hb hK hP 10 2 rfl rfl hi19 dX5_minds_131 ?_
                            refine lv_renL ey20 ?_
                            refine lv_l2i hx hb dX5_minds_132 rfl ?_
                            refine kci (Wx := (oTM q0 qn0 qk0 qr0 qc0 qt0 qd0 qs0 qf0 qw0 rowCount anyKept (oPort C qn0 qn1 qn2 qn3 qn4 qn5 qn6 v17 (oSheets C qs0 qs1 qs2 qs3 qs4 qs5 qs6 qs7 qs8 sheets [])))) (va_runS (As := [.int (Int64.toInt32 y20)]) (rest := [.int (x2 + i16), .ref qn3]) ⟨hx, hb, hml, hown, hts⟩ (c_X5_heldInk l E D C H.size (Int64.toInt32 y20) _ rfl) (va_cwS 1 hts gX5_minds_X5_heldInk rfl rfl rfl hdX5_heldInk ⟨Nat.le_of_ble_eq_true rfl, Nat.le_of_ble_eq_true rfl⟩) (kpre hP hD hK hS hE hA [] rfl rfl) rfl rfl hl.1 rfl (lv_room (Nat.le_of_ble_eq_true rfl)) dX5_minds_133 ⟨Nat.zero_le _, Nat.zero_le _⟩) hP hD hS hA [] rfl rfl rfl (fun H locs hP hD hS => ?_)
                            obtain ⟨t21, et21, hf⟩ := lj_e hf
                            refine lv_ren et21 ?_
                            obtain ⟨hi22, hf⟩ := ckA_e hf
                            refine va_iast hx hb hK hP hD hS 4 0 rfl rfl hi22 dX5_minds_136 (fun H locs hP hD hS => ?_)
                            obtain ⟨v23, ev23, hf⟩ := lj_e hf
                            have hP : va_P D vwCl (oTM q0 qn0 qk0 qr0 qc0 qt0 qd0 qs0 qf0 qw0 rowCount anyKept (oPort C qn0 qn1 qn2 qn3 qn4 qn5 qn6 v23 (oSheets C qs0 qs1 qs2 qs3 qs4 qs5 qs6 qs7 qs8 sheets []))) H := by rw [ev23]; exact hP
                            have hD : va_D A (oTM q0 qn0 qk0 qr0 qc0 qt0 qd0 qs0 qf0 qw0 rowCount anyKept (oPort C qn0 qn1 qn2 qn3 qn4 qn5 qn6 v23 (oSheets C qs0 qs1 qs2 qs3 qs4 qs5 qs6 qs7 qs8 sheets []))) := by rw [ev23]; exact hD
                            obtain ⟨t24, et24, hf⟩ := lj_e hf
                            refine lv_iinc (v := t24) (lv' := [(6, .int t24), (5, .ref qs1), (0, .ref q0), (2, .int x1), (3, .int x2), (4, .int x3)]) hx hb dX5_minds_137 hl (k := 0) rfl (by rw [et24]; rfl) (by decide) rfl (fun ls hl => ?_)
                            refine lv_goto (tgt := 104) hx hb dX5_minds_140 (by decide) ?_
                            exact ih t24 v23 H locs ls hP hD hS (lv_sub hl [0, 1, 2, 3, 4, 5] rfl) hf
                      exact hL104 N 0 now H locs ls hP hD hS (lv_sub hl [0, 1, 2, 4, 5, 6] rfl) hf
                    · replace hf := if_fe c15 hf
                      refine lv_bipush (v := (-12)) hx hb dX5_minds_98 rfl ?_
                      cases hf
                      exact kri hQ hAe hx hb hr hlocks hP hD hK hS dX5_minds_100
                · replace hf := if_fe c12 hf
                  refine lv_bipush (v := (-13)) hx hb dX5_minds_70 rfl ?_
                  cases hf
                  exact kri hQ hAe hx hb hr hlocks hP hD hK hS dX5_minds_72
              · replace hf := if_te c11 hf
                refine lv_bipush (v := (-11)) hx hb dX5_minds_59 rfl ?_
                cases hf
                exact kri hQ hAe hx hb hr hlocks hP hD hK hS dX5_minds_61
            · rw [e4_10] at eo9
              subst eo9
              try rw [e4_10] at hf
              refine va_aldq hx hb hK hP 8 3 rfl rfl hi8 dX5_minds_47 ?_
              rw [e4_10]
              refine lv_renV (v := .ref qs3) rfl ?_
              refine lv_astore (lv' := [(5, .ref qs3), (0, .ref q0), (1, .int x0), (2, .int x1), (3, .int x2), (4, .int x3)]) hx hb dX5_minds_48 hl (by decide) rfl (fun ls hl => ?_)
              refine lv_aload hx hb dX5_minds_50 (lv_at hl 0 rfl) ?_
              refine va_get (D := D) (ci := 2) (v := .int (shSort (sheets 1))) (C := RX2) (T := TX2) (N := 3) hx hb hts hi_RX2 hown hK hP 11 rfl rfl 1 (by decide) (hts (.fieldLink RX5 212 "TravelMarks$Sheet" "sort" "I") (List.mem_of_getElem? (i := 4) rfl)) (fun _ h9 => h9) rfl dX5_minds_52 ?_
              refine lv_iconst (v := (-1)) hx hb dX5_minds_55 rfl ?_
              refine lv_icmp_ne (tgt := 62) hx hb dX5_minds_56 (by decide) (fun c11 => ?_) (fun c11 => ?_)
              · replace hf := if_fe c11 hf
                refine lv_aload hx hb dX5_minds_62 (lv_at hl 0 rfl) ?_
                refine va_get (D := D) (ci := 2) (v := .int (shSort (sheets 1))) (C := RX2) (T := TX2) (N := 3) hx hb hts hi_RX2 hown hK hP 11 rfl rfl 1 (by decide) (hts (.fieldLink RX5 212 "TravelMarks$Sheet" "sort" "I") (List.mem_of_getElem? (i := 4) rfl)) (fun _ h9 => h9) rfl dX5_minds_64 ?_
                refine lv_if_eq (tgt := 73) hx hb dX5_minds_67 (by decide) (fun c12 => ?_) (fun c12 => ?_)
                · replace hf := if_te c12 hf
                  refine lv_iload_n hx hb dX5_minds_73 rfl (lv_at hl 3 rfl) ?_
                  refine lv_iconst (v := 0) hx hb dX5_minds_74 rfl ?_
                  refine lv_aload hx hb dX5_minds_75 (lv_at hl 0 rfl) ?_
                  refine va_get (D := D) (ci := 2) (v := .int (shSize (sheets 1))) (C := RX2) (T := TX2) (N := 3) hx hb hts hi_RX2 hown hK hP 11 rfl rfl 2 (by decide) (hts (.fieldLink RX5 219 "TravelMarks$Sheet" "size" "I") (List.mem_of_getElem? (i := 5) rfl)) (fun _ h9 => h9) rfl dX5_minds_77 ?_
                  refine kcz (Wx := (oTM q0 qn0 qk0 qr0 qc0 qt0 qd0 qs0 qf0 qw0 rowCount anyKept (oPort C qn0 qn1 qn2 qn3 qn4 qn5 qn6 now (oSheets C qs0 qs1 qs2 qs3 qs4 qs5 qs6 qs7 qs8 sheets [])))) (va_runS (As := [.int x1, .int 0, .int (shSize (sheets 1))]) (rest := []) ⟨hx, hb, hml, hown, hts⟩ (c_X5_within l E D C H.size x1 0 (shSize (sheets 1)) _ rfl) (va_cwS 3 hts gX5_minds_X5_within rfl rfl rfl hdX5_within ⟨Nat.le_of_ble_eq_true rfl, Nat.le_of_ble_eq_true rfl⟩) (kpre hP hD hK hS hE hA [] rfl rfl) rfl rfl hl.1 rfl (lv_room (Nat.le_of_ble_eq_true rfl)) dX5_minds_80 ⟨Nat.zero_le _, Nat.zero_le _⟩) hP hD hS hA [] rfl rfl rfl (fun H locs hz13 hP hD hS => ?_)
                  refine lv_if_eq (tgt := 98) hx hb dX5_minds_83 (by decide) (fun c14 => ?_) (fun c14 => ?_)
                  · replace hf := if_te c14 hf
                    refine lv_bipush (v := (-12)) hx hb dX5_minds_98 rfl ?_
                    cases hf
                    exact kri hQ hAe hx hb hr hlocks hP hD hK hS dX5_minds_100
                  · replace hf := if_fe c14 hf
                    refine lv_iload hx hb dX5_minds_86 (lv_at hl 5 rfl) ?_
                    refine lv_aload hx hb dX5_minds_88 (lv_at hl 0 rfl) ?_
                    refine va_get (D := D) (ci := 2) (v := .int (shSize (sheets 1))) (C := RX2) (T := TX2) (N := 3) hx hb hts hi_RX2 hown hK hP 11 rfl rfl 2 (by decide) (hts (.fieldLink RX5 219 "TravelMarks$Sheet" "size" "I") (List.mem_of_getElem? (i := 5) rfl)) (fun _ h9 => h9) rfl dX5_minds_90 ?_
                    refine lv_iload_n hx hb dX5_minds_93 rfl (lv_at hl 3 rfl) ?_
                    refine lv_isub hx hb dX5_minds_94 ?_
                    refine lv_icmp_le (tgt := 101) hx hb dX5_minds_95 (by decide) (fun c15 => ?_) (fun c15 => ?_)
                    · replace hf := if_te c15 hf
                      refine lv_iconst (v := 0) hx hb dX5_minds_101 rfl ?_
                      refine lv_istore (lv' := [(6, .int 0), (5, .ref qs3), (0, .ref q0), (1, .int x0), (2, .int x1), (3, .int x2), (4, .int x3)]) hx hb dX5_minds_102 hl (by decide) rfl (fun ls hl => ?_)
                      have hL104 : ∀ (n : Nat) (i16 : Int32) (v17 : PV) (H : Heap) (locs : List Loc) (ls : Array Slot), va_P D vwCl (oTM q0 qn0 qk0 qr0 qc0 qt0 qd0 qs0 qf0 qw0 rowCount anyKept (oPort C qn0 qn1 qn2 qn3 qn4 qn5 qn6 v17 (oSheets C qs0 qs1 qs2 qs3 qs4 qs5 qs6 qs7 qs8 sheets []))) H → va_D A (oTM q0 qn0 qk0 qr0 qc0 qt0 qd0 qs0 qf0 qw0 rowCount anyKept (oPort C qn0 qn1 qn2 qn3 qn4 qn5 qn6 v17 (oSheets C qs0 qs1 qs2 qs3 qs4 qs5 qs6 qs7 qs8 sheets []))) → va_S A s.heap H locs → lv_has ls 7 [(6, .int i16), (5, .ref qs3), (0, .ref q0), (2, .int x1), (3, .int x2), (4, .int x3)] → f_X5_minds_L104 x1 x2 x3 (sheets 1) n i16 v17 = some (r, now') → W p l e (headSpec wsX5_minds (rmX5_minds)).room s m (List.toArray [Value.ref q0, Value.int x0, Value.int x1, Value.int x2, Value.int x3]) below meth c H locs 0 0 Q (F0 m 104 ls []) := by
                        intro n
                        induction n with
                        | zero =>
                          intro i16 v17 H locs ls hP hD hS hl hf
                          exact absurd hf (fun h => by cases h)
                        | succ n ih =>
                          intro i16 v17 H locs ls hP hD hS hl hf
                          rw [f_X5_minds_L104] at hf
                          refine lv_iload hx hb dX5_minds_104 (lv_at hl 0 rfl) ?_
                          refine lv_iload hx hb dX5_minds_106 (lv_at hl 5 rfl) ?_
                          refine lv_icmp_ge (tgt := 143) hx hb dX5_minds_108 (by decide) (fun c18 => ?_) (fun c18 => ?_)
                          · replace hf := if_te c18 hf
                            refine lv_iload hx hb dX5_minds_143 (lv_at hl 5 rfl) ?_
                            cases hf
                            exact kri hQ hAe hx hb hr hlocks hP hD hK hS dX5_minds_145
                          · replace hf := if_fe c18 hf
                            refine lv_aload_n hx hb dX5_minds_111 rfl (lv_at hl 2 rfl) ?_
                            refine va_get (D := D) (ci := 5) (v := .ref qn0) (C := RX5) (T := TX5) (N := 11) hx hb hts hi_RX5 hown hK hP 0 rfl rfl 0 (by decide) (hts (.fieldLink RX5 10 "TravelMarks" "now" "LTravelMarks$Port;") (List.mem_of_getElem? (i := 1) rfl)) (fun _ h9 => h9) rfl dX5_minds_112 ?_
                            refine va_get (D := D) (ci := 1) (v := .ref qn3) (C := RX1) (T := TX1) (N := 10) hx hb hts hi_RX1 hown hK hP 1 rfl rfl 2 (by decide) (hts (.fieldLink RX5 117 "TravelMarks$Port" "ink" "[I") (List.mem_of_getElem? (i := 6) rfl)) (fun _ h9 => h9) rfl dX5_minds_115 ?_
                            refine lv_iload_n hx hb dX5_minds_118 rfl (lv_at hl 4 rfl) ?_
                            refine lv_iload hx hb dX5_minds_119 (lv_at hl 0 rfl) ?_
                            refine lv_iadd hx hb dX5_minds_121 ?_
                            refine lv_aload hx hb dX5_minds_122 (lv_at hl 1 rfl) ?_
                            refine va_get (D := D) (ci := 2) (v := .ref qs4) (C := RX2) (T := TX2) (N := 3) hx hb hts hi_RX2 hown hK hP 11 rfl rfl 0 (by decide) (hts (.fieldLink RX5 222 "TravelMarks$Sheet" "items" "[J") (List.mem_of_getElem? (i := 7) rfl)) (fun _ h9 => h9) rfl dX5_minds_124 ?_
                            refine lv_iload_n hx hb dX5_minds_127 rfl (lv_at hl 3 rfl) ?_
                            refine lv_iload hx hb dX5_minds_128 (lv_at hl 0 rfl) ?_
                            refine lv_iadd hx hb dX5_minds_130 ?_
                            obtain ⟨y20, ey20, hi19, hf⟩ := rdA_x hf
                            refine va_lald hx hb hK hP 12 2 rfl rfl hi19 dX5_minds_131 ?_
                            refine lv_renL ey20 ?_
                            refine lv_l2i hx hb dX5_minds_132 rfl ?_
                            refine kci (Wx := (oTM q0 qn0 qk0 qr0 qc0 qt0 qd0 qs0 qf0 qw0 rowCount anyKept (oPort C qn0 qn1 qn2 qn3 qn4 qn5 qn6 v17 (oSheets C qs0 qs1 qs2 qs3 qs4 qs5 qs6 qs7 qs8 sheets [])))) (va_runS (As := [.int (Int64.toInt32 y20)]) (rest := [.int (x2 + i16), .ref qn3]) ⟨hx, hb, hml, hown, hts⟩ (c_X5_heldInk l E D C H.size (Int64.toInt32 y20) _ rfl) (va_cwS 1 hts gX5_minds_X5_heldInk rfl rfl rfl hdX5_heldInk ⟨Nat.le_of_ble_eq_true rfl, Nat.le_of_ble_eq_true rfl⟩) (kpre hP hD hK hS hE hA [] rfl rfl) rfl rfl hl.1 rfl (lv_room (Nat.le_of_ble_eq_true rfl)) dX5_minds_133 ⟨Nat.zero_le _, Nat.zero_le _⟩) hP hD hS hA [] rfl rfl rfl (fun H locs hP hD hS => ?_)
                            obtain ⟨t21, et21, hf⟩ := lj_e hf
                            refine lv_ren et21 ?_
                            obtain ⟨hi22, hf⟩ := ckA_e hf
                            refine va_iast hx hb hK hP hD hS 4 0 rfl rfl hi22 dX5_minds_136 (fun H locs hP hD hS => ?_)
                            obtain ⟨v23, ev23, hf⟩ := lj_e hf
                            have hP : va_P D vwCl (oTM q0 qn0 qk0 qr0 qc0 qt0 qd0 qs0 qf0 qw0 rowCount anyKept (oPort C qn0 qn1 qn2 qn3 qn4 qn5 qn6 v23 (oSheets C qs0 qs1 qs2 qs3 qs4 qs5 qs6 qs7 qs8 sheets []))) H := by rw [ev23]; exact hP
                            have hD : va_D A (oTM q0 qn0 qk0 qr0 qc0 qt0 qd0 qs0 qf0 qw0 rowCount anyKept (oPort C qn0 qn1 qn2 qn3 qn4 qn5 qn6 v23 (oSheets C qs0 qs1 qs2 qs3 qs4 qs5 qs6 qs7 qs8 sheets []))) := by rw [ev23]; exact hD
                            obtain ⟨t24, et24, hf⟩ := lj_e hf
                            refine lv_iinc (v := t24) (lv' := [(6, .int t24), (5, .ref qs3), (0, .ref q0), (2, .int x1), (3, .int x2), (4, .int x3)]) hx hb dX5_minds_137 hl (k := 0) rfl (by rw [et24]; rfl) (by decide) rfl (fun ls hl => ?_)
                            refine lv_goto (tgt := 104) hx hb dX5_minds_140 (by decide) ?_
                            exact ih t24 v23 H locs ls hP hD hS (lv_sub hl [0, 1, 2, 3, 4, 5] rfl) hf
                      exact hL104 N 0 now H locs ls hP hD hS (lv_sub hl [0, 1, 2, 4, 5, 6] rfl) hf
                    · replace hf := if_fe c15 hf
                      refine lv_bipush (v := (-12)) hx hb dX5_minds_98 rfl ?_
                      cases hf
                      exact kri hQ hAe hx hb hr hlocks hP hD hK hS dX5_minds_100
                · replace hf := if_fe c12 hf
                  refine lv_bipush (v := (-13)) hx hb dX5_minds_70 rfl ?_
                  cases hf
                  exact kri hQ hAe hx hb hr hlocks hP hD hK hS dX5_minds_72
              · replace hf := if_te c11 hf
                refine lv_bipush (v := (-11)) hx hb dX5_minds_59 rfl ?_
                cases hf
                exact kri hQ hAe hx hb hr hlocks hP hD hK hS dX5_minds_61
            · rw [e4_10] at eo9
              subst eo9
              try rw [e4_10] at hf
              refine va_aldq hx hb hK hP 8 3 rfl rfl hi8 dX5_minds_47 ?_
              rw [e4_10]
              refine lv_renV (v := .ref qs5) rfl ?_
              refine lv_astore (lv' := [(5, .ref qs5), (0, .ref q0), (1, .int x0), (2, .int x1), (3, .int x2), (4, .int x3)]) hx hb dX5_minds_48 hl (by decide) rfl (fun ls hl => ?_)
              refine lv_aload hx hb dX5_minds_50 (lv_at hl 0 rfl) ?_
              refine va_get (D := D) (ci := 2) (v := .int (shSort (sheets 2))) (C := RX2) (T := TX2) (N := 3) hx hb hts hi_RX2 hown hK hP 13 rfl rfl 1 (by decide) (hts (.fieldLink RX5 212 "TravelMarks$Sheet" "sort" "I") (List.mem_of_getElem? (i := 4) rfl)) (fun _ h9 => h9) rfl dX5_minds_52 ?_
              refine lv_iconst (v := (-1)) hx hb dX5_minds_55 rfl ?_
              refine lv_icmp_ne (tgt := 62) hx hb dX5_minds_56 (by decide) (fun c11 => ?_) (fun c11 => ?_)
              · replace hf := if_fe c11 hf
                refine lv_aload hx hb dX5_minds_62 (lv_at hl 0 rfl) ?_
                refine va_get (D := D) (ci := 2) (v := .int (shSort (sheets 2))) (C := RX2) (T := TX2) (N := 3) hx hb hts hi_RX2 hown hK hP 13 rfl rfl 1 (by decide) (hts (.fieldLink RX5 212 "TravelMarks$Sheet" "sort" "I") (List.mem_of_getElem? (i := 4) rfl)) (fun _ h9 => h9) rfl dX5_minds_64 ?_
                refine lv_if_eq (tgt := 73) hx hb dX5_minds_67 (by decide) (fun c12 => ?_) (fun c12 => ?_)
                · replace hf := if_te c12 hf
                  refine lv_iload_n hx hb dX5_minds_73 rfl (lv_at hl 3 rfl) ?_
                  refine lv_iconst (v := 0) hx hb dX5_minds_74 rfl ?_
                  refine lv_aload hx hb dX5_minds_75 (lv_at hl 0 rfl) ?_
                  refine va_get (D := D) (ci := 2) (v := .int (shSize (sheets 2))) (C := RX2) (T := TX2) (N := 3) hx hb hts hi_RX2 hown hK hP 13 rfl rfl 2 (by decide) (hts (.fieldLink RX5 219 "TravelMarks$Sheet" "size" "I") (List.mem_of_getElem? (i := 5) rfl)) (fun _ h9 => h9) rfl dX5_minds_77 ?_
                  refine kcz (Wx := (oTM q0 qn0 qk0 qr0 qc0 qt0 qd0 qs0 qf0 qw0 rowCount anyKept (oPort C qn0 qn1 qn2 qn3 qn4 qn5 qn6 now (oSheets C qs0 qs1 qs2 qs3 qs4 qs5 qs6 qs7 qs8 sheets [])))) (va_runS (As := [.int x1, .int 0, .int (shSize (sheets 2))]) (rest := []) ⟨hx, hb, hml, hown, hts⟩ (c_X5_within l E D C H.size x1 0 (shSize (sheets 2)) _ rfl) (va_cwS 3 hts gX5_minds_X5_within rfl rfl rfl hdX5_within ⟨Nat.le_of_ble_eq_true rfl, Nat.le_of_ble_eq_true rfl⟩) (kpre hP hD hK hS hE hA [] rfl rfl) rfl rfl hl.1 rfl (lv_room (Nat.le_of_ble_eq_true rfl)) dX5_minds_80 ⟨Nat.zero_le _, Nat.zero_le _⟩) hP hD hS hA [] rfl rfl rfl (fun H locs hz13 hP hD hS => ?_)
                  refine lv_if_eq (tgt := 98) hx hb dX5_minds_83 (by decide) (fun c14 => ?_) (fun c14 => ?_)
                  · replace hf := if_te c14 hf
                    refine lv_bipush (v := (-12)) hx hb dX5_minds_98 rfl ?_
                    cases hf
                    exact kri hQ hAe hx hb hr hlocks hP hD hK hS dX5_minds_100
                  · replace hf := if_fe c14 hf
                    refine lv_iload hx hb dX5_minds_86 (lv_at hl 5 rfl) ?_
                    refine lv_aload hx hb dX5_minds_88 (lv_at hl 0 rfl) ?_
                    refine va_get (D := D) (ci := 2) (v := .int (shSize (sheets 2))) (C := RX2) (T := TX2) (N := 3) hx hb hts hi_RX2 hown hK hP 13 rfl rfl 2 (by decide) (hts (.fieldLink RX5 219 "TravelMarks$Sheet" "size" "I") (List.mem_of_getElem? (i := 5) rfl)) (fun _ h9 => h9) rfl dX5_minds_90 ?_
                    refine lv_iload_n hx hb dX5_minds_93 rfl (lv_at hl 3 rfl) ?_
                    refine lv_isub hx hb dX5_minds_94 ?_
                    refine lv_icmp_le (tgt := 101) hx hb dX5_minds_95 (by decide) (fun c15 => ?_) (fun c15 => ?_)
                    · replace hf := if_te c15 hf
                      refine lv_iconst (v := 0) hx hb dX5_minds_101 rfl ?_
                      refine lv_istore (lv' := [(6, .int 0), (5, .ref qs5), (0, .ref q0), (1, .int x0), (2, .int x1), (3, .int x2), (4, .int x3)]) hx hb dX5_minds_102 hl (by decide) rfl (fun ls hl => ?_)
                      have hL104 : ∀ (n : Nat) (i16 : Int32) (v17 : PV) (H : Heap) (locs : List Loc) (ls : Array Slot), va_P D vwCl (oTM q0 qn0 qk0 qr0 qc0 qt0 qd0 qs0 qf0 qw0 rowCount anyKept (oPort C qn0 qn1 qn2 qn3 qn4 qn5 qn6 v17 (oSheets C qs0 qs1 qs2 qs3 qs4 qs5 qs6 qs7 qs8 sheets []))) H → va_D A (oTM q0 qn0 qk0 qr0 qc0 qt0 qd0 qs0 qf0 qw0 rowCount anyKept (oPort C qn0 qn1 qn2 qn3 qn4 qn5 qn6 v17 (oSheets C qs0 qs1 qs2 qs3 qs4 qs5 qs6 qs7 qs8 sheets []))) → va_S A s.heap H locs → lv_has ls 7 [(6, .int i16), (5, .ref qs5), (0, .ref q0), (2, .int x1), (3, .int x2), (4, .int x3)] → f_X5_minds_L104 x1 x2 x3 (sheets 2) n i16 v17 = some (r, now') → W p l e (headSpec wsX5_minds (rmX5_minds)).room s m (List.toArray [Value.ref q0, Value.int x0, Value.int x1, Value.int x2, Value.int x3]) below meth c H locs 0 0 Q (F0 m 104 ls []) := by
                        intro n
                        induction n with
                        | zero =>
                          intro i16 v17 H locs ls hP hD hS hl hf
                          exact absurd hf (fun h => by cases h)
                        | succ n ih =>
                          intro i16 v17 H locs ls hP hD hS hl hf
                          rw [f_X5_minds_L104] at hf
                          refine lv_iload hx hb dX5_minds_104 (lv_at hl 0 rfl) ?_
                          refine lv_iload hx hb dX5_minds_106 (lv_at hl 5 rfl) ?_
                          refine lv_icmp_ge (tgt := 143) hx hb dX5_minds_108 (by decide) (fun c18 => ?_) (fun c18 => ?_)
                          · replace hf := if_te c18 hf
                            refine lv_iload hx hb dX5_minds_143 (lv_at hl 5 rfl) ?_
                            cases hf
                            exact kri hQ hAe hx hb hr hlocks hP hD hK hS dX5_minds_145
                          · replace hf := if_fe c18 hf
                            refine lv_aload_n hx hb dX5_minds_111 rfl (lv_at hl 2 rfl) ?_
                            refine va_get (D := D) (ci := 5) (v := .ref qn0) (C := RX5) (T := TX5) (N := 11) hx hb hts hi_RX5 hown hK hP 0 rfl rfl 0 (by decide) (hts (.fieldLink RX5 10 "TravelMarks" "now" "LTravelMarks$Port;") (List.mem_of_getElem? (i := 1) rfl)) (fun _ h9 => h9) rfl dX5_minds_112 ?_
                            refine va_get (D := D) (ci := 1) (v := .ref qn3) (C := RX1) (T := TX1) (N := 10) hx hb hts hi_RX1 hown hK hP 1 rfl rfl 2 (by decide) (hts (.fieldLink RX5 117 "TravelMarks$Port" "ink" "[I") (List.mem_of_getElem? (i := 6) rfl)) (fun _ h9 => h9) rfl dX5_minds_115 ?_
                            refine lv_iload_n hx hb dX5_minds_118 rfl (lv_at hl 4 rfl) ?_
                            refine lv_iload hx hb dX5_minds_119 (lv_at hl 0 rfl) ?_
                            refine lv_iadd hx hb dX5_minds_121 ?_
                            refine lv_aload hx hb dX5_minds_122 (lv_at hl 1 rfl) ?_
                            refine va_get (D := D) (ci := 2) (v := .ref qs6) (C := RX2) (T := TX2) (N := 3) hx hb hts hi_RX2 hown hK hP 13 rfl rfl 0 (by decide) (hts (.fieldLink RX5 222 "TravelMarks$Sheet" "items" "[J") (List.mem_of_getElem? (i := 7) rfl)) (fun _ h9 => h9) rfl dX5_minds_124 ?_
                            refine lv_iload_n hx hb dX5_minds_127 rfl (lv_at hl 3 rfl) ?_
                            refine lv_iload hx hb dX5_minds_128 (lv_at hl 0 rfl) ?_
                            refine lv_iadd hx hb dX5_minds_130 ?_
                            obtain ⟨y20, ey20, hi19, hf⟩ := rdA_x hf
                            refine va_lald hx hb hK hP 14 2 rfl rfl hi19 dX5_minds_131 ?_
                            refine lv_renL ey20 ?_
                            refine lv_l2i hx hb dX5_minds_132 rfl ?_
                            refine kci (Wx := (oTM q0 qn0 qk0 qr0 qc0 qt0 qd0 qs0 qf0 qw0 rowCount anyKept (oPort C qn0 qn1 qn2 qn3 qn4 qn5 qn6 v17 (oSheets C qs0 qs1 qs2 qs3 qs4 qs5 qs6 qs7 qs8 sheets [])))) (va_runS (As := [.int (Int64.toInt32 y20)]) (rest := [.int (x2 + i16), .ref qn3]) ⟨hx, hb, hml, hown, hts⟩ (c_X5_heldInk l E D C H.size (Int64.toInt32 y20) _ rfl) (va_cwS 1 hts gX5_minds_X5_heldInk rfl rfl rfl hdX5_heldInk ⟨Nat.le_of_ble_eq_true rfl, Nat.le_of_ble_eq_true rfl⟩) (kpre hP hD hK hS hE hA [] rfl rfl) rfl rfl hl.1 rfl (lv_room (Nat.le_of_ble_eq_true rfl)) dX5_minds_133 ⟨Nat.zero_le _, Nat.zero_le _⟩) hP hD hS hA [] rfl rfl rfl (fun H locs hP hD hS => ?_)
                            obtain ⟨t21, et21, hf⟩ := lj_e hf
                            refine lv_ren et21 ?_
                            obtain ⟨hi22, hf⟩ := ckA_e hf
                            refine va_iast hx hb hK hP hD hS 4 0 rfl rfl hi22 dX5_minds_136 (fun H locs hP hD hS => ?_)
                            obtain ⟨v23, ev23, hf⟩ := lj_e hf
                            have hP : va_P D vwCl (oTM q0 qn0 qk0 qr0 qc0 qt0 qd0 qs0 qf0 qw0 rowCount anyKept (oPort C qn0 qn1 qn2 qn3 qn4 qn5 qn6 v23 (oSheets C qs0 qs1 qs2 qs3 qs4 qs5 qs6 qs7 qs8 sheets []))) H := by rw [ev23]; exact hP
                            have hD : va_D A (oTM q0 qn0 qk0 qr0 qc0 qt0 qd0 qs0 qf0 qw0 rowCount anyKept (oPort C qn0 qn1 qn2 qn3 qn4 qn5 qn6 v23 (oSheets C qs0 qs1 qs2 qs3 qs4 qs5 qs6 qs7 qs8 sheets []))) := by rw [ev23]; exact hD
                            obtain ⟨t24, et24, hf⟩ := lj_e hf
                            refine lv_iinc (v := t24) (lv' := [(6, .int t24), (5, .ref qs5), (0, .ref q0), (2, .int x1), (3, .int x2), (4, .int x3)]) hx hb dX5_minds_137 hl (k := 0) rfl (by rw [et24]; rfl) (by decide) rfl (fun ls hl => ?_)
                            refine lv_goto (tgt := 104) hx hb dX5_minds_140 (by decide) ?_
                            exact ih t24 v23 H locs ls hP hD hS (lv_sub hl [0, 1, 2, 3, 4, 5] rfl) hf
                      exact hL104 N 0 now H locs ls hP hD hS (lv_sub hl [0, 1, 2, 4, 5, 6] rfl) hf
                    · replace hf := if_fe c15 hf
                      refine lv_bipush (v := (-12)) hx hb dX5_minds_98 rfl ?_
                      cases hf
                      exact kri hQ hAe hx hb hr hlocks hP hD hK hS dX5_minds_100
                · replace hf := if_fe c12 hf
                  refine lv_bipush (v := (-13)) hx hb dX5_minds_70 rfl ?_
                  cases hf
                  exact kri hQ hAe hx hb hr hlocks hP hD hK hS dX5_minds_72
              · replace hf := if_te c11 hf
                refine lv_bipush (v := (-11)) hx hb dX5_minds_59 rfl ?_
                cases hf
                exact kri hQ hAe hx hb hr hlocks hP hD hK hS dX5_minds_61
            · rw [e4_10] at eo9
              subst eo9
              try rw [e4_10] at hf
              refine va_aldq hx hb hK hP 8 3 rfl rfl hi8 dX5_minds_47 ?_
              rw [e4_10]
              refine lv_renV (v := .ref qs7) rfl ?_
              refine lv_astore (lv' := [(5, .ref qs7), (0, .ref q0), (1, .int x0), (2, .int x1), (3, .int x2), (4, .int x3)]) hx hb dX5_minds_48 hl (by decide) rfl (fun ls hl => ?_)
              refine lv_aload hx hb dX5_minds_50 (lv_at hl 0 rfl) ?_
              refine va_get (D := D) (ci := 2) (v := .int (shSort (sheets 3))) (C := RX2) (T := TX2) (N := 3) hx hb hts hi_RX2 hown hK hP 15 rfl rfl 1 (by decide) (hts (.fieldLink RX5 212 "TravelMarks$Sheet" "sort" "I") (List.mem_of_getElem? (i := 4) rfl)) (fun _ h9 => h9) rfl dX5_minds_52 ?_
              refine lv_iconst (v := (-1)) hx hb dX5_minds_55 rfl ?_
              refine lv_icmp_ne (tgt := 62) hx hb dX5_minds_56 (by decide) (fun c11 => ?_) (fun c11 => ?_)
              · replace hf := if_fe c11 hf
                refine lv_aload hx hb dX5_minds_62 (lv_at hl 0 rfl) ?_
                refine va_get (D := D) (ci := 2) (v := .int (shSort (sheets 3))) (C := RX2) (T := TX2) (N := 3) hx hb hts hi_RX2 hown hK hP 15 rfl rfl 1 (by decide) (hts (.fieldLink RX5 212 "TravelMarks$Sheet" "sort" "I") (List.mem_of_getElem? (i := 4) rfl)) (fun _ h9 => h9) rfl dX5_minds_64 ?_
                refine lv_if_eq (tgt := 73) hx hb dX5_minds_67 (by decide) (fun c12 => ?_) (fun c12 => ?_)
                · replace hf := if_te c12 hf
                  refine lv_iload_n hx hb dX5_minds_73 rfl (lv_at hl 3 rfl) ?_
                  refine lv_iconst (v := 0) hx hb dX5_minds_74 rfl ?_
                  refine lv_aload hx hb dX5_minds_75 (lv_at hl 0 rfl) ?_
                  refine va_get (D := D) (ci := 2) (v := .int (shSize (sheets 3))) (C := RX2) (T := TX2) (N := 3) hx hb hts hi_RX2 hown hK hP 15 rfl rfl 2 (by decide) (hts (.fieldLink RX5 219 "TravelMarks$Sheet" "size" "I") (List.mem_of_getElem? (i := 5) rfl)) (fun _ h9 => h9) rfl dX5_minds_77 ?_
                  refine kcz (Wx := (oTM q0 qn0 qk0 qr0 qc0 qt0 qd0 qs0 qf0 qw0 rowCount anyKept (oPort C qn0 qn1 qn2 qn3 qn4 qn5 qn6 now (oSheets C qs0 qs1 qs2 qs3 qs4 qs5 qs6 qs7 qs8 sheets [])))) (va_runS (As := [.int x1, .int 0, .int (shSize (sheets 3))]) (rest := []) ⟨hx, hb, hml, hown, hts⟩ (c_X5_within l E D C H.size x1 0 (shSize (sheets 3)) _ rfl) (va_cwS 3 hts gX5_minds_X5_within rfl rfl rfl hdX5_within ⟨Nat.le_of_ble_eq_true rfl, Nat.le_of_ble_eq_true rfl⟩) (kpre hP hD hK hS hE hA [] rfl rfl) rfl rfl hl.1 rfl (lv_room (Nat.le_of_ble_eq_true rfl)) dX5_minds_80 ⟨Nat.zero_le _, Nat.zero_le _⟩) hP hD hS hA [] rfl rfl rfl (fun H locs hz13 hP hD hS => ?_)
                  refine lv_if_eq (tgt := 98) hx hb dX5_minds_83 (by decide) (fun c14 => ?_) (fun c14 => ?_)
                  · replace hf := if_te c14 hf
                    refine lv_bipush (v := (-12)) hx hb dX5_minds_98 rfl ?_
                    cases hf
                    exact kri hQ hAe hx hb hr hlocks hP hD hK hS dX5_minds_100
                  · replace hf := if_fe c14 hf
                    refine lv_iload hx hb dX5_minds_86 (lv_at hl 5 rfl) ?_
                    refine lv_aload hx hb dX5_minds_88 (lv_at hl 0 rfl) ?_
                    refine va_get (D := D) (ci := 2) (v := .int (shSize (sheets 3))) (C := RX2) (T := TX2) (N := 3) hx hb hts hi_RX2 hown hK hP 15 rfl rfl 2 (by decide) (hts (.fieldLink RX5 219 "TravelMarks$Sheet" "size" "I") (List.mem_of_getElem? (i := 5) rfl)) (fun _ h9 => h9) rfl dX5_minds_90 ?_
                    refine lv_iload_n hx hb dX5_minds_93 rfl (lv_at hl 3 rfl) ?_
                    refine lv_isub hx hb dX5_minds_94 ?_
                    refine lv_icmp_le (tgt := 101) hx hb dX5_minds_95 (by decide) (fun c15 => ?_) (fun c15 => ?_)
                    · replace hf := if_te c15 hf
                      refine lv_iconst (v := 0) hx hb dX5_minds_101 rfl ?_
                      refine lv_istore (lv' := [(6, .int 0), (5, .ref qs7), (0, .ref q0), (1, .int x0), (2, .int x1), (3, .int x2), (4, .int x3)]) hx hb dX5_minds_102 hl (by decide) rfl (fun ls hl => ?_)
                      have hL104 : ∀ (n : Nat) (i16 : Int32) (v17 : PV) (H : Heap) (locs : List Loc) (ls : Array Slot), va_P D vwCl (oTM q0 qn0 qk0 qr0 qc0 qt0 qd0 qs0 qf0 qw0 rowCount anyKept (oPort C qn0 qn1 qn2 qn3 qn4 qn5 qn6 v17 (oSheets C qs0 qs1 qs2 qs3 qs4 qs5 qs6 qs7 qs8 sheets []))) H → va_D A (oTM q0 qn0 qk0 qr0 qc0 qt0 qd0 qs0 qf0 qw0 rowCount anyKept (oPort C qn0 qn1 qn2 qn3 qn4 qn5 qn6 v17 (oSheets C qs0 qs1 qs2 qs3 qs4 qs5 qs6 qs7 qs8 sheets []))) → va_S A s.heap H locs → lv_has ls 7 [(6, .int i16), (5, .ref qs7), (0, .ref q0), (2, .int x1), (3, .int x2), (4, .int x3)] → f_X5_minds_L104 x1 x2 x3 (sheets 3) n i16 v17 = some (r, now') → W p l e (headSpec wsX5_minds (rmX5_minds)).room s m (List.toArray [Value.ref q0, Value.int x0, Value.int x1, Value.int x2, Value.int x3]) below meth c H locs 0 0 Q (F0 m 104 ls []) := by
                        intro n
                        induction n with
                        | zero =>
                          intro i16 v17 H locs ls hP hD hS hl hf
                          exact absurd hf (fun h => by cases h)
                        | succ n ih =>
                          intro i16 v17 H locs ls hP hD hS hl hf
                          rw [f_X5_minds_L104] at hf
                          refine lv_iload hx hb dX5_minds_104 (lv_at hl 0 rfl) ?_
                          refine lv_iload hx hb dX5_minds_106 (lv_at hl 5 rfl) ?_
                          refine lv_icmp_ge (tgt := 143) hx hb dX5_minds_108 (by decide) (fun c18 => ?_) (fun c18 => ?_)
                          · replace hf := if_te c18 hf
                            refine lv_iload hx hb dX5_minds_143 (lv_at hl 5 rfl) ?_
                            cases hf
                            exact kri hQ hAe hx hb hr hlocks hP hD hK hS dX5_minds_145
                          · replace hf := if_fe c18 hf
                            refine lv_aload_n hx hb dX5_minds_111 rfl (lv_at hl 2 rfl) ?_
                            refine va_get (D := D) (ci := 5) (v := .ref qn0) (C := RX5) (T := TX5) (N := 11) hx hb hts hi_RX5 hown hK hP 0 rfl rfl 0 (by decide) (hts (.fieldLink RX5 10 "TravelMarks" "now" "LTravelMarks$Port;") (List.mem_of_getElem? (i := 1) rfl)) (fun _ h9 => h9) rfl dX5_minds_112 ?_
                            refine va_get (D := D) (ci := 1) (v := .ref qn3) (C := RX1) (T := TX1) (N := 10) hx hb hts hi_RX1 hown hK hP 1 rfl rfl 2 (by decide) (hts (.fieldLink RX5 117 "TravelMarks$Port" "ink" "[I") (List.mem_of_getElem? (i := 6) rfl)) (fun _ h9 => h9) rfl dX5_minds_115 ?_
                            refine lv_iload_n hx hb dX5_minds_118 rfl (lv_at hl 4 rfl) ?_
                            refine lv_iload hx hb dX5_minds_119 (lv_at hl 0 rfl) ?_
                            refine lv_iadd hx hb dX5_minds_121 ?_
                            refine lv_aload hx hb dX5_minds_122 (lv_at hl 1 rfl) ?_
                            refine va_get (D := D) (ci := 2) (v := .ref qs8) (C := RX2) (T := TX2) (N := 3) hx hb hts hi_RX2 hown hK hP 15 rfl rfl 0 (by decide) (hts (.fieldLink RX5 222 "TravelMarks$Sheet" "items" "[J") (List.mem_of_getElem? (i := 7) rfl)) (fun _ h9 => h9) rfl dX5_minds_124 ?_
                            refine lv_iload_n hx hb dX5_minds_127 rfl (lv_at hl 3 rfl) ?_
                            refine lv_iload hx hb dX5_minds_128 (lv_at hl 0 rfl) ?_
                            refine lv_iadd hx hb dX5_minds_130 ?_
                            obtain ⟨y20, ey20, hi19, hf⟩ := rdA_x hf
                            refine va_lald hx hb hK hP 16 2 rfl rfl hi19 dX5_minds_131 ?_
                            refine lv_renL ey20 ?_
                            refine lv_l2i hx hb dX5_minds_132 rfl ?_
                            refine kci (Wx := (oTM q0 qn0 qk0 qr0 qc0 qt0 qd0 qs0 qf0 qw0 rowCount anyKept (oPort C qn0 qn1 qn2 qn3 qn4 qn5 qn6 v17 (oSheets C qs0 qs1 qs2 qs3 qs4 qs5 qs6 qs7 qs8 sheets [])))) (va_runS (As := [.int (Int64.toInt32 y20)]) (rest := [.int (x2 + i16), .ref qn3]) ⟨hx, hb, hml, hown, hts⟩ (c_X5_heldInk l E D C H.size (Int64.toInt32 y20) _ rfl) (va_cwS 1 hts gX5_minds_X5_heldInk rfl rfl rfl hdX5_heldInk ⟨Nat.le_of_ble_eq_true rfl, Nat.le_of_ble_eq_true rfl⟩) (kpre hP hD hK hS hE hA [] rfl rfl) rfl rfl hl.1 rfl (lv_room (Nat.le_of_ble_eq_true rfl)) dX5_minds_133 ⟨Nat.zero_le _, Nat.zero_le _⟩) hP hD hS hA [] rfl rfl rfl (fun H locs hP hD hS => ?_)
                            obtain ⟨t21, et21, hf⟩ := lj_e hf
                            refine lv_ren et21 ?_
                            obtain ⟨hi22, hf⟩ := ckA_e hf
                            refine va_iast hx hb hK hP hD hS 4 0 rfl rfl hi22 dX5_minds_136 (fun H locs hP hD hS => ?_)
                            obtain ⟨v23, ev23, hf⟩ := lj_e hf
                            have hP : va_P D vwCl (oTM q0 qn0 qk0 qr0 qc0 qt0 qd0 qs0 qf0 qw0 rowCount anyKept (oPort C qn0 qn1 qn2 qn3 qn4 qn5 qn6 v23 (oSheets C qs0 qs1 qs2 qs3 qs4 qs5 qs6 qs7 qs8 sheets []))) H := by rw [ev23]; exact hP
                            have hD : va_D A (oTM q0 qn0 qk0 qr0 qc0 qt0 qd0 qs0 qf0 qw0 rowCount anyKept (oPort C qn0 qn1 qn2 qn3 qn4 qn5 qn6 v23 (oSheets C qs0 qs1 qs2 qs3 qs4 qs5 qs6 qs7 qs8 sheets []))) := by rw [ev23]; exact hD
                            obtain ⟨t24, et24, hf⟩ := lj_e hf
                            refine lv_iinc (v := t24) (lv' := [(6, .int t24), (5, .ref qs7), (0, .ref q0), (2, .int x1), (3, .int x2), (4, .int x3)]) hx hb dX5_minds_137 hl (k := 0) rfl (by rw [et24]; rfl) (by decide) rfl (fun ls hl => ?_)
                            refine lv_goto (tgt := 104) hx hb dX5_minds_140 (by decide) ?_
                            exact ih t24 v23 H locs ls hP hD hS (lv_sub hl [0, 1, 2, 3, 4, 5] rfl) hf
                      exact hL104 N 0 now H locs ls hP hD hS (lv_sub hl [0, 1, 2, 4, 5, 6] rfl) hf
                    · replace hf := if_fe c15 hf
                      refine lv_bipush (v := (-12)) hx hb dX5_minds_98 rfl ?_
                      cases hf
                      exact kri hQ hAe hx hb hr hlocks hP hD hK hS dX5_minds_100
                · replace hf := if_fe c12 hf
                  refine lv_bipush (v := (-13)) hx hb dX5_minds_70 rfl ?_
                  cases hf
                  exact kri hQ hAe hx hb hr hlocks hP hD hK hS dX5_minds_72
              · replace hf := if_te c11 hf
                refine lv_bipush (v := (-11)) hx hb dX5_minds_59 rfl ?_
                cases hf
                exact kri hQ hAe hx hb hr hlocks hP hD hK hS dX5_minds_61
          · replace hf := if_fe c7 hf
            refine lv_iconst (v := (-1)) hx hb dX5_minds_40 rfl ?_
            cases hf
            exact kri hQ hAe hx hb hr hlocks hP hD hK hS dX5_minds_41
  exact main _ _ hP hD hS

def rmX5_sheet : Room := { frames := 2, cells := 0, slots := 0, locals := 42 }
theorem hdX5_sheet : yX5_sheet.cls = RX5 ∧ yX5_sheet.cls ≠ "java/lang/invoke/MethodHandle" ∧ yX5_sheet.cls ≠ "java/lang/invoke/VarHandle" ∧ (parseMethodDescriptor yX5_sheet.desc).map (fun d => d.parameters.length) = some 3 := by decide +kernel
set_option maxHeartbeats 40000000 in
set_option maxRecDepth 100000 in
theorem c_X5_sheet (l : Launch) (E : Nat → Nat) (D : va_G) (C : Nat → ClassId) (q0 qn0 qk0 qr0 qc0 qt0 qd0 qs0 qf0 qw0 qs1 qs2 qs3 qs4 qs5 qs6 qs7 qs8 : Nat) (sz : Nat) (N : Nat) (rowCount : Int32) (anyKept : Int32) (sheets : Nat → HV) (x0 : Int32) (x1 : Int32) (x2 : Int32) (r : Int32) (sheets' : Nat → HV) (hf : f_X5_sheet N sheets x0 x1 x2 = some (r, sheets')) : Met l yX5_sheet wsX5_sheet rmX5_sheet (PC E D C [.ref q0, .int x0, .int x1, .int x2] (oTM q0 qn0 qk0 qr0 qc0 qt0 qd0 qs0 qf0 qw0 rowCount anyKept (oSheets C qs0 qs1 qs2 qs3 qs4 qs5 qs6 qs7 qs8 sheets [])) sz) (QI D C (oTM q0 qn0 qk0 qr0 qc0 qt0 qd0 qs0 qf0 qw0 rowCount anyKept (oSheets C qs0 qs1 qs2 qs3 qs4 qs5 qs6 qs7 qs8 sheets [])) (oTM q0 qn0 qk0 qr0 qc0 qt0 qd0 qs0 qf0 qw0 rowCount anyKept (oSheets C qs0 qs1 qs2 qs3 qs4 qs5 qs6 qs7 qs8 (sheets') [])) sz r) 0 0 (va_A (oTM q0 qn0 qk0 qr0 qc0 qt0 qd0 qs0 qf0 qw0 rowCount anyKept (oSheets C qs0 qs1 qs2 qs3 qs4 qs5 qs6 qs7 qs8 sheets [])) sz) := by
  refine Met.ofW (cc := cX5_sheet) (maxL := 4) (ret := (some .int)) (by decide) rfl ?_
  intro p e s m args below meth c s₁ B hml hv
  obtain ⟨rfl, hsz, hP, hK, hD0, hE⟩ := hv
  have hx := B.exec
  have hb := B.bytes
  have hr := B.returns
  have hts := atoms_spec (ws := wsX5_sheet) B.pre
  have hown : s.vm.findClass RX5 = some m.cls := findClass_of_methodNamed B.named
  have hlocks := B.notSynchronized
  subst hsz
  have hi_RX5 : ∀ w ∈ wsX50, w ∈ wsX5_sheet := fun _ h => List.mem_cons_of_mem _ (List.mem_append_left _ (List.mem_append_right _ h))
  have hD := hD0.self (sz := s.heap.size)
  obtain ⟨A, hAe⟩ := nm_ex (va_A (oTM q0 qn0 qk0 qr0 qc0 qt0 qd0 qs0 qf0 qw0 rowCount anyKept (oSheets C qs0 qs1 qs2 qs3 qs4 qs5 qs6 qs7 qs8 sheets [])) s.heap.size)
  rw [← hAe] at hD hE ⊢
  have hA : ∀ q : Nat, s.heap.size ≤ q → A q := fun q h => by rw [hAe]; exact Or.inr h
  have hS : va_S A s.heap s.heap [] := va_S.rf
  have hl := lv_entry ([.ref q0, .int x0, .int x1, .int x2]) (n := 4) (Nat.le_of_ble_eq_true rfl)
  rw [lg_entry_eq]
  generalize (lg_sl ([.ref q0, .int x0, .int x1, .int x2]) ++ List.replicate (4 - (lg_sl ([.ref q0, .int x0, .int x1, .int x2])).length) Slot.unset).toArray = ls at hl ⊢
  have hl : lv_has ls 4 [(0, .ref q0), (1, .int x0), (2, .int x1), (3, .int x2)] := hl
  obtain ⟨Q, hQ⟩ := nm_ex (MQ below (QI D C (oTM q0 qn0 qk0 qr0 qc0 qt0 qd0 qs0 qf0 qw0 rowCount anyKept (oSheets C qs0 qs1 qs2 qs3 qs4 qs5 qs6 qs7 qs8 sheets [])) (oTM q0 qn0 qk0 qr0 qc0 qt0 qd0 qs0 qf0 qw0 rowCount anyKept (oSheets C qs0 qs1 qs2 qs3 qs4 qs5 qs6 qs7 qs8 (sheets') [])) s.heap.size r) (List.toArray [Value.ref q0, Value.int x0, Value.int x1, Value.int x2]) s 0 0 A)
  show W p l e (headSpec wsX5_sheet (rmX5_sheet)).room s m (List.toArray [Value.ref q0, Value.int x0, Value.int x1, Value.int x2]) below meth c s.heap [] 0 0 (MQ below (QI D C (oTM q0 qn0 qk0 qr0 qc0 qt0 qd0 qs0 qf0 qw0 rowCount anyKept (oSheets C qs0 qs1 qs2 qs3 qs4 qs5 qs6 qs7 qs8 sheets [])) (oTM q0 qn0 qk0 qr0 qc0 qt0 qd0 qs0 qf0 qw0 rowCount anyKept (oSheets C qs0 qs1 qs2 qs3 qs4 qs5 qs6 qs7 qs8 (sheets') [])) s.heap.size r) (List.toArray [Value.ref q0, Value.int x0, Value.int x1, Value.int x2]) s 0 0 A) _
  rw [← hQ]
  unfold f_X5_sheet at hf
  have main : ∀ (H : Heap) (locs : List Loc), va_P D vwCl (oTM q0 qn0 qk0 qr0 qc0 qt0 qd0 qs0 qf0 qw0 rowCount anyKept (oSheets C qs0 qs1 qs2 qs3 qs4 qs5 qs6 qs7 qs8 sheets [])) H → va_D A (oTM q0 qn0 qk0 qr0 qc0 qt0 qd0 qs0 qf0 qw0 rowCount anyKept (oSheets C qs0 qs1 qs2 qs3 qs4 qs5 qs6 qs7 qs8 sheets [])) → va_S A s.heap H locs → W p l e (headSpec wsX5_sheet (rmX5_sheet)).room s m (List.toArray [Value.ref q0, Value.int x0, Value.int x1, Value.int x2]) below meth c H locs 0 0 Q (F0 m 0 ls []) := by
    intro H locs hP hD hS
    refine lv_iload_n hx hb dX5_sheet_0 rfl (lv_at hl 1 rfl) ?_
    refine kcz (Wx := (oTM q0 qn0 qk0 qr0 qc0 qt0 qd0 qs0 qf0 qw0 rowCount anyKept (oSheets C qs0 qs1 qs2 qs3 qs4 qs5 qs6 qs7 qs8 sheets []))) (va_runS (As := [.int x0]) (rest := []) ⟨hx, hb, hml, hown, hts⟩ (c_X5_isSheet l E D C H.size x0 _ rfl) (va_cwS 1 hts gX5_sheet_X5_isSheet rfl rfl rfl hdX5_isSheet ⟨Nat.le_of_ble_eq_true rfl, Nat.le_of_ble_eq_true rfl⟩) (kpre hP hD hK hS hE hA [] rfl rfl) rfl rfl hl.1 rfl (lv_room (Nat.le_of_ble_eq_true rfl)) dX5_sheet_1 ⟨Nat.zero_le _, Nat.zero_le _⟩) hP hD hS hA [] rfl rfl rfl (fun H locs hz1 hP hD hS => ?_)
    refine lv_if_eq (tgt := 16) hx hb dX5_sheet_4 (by decide) (fun c2 => ?_) (fun c2 => ?_)
    · replace hf := if_te c2 hf
      refine lv_iconst (v := (-1)) hx hb dX5_sheet_16 rfl ?_
      cases hf
      exact kri hQ hAe hx hb hr hlocks hP hD hK hS dX5_sheet_17
    · replace hf := if_fe c2 hf
      refine lv_iload_n hx hb dX5_sheet_7 rfl (lv_at hl 2 rfl) ?_
      refine lv_iconst (v := (-1)) hx hb dX5_sheet_8 rfl ?_
      refine lv_iconst (v := 3) hx hb dX5_sheet_9 rfl ?_
      refine kcz (Wx := (oTM q0 qn0 qk0 qr0 qc0 qt0 qd0 qs0 qf0 qw0 rowCount anyKept (oSheets C qs0 qs1 qs2 qs3 qs4 qs5 qs6 qs7 qs8 sheets []))) (va_runS (As := [.int x1, .int (-1), .int 3]) (rest := []) ⟨hx, hb, hml, hown, hts⟩ (c_X5_within l E D C H.size x1 (-1) 3 _ rfl) (va_cwS 3 hts gX5_sheet_X5_within rfl rfl rfl hdX5_within ⟨Nat.le_of_ble_eq_true rfl, Nat.le_of_ble_eq_true rfl⟩) (kpre hP hD hK hS hE hA [] rfl rfl) rfl rfl hl.1 rfl (lv_room (Nat.le_of_ble_eq_true rfl)) dX5_sheet_10 ⟨Nat.zero_le _, Nat.zero_le _⟩) hP hD hS hA [] rfl rfl rfl (fun H locs hz3 hP hD hS => ?_)
      refine lv_if_ne (tgt := 18) hx hb dX5_sheet_13 (by decide) (fun c4 => ?_) (fun c4 => ?_)
      · replace hf := if_fe c4 hf
        refine lv_iload_n hx hb dX5_sheet_18 rfl (lv_at hl 2 rfl) ?_
        refine lv_iconst (v := (-1)) hx hb dX5_sheet_19 rfl ?_
        refine lv_icmp_ne (tgt := 36) hx hb dX5_sheet_20 (by decide) (fun c5 => ?_) (fun c5 => ?_)
        · replace hf := if_fe c5 hf
          refine lv_iload_n hx hb dX5_sheet_36 rfl (lv_at hl 3 rfl) ?_
          refine lv_bipush (v := 40) hx hb dX5_sheet_37 rfl ?_
          refine lv_icmp_le (tgt := 44) hx hb dX5_sheet_39 (by decide) (fun c6 => ?_) (fun c6 => ?_)
          · replace hf := if_te c6 hf
            refine lv_iload_n hx hb dX5_sheet_44 rfl (lv_at hl 3 rfl) ?_
            refine lv_if_ge (tgt := 51) hx hb dX5_sheet_45 (by decide) (fun c7 => ?_) (fun c7 => ?_)
            · replace hf := if_te c7 hf
              refine lv_aload_n hx hb dX5_sheet_51 rfl (lv_at hl 0 rfl) ?_
              refine va_get (D := D) (ci := 5) (v := .ref qs0) (C := RX5) (T := TX5) (N := 11) hx hb hts hi_RX5 hown hK hP 0 rfl rfl 6 (by decide) (hts (.fieldLink RX5 41 "TravelMarks" "sheets" "[LTravelMarks$Sheet;") (List.mem_of_getElem? (i := 1) rfl)) (fun _ h9 => h9) rfl dX5_sheet_52 ?_
              refine lv_iload_n hx hb dX5_sheet_55 rfl (lv_at hl 1 rfl) ?_
              obtain ⟨hi8, hf⟩ := ckA_e hf
              obtain ⟨o9, eo9, hf⟩ := lj_e hf
              rcases four hi8 with e4_10 | e4_10 | e4_10 | e4_10
              · rw [e4_10] at eo9
                subst eo9
                try rw [e4_10] at hf
                refine va_aldq hx hb hK hP 1 3 rfl rfl hi8 dX5_sheet_56 ?_
                rw [e4_10]
                refine lv_renV (v := .ref qs1) rfl ?_
                refine lv_iload_n hx hb dX5_sheet_57 rfl (lv_at hl 2 rfl) ?_
                refine lv_iload_n hx hb dX5_sheet_58 rfl (lv_at hl 3 rfl) ?_
                obtain ⟨v11, h12, hf⟩ := ob1_e hf
                refine kcv (Wx := (oTM q0 qn0 qk0 qr0 qc0 qt0 qd0 qs0 qf0 qw0 rowCount anyKept (oSheets C qs0 qs1 qs2 qs3 qs4 qs5 qs6 qs7 qs8 (va_up sheets 0 v11) []))) (va_runV (As := [.int x1, .int x2]) (rest := []) ⟨hx, hb, hml, hown, hts⟩ (c_X2_become l E D C qs1 qs2 H.size N (sheets 0) x1 x2 v11 h12) (cwV 2 hts gX5_sheet_X2_become rfl rfl rfl hdX2_become ⟨Nat.le_of_ble_eq_true rfl, Nat.le_of_ble_eq_true rfl⟩) (kpreV hP hD hK hS hE hA [2, 3] rfl rfl 2 rfl rfl rfl) rfl rfl hl.1 rfl (lv_room (Nat.le_of_ble_eq_true rfl)) dX5_sheet_59 ⟨Nat.zero_le _, Nat.zero_le _⟩) hP hD hS hA [2, 3] rfl rfl rfl (fun H locs hP hD hS => ?_)
                refine lv_iconst (v := 1) hx hb dX5_sheet_62 rfl ?_
                cases hf
                exact kri hQ hAe hx hb hr hlocks hP hD hK hS dX5_sheet_63
              · rw [e4_10] at eo9
                subst eo9
                try rw [e4_10] at hf
                refine va_aldq hx hb hK hP 1 3 rfl rfl hi8 dX5_sheet_56 ?_
                rw [e4_10]
                refine lv_renV (v := .ref qs3) rfl ?_
                refine lv_iload_n hx hb dX5_sheet_57 rfl (lv_at hl 2 rfl) ?_
                refine lv_iload_n hx hb dX5_sheet_58 rfl (lv_at hl 3 rfl) ?_
                obtain ⟨v11, h12, hf⟩ := ob1_e hf
                refine kcv (Wx := (oTM q0 qn0 qk0 qr0 qc0 qt0 qd0 qs0 qf0 qw0 rowCount anyKept (oSheets C qs0 qs1 qs2 qs3 qs4 qs5 qs6 qs7 qs8 (va_up sheets 1 v11) []))) (va_runV (As := [.int x1, .int x2]) (rest := []) ⟨hx, hb, hml, hown, hts⟩ (c_X2_become l E D C qs3 qs4 H.size N (sheets 1) x1 x2 v11 h12) (cwV 2 hts gX5_sheet_X2_become rfl rfl rfl hdX2_become ⟨Nat.le_of_ble_eq_true rfl, Nat.le_of_ble_eq_true rfl⟩) (kpreV hP hD hK hS hE hA [4, 5] rfl rfl 4 rfl rfl rfl) rfl rfl hl.1 rfl (lv_room (Nat.le_of_ble_eq_true rfl)) dX5_sheet_59 ⟨Nat.zero_le _, Nat.zero_le _⟩) hP hD hS hA [4, 5] rfl rfl rfl (fun H locs hP hD hS => ?_)
                refine lv_iconst (v := 1) hx hb dX5_sheet_62 rfl ?_
                cases hf
                exact kri hQ hAe hx hb hr hlocks hP hD hK hS dX5_sheet_63
              · rw [e4_10] at eo9
                subst eo9
                try rw [e4_10] at hf
                refine va_aldq hx hb hK hP 1 3 rfl rfl hi8 dX5_sheet_56 ?_
                rw [e4_10]
                refine lv_renV (v := .ref qs5) rfl ?_
                refine lv_iload_n hx hb dX5_sheet_57 rfl (lv_at hl 2 rfl) ?_
                refine lv_iload_n hx hb dX5_sheet_58 rfl (lv_at hl 3 rfl) ?_
                obtain ⟨v11, h12, hf⟩ := ob1_e hf
                refine kcv (Wx := (oTM q0 qn0 qk0 qr0 qc0 qt0 qd0 qs0 qf0 qw0 rowCount anyKept (oSheets C qs0 qs1 qs2 qs3 qs4 qs5 qs6 qs7 qs8 (va_up sheets 2 v11) []))) (va_runV (As := [.int x1, .int x2]) (rest := []) ⟨hx, hb, hml, hown, hts⟩ (c_X2_become l E D C qs5 qs6 H.size N (sheets 2) x1 x2 v11 h12) (cwV 2 hts gX5_sheet_X2_become rfl rfl rfl hdX2_become ⟨Nat.le_of_ble_eq_true rfl, Nat.le_of_ble_eq_true rfl⟩) (kpreV hP hD hK hS hE hA [6, 7] rfl rfl 6 rfl rfl rfl) rfl rfl hl.1 rfl (lv_room (Nat.le_of_ble_eq_true rfl)) dX5_sheet_59 ⟨Nat.zero_le _, Nat.zero_le _⟩) hP hD hS hA [6, 7] rfl rfl rfl (fun H locs hP hD hS => ?_)
                refine lv_iconst (v := 1) hx hb dX5_sheet_62 rfl ?_
                cases hf
                exact kri hQ hAe hx hb hr hlocks hP hD hK hS dX5_sheet_63
              · rw [e4_10] at eo9
                subst eo9
                try rw [e4_10] at hf
                refine va_aldq hx hb hK hP 1 3 rfl rfl hi8 dX5_sheet_56 ?_
                rw [e4_10]
                refine lv_renV (v := .ref qs7) rfl ?_
                refine lv_iload_n hx hb dX5_sheet_57 rfl (lv_at hl 2 rfl) ?_
                refine lv_iload_n hx hb dX5_sheet_58 rfl (lv_at hl 3 rfl) ?_
                obtain ⟨v11, h12, hf⟩ := ob1_e hf
                refine kcv (Wx := (oTM q0 qn0 qk0 qr0 qc0 qt0 qd0 qs0 qf0 qw0 rowCount anyKept (oSheets C qs0 qs1 qs2 qs3 qs4 qs5 qs6 qs7 qs8 (va_up sheets 3 v11) []))) (va_runV (As := [.int x1, .int x2]) (rest := []) ⟨hx, hb, hml, hown, hts⟩ (c_X2_become l E D C qs7 qs8 H.size N (sheets 3) x1 x2 v11 h12) (cwV 2 hts gX5_sheet_X2_become rfl rfl rfl hdX2_become ⟨Nat.le_of_ble_eq_true rfl, Nat.le_of_ble_eq_true rfl⟩) (kpreV hP hD hK hS hE hA [8, 9] rfl rfl 8 rfl rfl rfl) rfl rfl hl.1 rfl (lv_room (Nat.le_of_ble_eq_true rfl)) dX5_sheet_59 ⟨Nat.zero_le _, Nat.zero_le _⟩) hP hD hS hA [8, 9] rfl rfl rfl (fun H locs hP hD hS => ?_)
                refine lv_iconst (v := 1) hx hb dX5_sheet_62 rfl ?_
                cases hf
                exact kri hQ hAe hx hb hr hlocks hP hD hK hS dX5_sheet_63
            · replace hf := if_fe c7 hf
              refine lv_bipush (v := (-14)) hx hb dX5_sheet_48 rfl ?_
              cases hf
              exact kri hQ hAe hx hb hr hlocks hP hD hK hS dX5_sheet_50
          · replace hf := if_fe c6 hf
            refine lv_iconst (v := (-1)) hx hb dX5_sheet_42 rfl ?_
            cases hf
            exact kri hQ hAe hx hb hr hlocks hP hD hK hS dX5_sheet_43
        · replace hf := if_te c5 hf
          refine lv_aload_n hx hb dX5_sheet_23 rfl (lv_at hl 0 rfl) ?_
          refine va_get (D := D) (ci := 5) (v := .ref qs0) (C := RX5) (T := TX5) (N := 11) hx hb hts hi_RX5 hown hK hP 0 rfl rfl 6 (by decide) (hts (.fieldLink RX5 41 "TravelMarks" "sheets" "[LTravelMarks$Sheet;") (List.mem_of_getElem? (i := 1) rfl)) (fun _ h9 => h9) rfl dX5_sheet_24 ?_
          refine lv_iload_n hx hb dX5_sheet_27 rfl (lv_at hl 1 rfl) ?_
          obtain ⟨hi13, hf⟩ := ckA_e hf
          obtain ⟨o14, eo14, hf⟩ := lj_e hf
          rcases four hi13 with e4_15 | e4_15 | e4_15 | e4_15
          · rw [e4_15] at eo14
            subst eo14
            try rw [e4_15] at hf
            refine va_aldq hx hb hK hP 1 3 rfl rfl hi13 dX5_sheet_28 ?_
            rw [e4_15]
            refine lv_renV (v := .ref qs1) rfl ?_
            refine lv_iconst (v := (-1)) hx hb dX5_sheet_29 rfl ?_
            refine lv_iconst (v := 0) hx hb dX5_sheet_30 rfl ?_
            obtain ⟨v16, h17, hf⟩ := ob1_e hf
            refine kcv (Wx := (oTM q0 qn0 qk0 qr0 qc0 qt0 qd0 qs0 qf0 qw0 rowCount anyKept (oSheets C qs0 qs1 qs2 qs3 qs4 qs5 qs6 qs7 qs8 (va_up sheets 0 v16) []))) (va_runV (As := [.int (-1), .int 0]) (rest := []) ⟨hx, hb, hml, hown, hts⟩ (c_X2_become l E D C qs1 qs2 H.size N (sheets 0) (-1) 0 v16 h17) (cwV 2 hts gX5_sheet_X2_become rfl rfl rfl hdX2_become ⟨Nat.le_of_ble_eq_true rfl, Nat.le_of_ble_eq_true rfl⟩) (kpreV hP hD hK hS hE hA [2, 3] rfl rfl 2 rfl rfl rfl) rfl rfl hl.1 rfl (lv_room (Nat.le_of_ble_eq_true rfl)) dX5_sheet_31 ⟨Nat.zero_le _, Nat.zero_le _⟩) hP hD hS hA [2, 3] rfl rfl rfl (fun H locs hP hD hS => ?_)
            refine lv_iconst (v := 1) hx hb dX5_sheet_34 rfl ?_
            cases hf
            exact kri hQ hAe hx hb hr hlocks hP hD hK hS dX5_sheet_35
          · rw [e4_15] at eo14
            subst eo14
            try rw [e4_15] at hf
            refine va_aldq hx hb hK hP 1 3 rfl rfl hi13 dX5_sheet_28 ?_
            rw [e4_15]
            refine lv_renV (v := .ref qs3) rfl ?_
            refine lv_iconst (v := (-1)) hx hb dX5_sheet_29 rfl ?_
            refine lv_iconst (v := 0) hx hb dX5_sheet_30 rfl ?_
            obtain ⟨v16, h17, hf⟩ := ob1_e hf
            refine kcv (Wx := (oTM q0 qn0 qk0 qr0 qc0 qt0 qd0 qs0 qf0 qw0 rowCount anyKept (oSheets C qs0 qs1 qs2 qs3 qs4 qs5 qs6 qs7 qs8 (va_up sheets 1 v16) []))) (va_runV (As := [.int (-1), .int 0]) (rest := []) ⟨hx, hb, hml, hown, hts⟩ (c_X2_become l E D C qs3 qs4 H.size N (sheets 1) (-1) 0 v16 h17) (cwV 2 hts gX5_sheet_X2_become rfl rfl rfl hdX2_become ⟨Nat.le_of_ble_eq_true rfl, Nat.le_of_ble_eq_true rfl⟩) (kpreV hP hD hK hS hE hA [4, 5] rfl rfl 4 rfl rfl rfl) rfl rfl hl.1 rfl (lv_room (Nat.le_of_ble_eq_true rfl)) dX5_sheet_31 ⟨Nat.zero_le _, Nat.zero_le _⟩) hP hD hS hA [4, 5] rfl rfl rfl (fun H locs hP hD hS => ?_)
            refine lv_iconst (v := 1) hx hb dX5_sheet_34 rfl ?_
            cases hf
            exact kri hQ hAe hx hb hr hlocks hP hD hK hS dX5_sheet_35
          · rw [e4_15] at eo14
            subst eo14
            try rw [e4_15] at hf
            refine va_aldq hx hb hK hP 1 3 rfl rfl hi13 dX5_sheet_28 ?_
            rw [e4_15]
            refine lv_renV (v := .ref qs5) rfl ?_
            refine lv_iconst (v := (-1)) hx hb dX5_sheet_29 rfl ?_
            refine lv_iconst (v := 0) hx hb dX5_sheet_30 rfl ?_
            obtain ⟨v16, h17, hf⟩ := ob1_e hf
            refine kcv (Wx := (oTM q0 qn0 qk0 qr0 qc0 qt0 qd0 qs0 qf0 qw0 rowCount anyKept (oSheets C qs0 qs1 qs2 qs3 qs4 qs5 qs6 qs7 qs8 (va_up sheets 2 v16) []))) (va_runV (As := [.int (-1), .int 0]) (rest := []) ⟨hx, hb, hml, hown, hts⟩ (c_X2_become l E D C qs5 qs6 H.size N (sheets 2) (-1) 0 v16 h17) (cwV 2 hts gX5_sheet_X2_become rfl rfl rfl hdX2_become ⟨Nat.le_of_ble_eq_true rfl, Nat.le_of_ble_eq_true rfl⟩) (kpreV hP hD hK hS hE hA [6, 7] rfl rfl 6 rfl rfl rfl) rfl rfl hl.1 rfl (lv_room (Nat.le_of_ble_eq_true rfl)) dX5_sheet_31 ⟨Nat.zero_le _, Nat.zero_le _⟩) hP hD hS hA [6, 7] rfl rfl rfl (fun H locs hP hD hS => ?_)
            refine lv_iconst (v := 1) hx hb dX5_sheet_34 rfl ?_
            cases hf
            exact kri hQ hAe hx hb hr hlocks hP hD hK hS dX5_sheet_35
          · rw [e4_15] at eo14
            subst eo14
            try rw [e4_15] at hf
            refine va_aldq hx hb hK hP 1 3 rfl rfl hi13 dX5_sheet_28 ?_
            rw [e4_15]
            refine lv_renV (v := .ref qs7) rfl ?_
            refine lv_iconst (v := (-1)) hx hb dX5_sheet_29 rfl ?_
            refine lv_iconst (v := 0) hx hb dX5_sheet_30 rfl ?_
            obtain ⟨v16, h17, hf⟩ := ob1_e hf
            refine kcv (Wx := (oTM q0 qn0 qk0 qr0 qc0 qt0 qd0 qs0 qf0 qw0 rowCount anyKept (oSheets C qs0 qs1 qs2 qs3 qs4 qs5 qs6 qs7 qs8 (va_up sheets 3 v16) []))) (va_runV (As := [.int (-1), .int 0]) (rest := []) ⟨hx, hb, hml, hown, hts⟩ (c_X2_become l E D C qs7 qs8 H.size N (sheets 3) (-1) 0 v16 h17) (cwV 2 hts gX5_sheet_X2_become rfl rfl rfl hdX2_become ⟨Nat.le_of_ble_eq_true rfl, Nat.le_of_ble_eq_true rfl⟩) (kpreV hP hD hK hS hE hA [8, 9] rfl rfl 8 rfl rfl rfl) rfl rfl hl.1 rfl (lv_room (Nat.le_of_ble_eq_true rfl)) dX5_sheet_31 ⟨Nat.zero_le _, Nat.zero_le _⟩) hP hD hS hA [8, 9] rfl rfl rfl (fun H locs hP hD hS => ?_)
            refine lv_iconst (v := 1) hx hb dX5_sheet_34 rfl ?_
            cases hf
            exact kri hQ hAe hx hb hr hlocks hP hD hK hS dX5_sheet_35
      · replace hf := if_te c4 hf
        refine lv_iconst (v := (-1)) hx hb dX5_sheet_16 rfl ?_
        cases hf
        exact kri hQ hAe hx hb hr hlocks hP hD hK hS dX5_sheet_17
  exact main _ _ hP hD hS

def rmX5_put : Room := { frames := 2, cells := 0, slots := 0, locals := 42 }
theorem hdX5_put : yX5_put.cls = RX5 ∧ yX5_put.cls ≠ "java/lang/invoke/MethodHandle" ∧ yX5_put.cls ≠ "java/lang/invoke/VarHandle" ∧ (parseMethodDescriptor yX5_put.desc).map (fun d => d.parameters.length) = some 3 := by decide +kernel
set_option maxHeartbeats 40000000 in
set_option maxRecDepth 100000 in
theorem c_X5_put (l : Launch) (E : Nat → Nat) (D : va_G) (C : Nat → ClassId) (q0 qn0 qk0 qr0 qc0 qt0 qd0 qs0 qf0 qw0 qs1 qs2 qs3 qs4 qs5 qs6 qs7 qs8 : Nat) (sz : Nat) (rowCount : Int32) (anyKept : Int32) (sheets : Nat → HV) (x0 : Int32) (x1 : Int32) (x2 : Int32) (r : Int32) (sheets' : Nat → HV) (hf : f_X5_put sheets x0 x1 x2 = some (r, sheets')) : Met l yX5_put wsX5_put rmX5_put (PC E D C [.ref q0, .int x0, .int x1, .int x2] (oTM q0 qn0 qk0 qr0 qc0 qt0 qd0 qs0 qf0 qw0 rowCount anyKept (oSheets C qs0 qs1 qs2 qs3 qs4 qs5 qs6 qs7 qs8 sheets [])) sz) (QI D C (oTM q0 qn0 qk0 qr0 qc0 qt0 qd0 qs0 qf0 qw0 rowCount anyKept (oSheets C qs0 qs1 qs2 qs3 qs4 qs5 qs6 qs7 qs8 sheets [])) (oTM q0 qn0 qk0 qr0 qc0 qt0 qd0 qs0 qf0 qw0 rowCount anyKept (oSheets C qs0 qs1 qs2 qs3 qs4 qs5 qs6 qs7 qs8 (sheets') [])) sz r) 0 0 (va_A (oTM q0 qn0 qk0 qr0 qc0 qt0 qd0 qs0 qf0 qw0 rowCount anyKept (oSheets C qs0 qs1 qs2 qs3 qs4 qs5 qs6 qs7 qs8 sheets [])) sz) := by
  refine Met.ofW (cc := cX5_put) (maxL := 5) (ret := (some .int)) (by decide) rfl ?_
  intro p e s m args below meth c s₁ B hml hv
  obtain ⟨rfl, hsz, hP, hK, hD0, hE⟩ := hv
  have hx := B.exec
  have hb := B.bytes
  have hr := B.returns
  have hts := atoms_spec (ws := wsX5_put) B.pre
  have hown : s.vm.findClass RX5 = some m.cls := findClass_of_methodNamed B.named
  have hlocks := B.notSynchronized
  subst hsz
  have hi_RX2 : ∀ w ∈ wsX20, w ∈ wsX5_put := fun _ h => List.mem_cons_of_mem _ (List.mem_append_right _ h)
  have hi_RX5 : ∀ w ∈ wsX50, w ∈ wsX5_put := fun _ h => List.mem_cons_of_mem _ (List.mem_append_left _ (List.mem_append_right _ h))
  have hD := hD0.self (sz := s.heap.size)
  obtain ⟨A, hAe⟩ := nm_ex (va_A (oTM q0 qn0 qk0 qr0 qc0 qt0 qd0 qs0 qf0 qw0 rowCount anyKept (oSheets C qs0 qs1 qs2 qs3 qs4 qs5 qs6 qs7 qs8 sheets [])) s.heap.size)
  rw [← hAe] at hD hE ⊢
  have hA : ∀ q : Nat, s.heap.size ≤ q → A q := fun q h => by rw [hAe]; exact Or.inr h
  have hS : va_S A s.heap s.heap [] := va_S.rf
  have hl := lv_entry ([.ref q0, .int x0, .int x1, .int x2]) (n := 5) (Nat.le_of_ble_eq_true rfl)
  rw [lg_entry_eq]
  generalize (lg_sl ([.ref q0, .int x0, .int x1, .int x2]) ++ List.replicate (5 - (lg_sl ([.ref q0, .int x0, .int x1, .int x2])).length) Slot.unset).toArray = ls at hl ⊢
  have hl : lv_has ls 5 [(0, .ref q0), (1, .int x0), (2, .int x1), (3, .int x2)] := hl
  obtain ⟨Q, hQ⟩ := nm_ex (MQ below (QI D C (oTM q0 qn0 qk0 qr0 qc0 qt0 qd0 qs0 qf0 qw0 rowCount anyKept (oSheets C qs0 qs1 qs2 qs3 qs4 qs5 qs6 qs7 qs8 sheets [])) (oTM q0 qn0 qk0 qr0 qc0 qt0 qd0 qs0 qf0 qw0 rowCount anyKept (oSheets C qs0 qs1 qs2 qs3 qs4 qs5 qs6 qs7 qs8 (sheets') [])) s.heap.size r) (List.toArray [Value.ref q0, Value.int x0, Value.int x1, Value.int x2]) s 0 0 A)
  show W p l e (headSpec wsX5_put (rmX5_put)).room s m (List.toArray [Value.ref q0, Value.int x0, Value.int x1, Value.int x2]) below meth c s.heap [] 0 0 (MQ below (QI D C (oTM q0 qn0 qk0 qr0 qc0 qt0 qd0 qs0 qf0 qw0 rowCount anyKept (oSheets C qs0 qs1 qs2 qs3 qs4 qs5 qs6 qs7 qs8 sheets [])) (oTM q0 qn0 qk0 qr0 qc0 qt0 qd0 qs0 qf0 qw0 rowCount anyKept (oSheets C qs0 qs1 qs2 qs3 qs4 qs5 qs6 qs7 qs8 (sheets') [])) s.heap.size r) (List.toArray [Value.ref q0, Value.int x0, Value.int x1, Value.int x2]) s 0 0 A) _
  rw [← hQ]
  unfold f_X5_put at hf
  have main : ∀ (H : Heap) (locs : List Loc), va_P D vwCl (oTM q0 qn0 qk0 qr0 qc0 qt0 qd0 qs0 qf0 qw0 rowCount anyKept (oSheets C qs0 qs1 qs2 qs3 qs4 qs5 qs6 qs7 qs8 sheets [])) H → va_D A (oTM q0 qn0 qk0 qr0 qc0 qt0 qd0 qs0 qf0 qw0 rowCount anyKept (oSheets C qs0 qs1 qs2 qs3 qs4 qs5 qs6 qs7 qs8 sheets [])) → va_S A s.heap H locs → W p l e (headSpec wsX5_put (rmX5_put)).room s m (List.toArray [Value.ref q0, Value.int x0, Value.int x1, Value.int x2]) below meth c H locs 0 0 Q (F0 m 0 ls []) := by
    intro H locs hP hD hS
    refine lv_iload_n hx hb dX5_put_0 rfl (lv_at hl 1 rfl) ?_
    refine kcz (Wx := (oTM q0 qn0 qk0 qr0 qc0 qt0 qd0 qs0 qf0 qw0 rowCount anyKept (oSheets C qs0 qs1 qs2 qs3 qs4 qs5 qs6 qs7 qs8 sheets []))) (va_runS (As := [.int x0]) (rest := []) ⟨hx, hb, hml, hown, hts⟩ (c_X5_isSheet l E D C H.size x0 _ rfl) (va_cwS 1 hts gX5_put_X5_isSheet rfl rfl rfl hdX5_isSheet ⟨Nat.le_of_ble_eq_true rfl, Nat.le_of_ble_eq_true rfl⟩) (kpre hP hD hK hS hE hA [] rfl rfl) rfl rfl hl.1 rfl (lv_room (Nat.le_of_ble_eq_true rfl)) dX5_put_1 ⟨Nat.zero_le _, Nat.zero_le _⟩) hP hD hS hA [] rfl rfl rfl (fun H locs hz1 hP hD hS => ?_)
    refine lv_if_ne (tgt := 9) hx hb dX5_put_4 (by decide) (fun c2 => ?_) (fun c2 => ?_)
    · replace hf := if_fe c2 hf
      refine lv_aload_n hx hb dX5_put_9 rfl (lv_at hl 0 rfl) ?_
      refine va_get (D := D) (ci := 5) (v := .ref qs0) (C := RX5) (T := TX5) (N := 11) hx hb hts hi_RX5 hown hK hP 0 rfl rfl 6 (by decide) (hts (.fieldLink RX5 41 "TravelMarks" "sheets" "[LTravelMarks$Sheet;") (List.mem_of_getElem? (i := 1) rfl)) (fun _ h9 => h9) rfl dX5_put_10 ?_
      refine lv_iload_n hx hb dX5_put_13 rfl (lv_at hl 1 rfl) ?_
      obtain ⟨hi3, hf⟩ := ckA_e hf
      obtain ⟨o4, eo4, hf⟩ := lj_e hf
      rcases four hi3 with e4_5 | e4_5 | e4_5 | e4_5
      · rw [e4_5] at eo4
        subst eo4
        try rw [e4_5] at hf
        refine va_aldq hx hb hK hP 1 3 rfl rfl hi3 dX5_put_14 ?_
        rw [e4_5]
        refine lv_renV (v := .ref qs1) rfl ?_
        refine lv_astore (lv' := [(4, .ref qs1), (0, .ref q0), (1, .int x0), (2, .int x1), (3, .int x2)]) hx hb dX5_put_15 hl (by decide) rfl (fun ls hl => ?_)
        refine lv_aload hx hb dX5_put_17 (lv_at hl 0 rfl) ?_
        refine va_get (D := D) (ci := 2) (v := .int (shSort (sheets 0))) (C := RX2) (T := TX2) (N := 3) hx hb hts hi_RX2 hown hK hP 2 rfl rfl 1 (by decide) (hts (.fieldLink RX5 212 "TravelMarks$Sheet" "sort" "I") (List.mem_of_getElem? (i := 2) rfl)) (fun _ h9 => h9) rfl dX5_put_19 ?_
        refine lv_iconst (v := (-1)) hx hb dX5_put_22 rfl ?_
        refine lv_icmp_ne (tgt := 29) hx hb dX5_put_23 (by decide) (fun c6 => ?_) (fun c6 => ?_)
        · replace hf := if_fe c6 hf
          refine lv_iload_n hx hb dX5_put_29 rfl (lv_at hl 3 rfl) ?_
          refine lv_iconst (v := 0) hx hb dX5_put_30 rfl ?_
          refine lv_aload hx hb dX5_put_31 (lv_at hl 0 rfl) ?_
          refine va_get (D := D) (ci := 2) (v := .int (shSize (sheets 0))) (C := RX2) (T := TX2) (N := 3) hx hb hts hi_RX2 hown hK hP 2 rfl rfl 2 (by decide) (hts (.fieldLink RX5 219 "TravelMarks$Sheet" "size" "I") (List.mem_of_getElem? (i := 3) rfl)) (fun _ h9 => h9) rfl dX5_put_33 ?_
          refine lv_iconst (v := 1) hx hb dX5_put_36 rfl ?_
          refine lv_isub hx hb dX5_put_37 ?_
          refine kcz (Wx := (oTM q0 qn0 qk0 qr0 qc0 qt0 qd0 qs0 qf0 qw0 rowCount anyKept (oSheets C qs0 qs1 qs2 qs3 qs4 qs5 qs6 qs7 qs8 sheets []))) (va_runS (As := [.int x1, .int 0, .int ((shSize (sheets 0)) - 1)]) (rest := []) ⟨hx, hb, hml, hown, hts⟩ (c_X5_within l E D C H.size x1 0 ((shSize (sheets 0)) - 1) _ rfl) (va_cwS 3 hts gX5_put_X5_within rfl rfl rfl hdX5_within ⟨Nat.le_of_ble_eq_true rfl, Nat.le_of_ble_eq_true rfl⟩) (kpre hP hD hK hS hE hA [] rfl rfl) rfl rfl hl.1 rfl (lv_room (Nat.le_of_ble_eq_true rfl)) dX5_put_38 ⟨Nat.zero_le _, Nat.zero_le _⟩) hP hD hS hA [] rfl rfl rfl (fun H locs hz7 hP hD hS => ?_)
          refine lv_if_ne (tgt := 47) hx hb dX5_put_41 (by decide) (fun c8 => ?_) (fun c8 => ?_)
          · replace hf := if_fe c8 hf
            refine lv_aload hx hb dX5_put_47 (lv_at hl 0 rfl) ?_
            refine va_get (D := D) (ci := 2) (v := .ref qs2) (C := RX2) (T := TX2) (N := 3) hx hb hts hi_RX2 hown hK hP 2 rfl rfl 0 (by decide) (hts (.fieldLink RX5 222 "TravelMarks$Sheet" "items" "[J") (List.mem_of_getElem? (i := 4) rfl)) (fun _ h9 => h9) rfl dX5_put_49 ?_
            refine lv_iload_n hx hb dX5_put_52 rfl (lv_at hl 3 rfl) ?_
            refine lv_aload hx hb dX5_put_53 (lv_at hl 0 rfl) ?_
            refine lv_iload_n hx hb dX5_put_55 rfl (lv_at hl 4 rfl) ?_
            refine kcl (Wx := (oTM q0 qn0 qk0 qr0 qc0 qt0 qd0 qs0 qf0 qw0 rowCount anyKept (oSheets C qs0 qs1 qs2 qs3 qs4 qs5 qs6 qs7 qs8 sheets []))) (va_runV (As := [.int x2]) (rest := [.int x1, .ref qs2]) ⟨hx, hb, hml, hown, hts⟩ (c_X2_narrowed l E D C qs1 qs2 H.size (sheets 0) x2 _ rfl) (cwV 1 hts gX5_put_X2_narrowed rfl rfl rfl hdX2_narrowed ⟨Nat.le_of_ble_eq_true rfl, Nat.le_of_ble_eq_true rfl⟩) (kpreV hP hD hK hS hE hA [2, 3] rfl rfl 2 rfl rfl rfl) rfl rfl hl.1 rfl (lv_room (Nat.le_of_ble_eq_true rfl)) dX5_put_56 ⟨Nat.zero_le _, Nat.zero_le _⟩) hP hD hS hA [2, 3] rfl rfl rfl (fun H locs hP hD hS => ?_)
            obtain ⟨t9, et9, hf⟩ := lj_e hf
            refine lv_renL et9 ?_
            obtain ⟨hi10, hf⟩ := ckA_e hf
            refine va_last hx hb hK hP hD hS 3 2 rfl rfl hi10 dX5_put_59 (fun H locs hP hD hS => ?_)
            have hP : va_P D vwCl (oTM q0 qn0 qk0 qr0 qc0 qt0 qd0 qs0 qf0 qw0 rowCount anyKept (oSheets C qs0 qs1 qs2 qs3 qs4 qs5 qs6 qs7 qs8 (va_up sheets 0 (shSetItems (sheets 0) (vp_updL (shItems (sheets 0)) (Int32.toNatClampNeg x1) t9))) [])) H := hP
            have hD : va_D A (oTM q0 qn0 qk0 qr0 qc0 qt0 qd0 qs0 qf0 qw0 rowCount anyKept (oSheets C qs0 qs1 qs2 qs3 qs4 qs5 qs6 qs7 qs8 (va_up sheets 0 (shSetItems (sheets 0) (vp_updL (shItems (sheets 0)) (Int32.toNatClampNeg x1) t9))) [])) := hD
            refine lv_iconst (v := 1) hx hb dX5_put_60 rfl ?_
            cases hf
            exact kri hQ hAe hx hb hr hlocks hP hD hK hS dX5_put_61
          · replace hf := if_te c8 hf
            refine lv_bipush (v := (-12)) hx hb dX5_put_44 rfl ?_
            cases hf
            exact kri hQ hAe hx hb hr hlocks hP hD hK hS dX5_put_46
        · replace hf := if_te c6 hf
          refine lv_bipush (v := (-11)) hx hb dX5_put_26 rfl ?_
          cases hf
          exact kri hQ hAe hx hb hr hlocks hP hD hK hS dX5_put_28
      · rw [e4_5] at eo4
        subst eo4
        try rw [e4_5] at hf
        refine va_aldq hx hb hK hP 1 3 rfl rfl hi3 dX5_put_14 ?_
        rw [e4_5]
        refine lv_renV (v := .ref qs3) rfl ?_
        refine lv_astore (lv' := [(4, .ref qs3), (0, .ref q0), (1, .int x0), (2, .int x1), (3, .int x2)]) hx hb dX5_put_15 hl (by decide) rfl (fun ls hl => ?_)
        refine lv_aload hx hb dX5_put_17 (lv_at hl 0 rfl) ?_
        refine va_get (D := D) (ci := 2) (v := .int (shSort (sheets 1))) (C := RX2) (T := TX2) (N := 3) hx hb hts hi_RX2 hown hK hP 4 rfl rfl 1 (by decide) (hts (.fieldLink RX5 212 "TravelMarks$Sheet" "sort" "I") (List.mem_of_getElem? (i := 2) rfl)) (fun _ h9 => h9) rfl dX5_put_19 ?_
        refine lv_iconst (v := (-1)) hx hb dX5_put_22 rfl ?_
        refine lv_icmp_ne (tgt := 29) hx hb dX5_put_23 (by decide) (fun c6 => ?_) (fun c6 => ?_)
        · replace hf := if_fe c6 hf
          refine lv_iload_n hx hb dX5_put_29 rfl (lv_at hl 3 rfl) ?_
          refine lv_iconst (v := 0) hx hb dX5_put_30 rfl ?_
          refine lv_aload hx hb dX5_put_31 (lv_at hl 0 rfl) ?_
          refine va_get (D := D) (ci := 2) (v := .int (shSize (sheets 1))) (C := RX2) (T := TX2) (N := 3) hx hb hts hi_RX2 hown hK hP 4 rfl rfl 2 (by decide) (hts (.fieldLink RX5 219 "TravelMarks$Sheet" "size" "I") (List.mem_of_getElem? (i := 3) rfl)) (fun _ h9 => h9) rfl dX5_put_33 ?_
          refine lv_iconst (v := 1) hx hb dX5_put_36 rfl ?_
          refine lv_isub hx hb dX5_put_37 ?_
          refine kcz (Wx := (oTM q0 qn0 qk0 qr0 qc0 qt0 qd0 qs0 qf0 qw0 rowCount anyKept (oSheets C qs0 qs1 qs2 qs3 qs4 qs5 qs6 qs7 qs8 sheets []))) (va_runS (As := [.int x1, .int 0, .int ((shSize (sheets 1)) - 1)]) (rest := []) ⟨hx, hb, hml, hown, hts⟩ (c_X5_within l E D C H.size x1 0 ((shSize (sheets 1)) - 1) _ rfl) (va_cwS 3 hts gX5_put_X5_within rfl rfl rfl hdX5_within ⟨Nat.le_of_ble_eq_true rfl, Nat.le_of_ble_eq_true rfl⟩) (kpre hP hD hK hS hE hA [] rfl rfl) rfl rfl hl.1 rfl (lv_room (Nat.le_of_ble_eq_true rfl)) dX5_put_38 ⟨Nat.zero_le _, Nat.zero_le _⟩) hP hD hS hA [] rfl rfl rfl (fun H locs hz7 hP hD hS => ?_)
          refine lv_if_ne (tgt := 47) hx hb dX5_put_41 (by decide) (fun c8 => ?_) (fun c8 => ?_)
          · replace hf := if_fe c8 hf
            refine lv_aload hx hb dX5_put_47 (lv_at hl 0 rfl) ?_
            refine va_get (D := D) (ci := 2) (v := .ref qs4) (C := RX2) (T := TX2) (N := 3) hx hb hts hi_RX2 hown hK hP 4 rfl rfl 0 (by decide) (hts (.fieldLink RX5 222 "TravelMarks$Sheet" "items" "[J") (List.mem_of_getElem? (i := 4) rfl)) (fun _ h9 => h9) rfl dX5_put_49 ?_
            refine lv_iload_n hx hb dX5_put_52 rfl (lv_at hl 3 rfl) ?_
            refine lv_aload hx hb dX5_put_53 (lv_at hl 0 rfl) ?_
            refine lv_iload_n hx hb dX5_put_55 rfl (lv_at hl 4 rfl) ?_
            refine kcl (Wx := (oTM q0 qn0 qk0 qr0 qc0 qt0 qd0 qs0 qf0 qw0 rowCount anyKept (oSheets C qs0 qs1 qs2 qs3 qs4 qs5 qs6 qs7 qs8 sheets []))) (va_runV (As := [.int x2]) (rest := [.int x1, .ref qs4]) ⟨hx, hb, hml, hown, hts⟩ (c_X2_narrowed l E D C qs3 qs4 H.size (sheets 1) x2 _ rfl) (cwV 1 hts gX5_put_X2_narrowed rfl rfl rfl hdX2_narrowed ⟨Nat.le_of_ble_eq_true rfl, Nat.le_of_ble_eq_true rfl⟩) (kpreV hP hD hK hS hE hA [4, 5] rfl rfl 4 rfl rfl rfl) rfl rfl hl.1 rfl (lv_room (Nat.le_of_ble_eq_true rfl)) dX5_put_56 ⟨Nat.zero_le _, Nat.zero_le _⟩) hP hD hS hA [4, 5] rfl rfl rfl (fun H locs hP hD hS => ?_)
            obtain ⟨t9, et9, hf⟩ := lj_e hf
            refine lv_renL et9 ?_
            obtain ⟨hi10, hf⟩ := ckA_e hf
            refine va_last hx hb hK hP hD hS 5 2 rfl rfl hi10 dX5_put_59 (fun H locs hP hD hS => ?_)
            have hP : va_P D vwCl (oTM q0 qn0 qk0 qr0 qc0 qt0 qd0 qs0 qf0 qw0 rowCount anyKept (oSheets C qs0 qs1 qs2 qs3 qs4 qs5 qs6 qs7 qs8 (va_up sheets 1 (shSetItems (sheets 1) (vp_updL (shItems (sheets 1)) (Int32.toNatClampNeg x1) t9))) [])) H := hP
            have hD : va_D A (oTM q0 qn0 qk0 qr0 qc0 qt0 qd0 qs0 qf0 qw0 rowCount anyKept (oSheets C qs0 qs1 qs2 qs3 qs4 qs5 qs6 qs7 qs8 (va_up sheets 1 (shSetItems (sheets 1) (vp_updL (shItems (sheets 1)) (Int32.toNatClampNeg x1) t9))) [])) := hD
            refine lv_iconst (v := 1) hx hb dX5_put_60 rfl ?_
            cases hf
            exact kri hQ hAe hx hb hr hlocks hP hD hK hS dX5_put_61
          · replace hf := if_te c8 hf
            refine lv_bipush (v := (-12)) hx hb dX5_put_44 rfl ?_
            cases hf
            exact kri hQ hAe hx hb hr hlocks hP hD hK hS dX5_put_46
        · replace hf := if_te c6 hf
          refine lv_bipush (v := (-11)) hx hb dX5_put_26 rfl ?_
          cases hf
          exact kri hQ hAe hx hb hr hlocks hP hD hK hS dX5_put_28
      · rw [e4_5] at eo4
        subst eo4
        try rw [e4_5] at hf
        refine va_aldq hx hb hK hP 1 3 rfl rfl hi3 dX5_put_14 ?_
        rw [e4_5]
        refine lv_renV (v := .ref qs5) rfl ?_
        refine lv_astore (lv' := [(4, .ref qs5), (0, .ref q0), (1, .int x0), (2, .int x1), (3, .int x2)]) hx hb dX5_put_15 hl (by decide) rfl (fun ls hl => ?_)
        refine lv_aload hx hb dX5_put_17 (lv_at hl 0 rfl) ?_
        refine va_get (D := D) (ci := 2) (v := .int (shSort (sheets 2))) (C := RX2) (T := TX2) (N := 3) hx hb hts hi_RX2 hown hK hP 6 rfl rfl 1 (by decide) (hts (.fieldLink RX5 212 "TravelMarks$Sheet" "sort" "I") (List.mem_of_getElem? (i := 2) rfl)) (fun _ h9 => h9) rfl dX5_put_19 ?_
        refine lv_iconst (v := (-1)) hx hb dX5_put_22 rfl ?_
        refine lv_icmp_ne (tgt := 29) hx hb dX5_put_23 (by decide) (fun c6 => ?_) (fun c6 => ?_)
        · replace hf := if_fe c6 hf
          refine lv_iload_n hx hb dX5_put_29 rfl (lv_at hl 3 rfl) ?_
          refine lv_iconst (v := 0) hx hb dX5_put_30 rfl ?_
          refine lv_aload hx hb dX5_put_31 (lv_at hl 0 rfl) ?_
          refine va_get (D := D) (ci := 2) (v := .int (shSize (sheets 2))) (C := RX2) (T := TX2) (N := 3) hx hb hts hi_RX2 hown hK hP 6 rfl rfl 2 (by decide) (hts (.fieldLink RX5 219 "TravelMarks$Sheet" "size" "I") (List.mem_of_getElem? (i := 3) rfl)) (fun _ h9 => h9) rfl dX5_put_33 ?_
          refine lv_iconst (v := 1) hx hb dX5_put_36 rfl ?_
          refine lv_isub hx hb dX5_put_37 ?_
          refine kcz (Wx := (oTM q0 qn0 qk0 qr0 qc0 qt0 qd0 qs0 qf0 qw0 rowCount anyKept (oSheets C qs0 qs1 qs2 qs3 qs4 qs5 qs6 qs7 qs8 sheets []))) (va_runS (As := [.int x1, .int 0, .int ((shSize (sheets 2)) - 1)]) (rest := []) ⟨hx, hb, hml, hown, hts⟩ (c_X5_within l E D C H.size x1 0 ((shSize (sheets 2)) - 1) _ rfl) (va_cwS 3 hts gX5_put_X5_within rfl rfl rfl hdX5_within ⟨Nat.le_of_ble_eq_true rfl, Nat.le_of_ble_eq_true rfl⟩) (kpre hP hD hK hS hE hA [] rfl rfl) rfl rfl hl.1 rfl (lv_room (Nat.le_of_ble_eq_true rfl)) dX5_put_38 ⟨Nat.zero_le _, Nat.zero_le _⟩) hP hD hS hA [] rfl rfl rfl (fun H locs hz7 hP hD hS => ?_)
          refine lv_if_ne (tgt := 47) hx hb dX5_put_41 (by decide) (fun c8 => ?_) (fun c8 => ?_)
          · replace hf := if_fe c8 hf
            refine lv_aload hx hb dX5_put_47 (lv_at hl 0 rfl) ?_
            refine va_get (D := D) (ci := 2) (v := .ref qs6) (C := RX2) (T := TX2) (N := 3) hx hb hts hi_RX2 hown hK hP 6 rfl rfl 0 (by decide) (hts (.fieldLink RX5 222 "TravelMarks$Sheet" "items" "[J") (List.mem_of_getElem? (i := 4) rfl)) (fun _ h9 => h9) rfl dX5_put_49 ?_
            refine lv_iload_n hx hb dX5_put_52 rfl (lv_at hl 3 rfl) ?_
            refine lv_aload hx hb dX5_put_53 (lv_at hl 0 rfl) ?_
            refine lv_iload_n hx hb dX5_put_55 rfl (lv_at hl 4 rfl) ?_
            refine kcl (Wx := (oTM q0 qn0 qk0 qr0 qc0 qt0 qd0 qs0 qf0 qw0 rowCount anyKept (oSheets C qs0 qs1 qs2 qs3 qs4 qs5 qs6 qs7 qs8 sheets []))) (va_runV (As := [.int x2]) (rest := [.int x1, .ref qs6]) ⟨hx, hb, hml, hown, hts⟩ (c_X2_narrowed l E D C qs5 qs6 H.size (sheets 2) x2 _ rfl) (cwV 1 hts gX5_put_X2_narrowed rfl rfl rfl hdX2_narrowed ⟨Nat.le_of_ble_eq_true rfl, Nat.le_of_ble_eq_true rfl⟩) (kpreV hP hD hK hS hE hA [6, 7] rfl rfl 6 rfl rfl rfl) rfl rfl hl.1 rfl (lv_room (Nat.le_of_ble_eq_true rfl)) dX5_put_56 ⟨Nat.zero_le _, Nat.zero_le _⟩) hP hD hS hA [6, 7] rfl rfl rfl (fun H locs hP hD hS => ?_)
            obtain ⟨t9, et9, hf⟩ := lj_e hf
            refine lv_renL et9 ?_
            obtain ⟨hi10, hf⟩ := ckA_e hf
            refine va_last hx hb hK hP hD hS 7 2 rfl rfl hi10 dX5_put_59 (fun H locs hP hD hS => ?_)
            have hP : va_P D vwCl (oTM q0 qn0 qk0 qr0 qc0 qt0 qd0 qs0 qf0 qw0 rowCount anyKept (oSheets C qs0 qs1 qs2 qs3 qs4 qs5 qs6 qs7 qs8 (va_up sheets 2 (shSetItems (sheets 2) (vp_updL (shItems (sheets 2)) (Int32.toNatClampNeg x1) t9))) [])) H := hP
            have hD : va_D A (oTM q0 qn0 qk0 qr0 qc0 qt0 qd0 qs0 qf0 qw0 rowCount anyKept (oSheets C qs0 qs1 qs2 qs3 qs4 qs5 qs6 qs7 qs8 (va_up sheets 2 (shSetItems (sheets 2) (vp_updL (shItems (sheets 2)) (Int32.toNatClampNeg x1) t9))) [])) := hD
            refine lv_iconst (v := 1) hx hb dX5_put_60 rfl ?_
            cases hf
            exact kri hQ hAe hx hb hr hlocks hP hD hK hS dX5_put_61
          · replace hf := if_te c8 hf
            refine lv_bipush (v := (-12)) hx hb dX5_put_44 rfl ?_
            cases hf
            exact kri hQ hAe hx hb hr hlocks hP hD hK hS dX5_put_46
        · replace hf := if_te c6 hf
          refine lv_bipush (v := (-11)) hx hb dX5_put_26 rfl ?_
          cases hf
          exact kri hQ hAe hx hb hr hlocks hP hD hK hS dX5_put_28
      · rw [e4_5] at eo4
        subst eo4
        try rw [e4_5] at hf
        refine va_aldq hx hb hK hP 1 3 rfl rfl hi3 dX5_put_14 ?_
        rw [e4_5]
        refine lv_renV (v := .ref qs7) rfl ?_
        refine lv_astore (lv' := [(4, .ref qs7), (0, .ref q0), (1, .int x0), (2, .int x1), (3, .int x2)]) hx hb dX5_put_15 hl (by decide) rfl (fun ls hl => ?_)
        refine lv_aload hx hb dX5_put_17 (lv_at hl 0 rfl) ?_
        refine va_get (D := D) (ci := 2) (v := .int (shSort (sheets 3))) (C := RX2) (T := TX2) (N := 3) hx hb hts hi_RX2 hown hK hP 8 rfl rfl 1 (by decide) (hts (.fieldLink RX5 212 "TravelMarks$Sheet" "sort" "I") (List.mem_of_getElem? (i := 2) rfl)) (fun _ h9 => h9) rfl dX5_put_19 ?_
        refine lv_iconst (v := (-1)) hx hb dX5_put_22 rfl ?_
        refine lv_icmp_ne (tgt := 29) hx hb dX5_put_23 (by decide) (fun c6 => ?_) (fun c6 => ?_)
        · replace hf := if_fe c6 hf
          refine lv_iload_n hx hb dX5_put_29 rfl (lv_at hl 3 rfl) ?_
          refine lv_iconst (v := 0) hx hb dX5_put_30 rfl ?_
          refine lv_aload hx hb dX5_put_31 (lv_at hl 0 rfl) ?_
          refine va_get (D := D) (ci := 2) (v := .int (shSize (sheets 3))) (C := RX2) (T := TX2) (N := 3) hx hb hts hi_RX2 hown hK hP 8 rfl rfl 2 (by decide) (hts (.fieldLink RX5 219 "TravelMarks$Sheet" "size" "I") (List.mem_of_getElem? (i := 3) rfl)) (fun _ h9 => h9) rfl dX5_put_33 ?_
          refine lv_iconst (v := 1) hx hb dX5_put_36 rfl ?_
          refine lv_isub hx hb dX5_put_37 ?_
          refine kcz (Wx := (oTM q0 qn0 qk0 qr0 qc0 qt0 qd0 qs0 qf0 qw0 rowCount anyKept (oSheets C qs0 qs1 qs2 qs3 qs4 qs5 qs6 qs7 qs8 sheets []))) (va_runS (As := [.int x1, .int 0, .int ((shSize (sheets 3)) - 1)]) (rest := []) ⟨hx, hb, hml, hown, hts⟩ (c_X5_within l E D C H.size x1 0 ((shSize (sheets 3)) - 1) _ rfl) (va_cwS 3 hts gX5_put_X5_within rfl rfl rfl hdX5_within ⟨Nat.le_of_ble_eq_true rfl, Nat.le_of_ble_eq_true rfl⟩) (kpre hP hD hK hS hE hA [] rfl rfl) rfl rfl hl.1 rfl (lv_room (Nat.le_of_ble_eq_true rfl)) dX5_put_38 ⟨Nat.zero_le _, Nat.zero_le _⟩) hP hD hS hA [] rfl rfl rfl (fun H locs hz7 hP hD hS => ?_)
          refine lv_if_ne (tgt := 47) hx hb dX5_put_41 (by decide) (fun c8 => ?_) (fun c8 => ?_)
          · replace hf := if_fe c8 hf
            refine lv_aload hx hb dX5_put_47 (lv_at hl 0 rfl) ?_
            refine va_get (D := D) (ci := 2) (v := .ref qs8) (C := RX2) (T := TX2) (N := 3) hx hb hts hi_RX2 hown hK hP 8 rfl rfl 0 (by decide) (hts (.fieldLink RX5 222 "TravelMarks$Sheet" "items" "[J") (List.mem_of_getElem? (i := 4) rfl)) (fun _ h9 => h9) rfl dX5_put_49 ?_
            refine lv_iload_n hx hb dX5_put_52 rfl (lv_at hl 3 rfl) ?_
            refine lv_aload hx hb dX5_put_53 (lv_at hl 0 rfl) ?_
            refine lv_iload_n hx hb dX5_put_55 rfl (lv_at hl 4 rfl) ?_
            refine kcl (Wx := (oTM q0 qn0 qk0 qr0 qc0 qt0 qd0 qs0 qf0 qw0 rowCount anyKept (oSheets C qs0 qs1 qs2 qs3 qs4 qs5 qs6 qs7 qs8 sheets []))) (va_runV (As := [.int x2]) (rest := [.int x1, .ref qs8]) ⟨hx, hb, hml, hown, hts⟩ (c_X2_narrowed l E D C qs7 qs8 H.size (sheets 3) x2 _ rfl) (cwV 1 hts gX5_put_X2_narrowed rfl rfl rfl hdX2_narrowed ⟨Nat.le_of_ble_eq_true rfl, Nat.le_of_ble_eq_true rfl⟩) (kpreV hP hD hK hS hE hA [8, 9] rfl rfl 8 rfl rfl rfl) rfl rfl hl.1 rfl (lv_room (Nat.le_of_ble_eq_true rfl)) dX5_put_56 ⟨Nat.zero_le _, Nat.zero_le _⟩) hP hD hS hA [8, 9] rfl rfl rfl (fun H locs hP hD hS => ?_)
            obtain ⟨t9, et9, hf⟩ := lj_e hf
            refine lv_renL et9 ?_
            obtain ⟨hi10, hf⟩ := ckA_e hf
            refine va_last hx hb hK hP hD hS 9 2 rfl rfl hi10 dX5_put_59 (fun H locs hP hD hS => ?_)
            have hP : va_P D vwCl (oTM q0 qn0 qk0 qr0 qc0 qt0 qd0 qs0 qf0 qw0 rowCount anyKept (oSheets C qs0 qs1 qs2 qs3 qs4 qs5 qs6 qs7 qs8 (va_up sheets 3 (shSetItems (sheets 3) (vp_updL (shItems (sheets 3)) (Int32.toNatClampNeg x1) t9))) [])) H := hP
            have hD : va_D A (oTM q0 qn0 qk0 qr0 qc0 qt0 qd0 qs0 qf0 qw0 rowCount anyKept (oSheets C qs0 qs1 qs2 qs3 qs4 qs5 qs6 qs7 qs8 (va_up sheets 3 (shSetItems (sheets 3) (vp_updL (shItems (sheets 3)) (Int32.toNatClampNeg x1) t9))) [])) := hD
            refine lv_iconst (v := 1) hx hb dX5_put_60 rfl ?_
            cases hf
            exact kri hQ hAe hx hb hr hlocks hP hD hK hS dX5_put_61
          · replace hf := if_te c8 hf
            refine lv_bipush (v := (-12)) hx hb dX5_put_44 rfl ?_
            cases hf
            exact kri hQ hAe hx hb hr hlocks hP hD hK hS dX5_put_46
        · replace hf := if_te c6 hf
          refine lv_bipush (v := (-11)) hx hb dX5_put_26 rfl ?_
          cases hf
          exact kri hQ hAe hx hb hr hlocks hP hD hK hS dX5_put_28
    · replace hf := if_te c2 hf
      refine lv_iconst (v := (-1)) hx hb dX5_put_7 rfl ?_
      cases hf
      exact kri hQ hAe hx hb hr hlocks hP hD hK hS dX5_put_8
  exact main _ _ hP hD hS

def rmX5_item : Room := { frames := 2, cells := 0, slots := 0, locals := 42 }
theorem hdX5_item : yX5_item.cls = RX5 ∧ yX5_item.cls ≠ "java/lang/invoke/MethodHandle" ∧ yX5_item.cls ≠ "java/lang/invoke/VarHandle" ∧ (parseMethodDescriptor yX5_item.desc).map (fun d => d.parameters.length) = some 3 := by decide +kernel
set_option maxHeartbeats 40000000 in
set_option maxRecDepth 100000 in
theorem c_X5_item (l : Launch) (E : Nat → Nat) (D : va_G) (C : Nat → ClassId) (q0 qn0 qk0 qr0 qc0 qt0 qd0 qs0 qf0 qw0 qs1 qs2 qs3 qs4 qs5 qs6 qs7 qs8 : Nat) (sz : Nat) (rowCount : Int32) (anyKept : Int32) (sheets : Nat → HV) (x0 : Int32) (x1 : Int32) (x2 : Int32) (r : Int32) (hf : f_X5_item sheets x0 x1 x2 = some r) : Met l yX5_item wsX5_item rmX5_item (PC E D C [.ref q0, .int x0, .int x1, .int x2] (oTM q0 qn0 qk0 qr0 qc0 qt0 qd0 qs0 qf0 qw0 rowCount anyKept (oSheets C qs0 qs1 qs2 qs3 qs4 qs5 qs6 qs7 qs8 sheets [])) sz) (QI D C (oTM q0 qn0 qk0 qr0 qc0 qt0 qd0 qs0 qf0 qw0 rowCount anyKept (oSheets C qs0 qs1 qs2 qs3 qs4 qs5 qs6 qs7 qs8 sheets [])) (oTM q0 qn0 qk0 qr0 qc0 qt0 qd0 qs0 qf0 qw0 rowCount anyKept (oSheets C qs0 qs1 qs2 qs3 qs4 qs5 qs6 qs7 qs8 sheets [])) sz r) 0 0 (va_A (oTM q0 qn0 qk0 qr0 qc0 qt0 qd0 qs0 qf0 qw0 rowCount anyKept (oSheets C qs0 qs1 qs2 qs3 qs4 qs5 qs6 qs7 qs8 sheets [])) sz) := by
  refine Met.ofW (cc := cX5_item) (maxL := 5) (ret := (some .int)) (by decide) rfl ?_
  intro p e s m args below meth c s₁ B hml hv
  obtain ⟨rfl, hsz, hP, hK, hD0, hE⟩ := hv
  have hx := B.exec
  have hb := B.bytes
  have hr := B.returns
  have hts := atoms_spec (ws := wsX5_item) B.pre
  have hown : s.vm.findClass RX5 = some m.cls := findClass_of_methodNamed B.named
  have hlocks := B.notSynchronized
  subst hsz
  have hi_RX2 : ∀ w ∈ wsX20, w ∈ wsX5_item := fun _ h => List.mem_cons_of_mem _ (List.mem_append_right _ h)
  have hi_RX5 : ∀ w ∈ wsX50, w ∈ wsX5_item := fun _ h => List.mem_cons_of_mem _ (List.mem_append_left _ (List.mem_append_right _ h))
  have hD := hD0.self (sz := s.heap.size)
  obtain ⟨A, hAe⟩ := nm_ex (va_A (oTM q0 qn0 qk0 qr0 qc0 qt0 qd0 qs0 qf0 qw0 rowCount anyKept (oSheets C qs0 qs1 qs2 qs3 qs4 qs5 qs6 qs7 qs8 sheets [])) s.heap.size)
  rw [← hAe] at hD hE ⊢
  have hA : ∀ q : Nat, s.heap.size ≤ q → A q := fun q h => by rw [hAe]; exact Or.inr h
  have hS : va_S A s.heap s.heap [] := va_S.rf
  have hl := lv_entry ([.ref q0, .int x0, .int x1, .int x2]) (n := 5) (Nat.le_of_ble_eq_true rfl)
  rw [lg_entry_eq]
  generalize (lg_sl ([.ref q0, .int x0, .int x1, .int x2]) ++ List.replicate (5 - (lg_sl ([.ref q0, .int x0, .int x1, .int x2])).length) Slot.unset).toArray = ls at hl ⊢
  have hl : lv_has ls 5 [(0, .ref q0), (1, .int x0), (2, .int x1), (3, .int x2)] := hl
  obtain ⟨Q, hQ⟩ := nm_ex (MQ below (QI D C (oTM q0 qn0 qk0 qr0 qc0 qt0 qd0 qs0 qf0 qw0 rowCount anyKept (oSheets C qs0 qs1 qs2 qs3 qs4 qs5 qs6 qs7 qs8 sheets [])) (oTM q0 qn0 qk0 qr0 qc0 qt0 qd0 qs0 qf0 qw0 rowCount anyKept (oSheets C qs0 qs1 qs2 qs3 qs4 qs5 qs6 qs7 qs8 sheets [])) s.heap.size r) (List.toArray [Value.ref q0, Value.int x0, Value.int x1, Value.int x2]) s 0 0 A)
  show W p l e (headSpec wsX5_item (rmX5_item)).room s m (List.toArray [Value.ref q0, Value.int x0, Value.int x1, Value.int x2]) below meth c s.heap [] 0 0 (MQ below (QI D C (oTM q0 qn0 qk0 qr0 qc0 qt0 qd0 qs0 qf0 qw0 rowCount anyKept (oSheets C qs0 qs1 qs2 qs3 qs4 qs5 qs6 qs7 qs8 sheets [])) (oTM q0 qn0 qk0 qr0 qc0 qt0 qd0 qs0 qf0 qw0 rowCount anyKept (oSheets C qs0 qs1 qs2 qs3 qs4 qs5 qs6 qs7 qs8 sheets [])) s.heap.size r) (List.toArray [Value.ref q0, Value.int x0, Value.int x1, Value.int x2]) s 0 0 A) _
  rw [← hQ]
  unfold f_X5_item at hf
  have main : ∀ (H : Heap) (locs : List Loc), va_P D vwCl (oTM q0 qn0 qk0 qr0 qc0 qt0 qd0 qs0 qf0 qw0 rowCount anyKept (oSheets C qs0 qs1 qs2 qs3 qs4 qs5 qs6 qs7 qs8 sheets [])) H → va_D A (oTM q0 qn0 qk0 qr0 qc0 qt0 qd0 qs0 qf0 qw0 rowCount anyKept (oSheets C qs0 qs1 qs2 qs3 qs4 qs5 qs6 qs7 qs8 sheets [])) → va_S A s.heap H locs → W p l e (headSpec wsX5_item (rmX5_item)).room s m (List.toArray [Value.ref q0, Value.int x0, Value.int x1, Value.int x2]) below meth c H locs 0 0 Q (F0 m 0 ls []) := by
    intro H locs hP hD hS
    refine lv_iload_n hx hb dX5_item_0 rfl (lv_at hl 1 rfl) ?_
    refine kcz (Wx := (oTM q0 qn0 qk0 qr0 qc0 qt0 qd0 qs0 qf0 qw0 rowCount anyKept (oSheets C qs0 qs1 qs2 qs3 qs4 qs5 qs6 qs7 qs8 sheets []))) (va_runS (As := [.int x0]) (rest := []) ⟨hx, hb, hml, hown, hts⟩ (c_X5_isSheet l E D C H.size x0 _ rfl) (va_cwS 1 hts gX5_item_X5_isSheet rfl rfl rfl hdX5_isSheet ⟨Nat.le_of_ble_eq_true rfl, Nat.le_of_ble_eq_true rfl⟩) (kpre hP hD hK hS hE hA [] rfl rfl) rfl rfl hl.1 rfl (lv_room (Nat.le_of_ble_eq_true rfl)) dX5_item_1 ⟨Nat.zero_le _, Nat.zero_le _⟩) hP hD hS hA [] rfl rfl rfl (fun H locs hz1 hP hD hS => ?_)
    refine lv_if_eq (tgt := 16) hx hb dX5_item_4 (by decide) (fun c2 => ?_) (fun c2 => ?_)
    · replace hf := if_te c2 hf
      refine lv_iconst (v := (-1)) hx hb dX5_item_16 rfl ?_
      cases hf
      exact kri hQ hAe hx hb hr hlocks hP hD hK hS dX5_item_17
    · replace hf := if_fe c2 hf
      refine lv_iload_n hx hb dX5_item_7 rfl (lv_at hl 2 rfl) ?_
      refine lv_iconst (v := 0) hx hb dX5_item_8 rfl ?_
      refine lv_iconst (v := 3) hx hb dX5_item_9 rfl ?_
      refine kcz (Wx := (oTM q0 qn0 qk0 qr0 qc0 qt0 qd0 qs0 qf0 qw0 rowCount anyKept (oSheets C qs0 qs1 qs2 qs3 qs4 qs5 qs6 qs7 qs8 sheets []))) (va_runS (As := [.int x1, .int 0, .int 3]) (rest := []) ⟨hx, hb, hml, hown, hts⟩ (c_X5_within l E D C H.size x1 0 3 _ rfl) (va_cwS 3 hts gX5_item_X5_within rfl rfl rfl hdX5_within ⟨Nat.le_of_ble_eq_true rfl, Nat.le_of_ble_eq_true rfl⟩) (kpre hP hD hK hS hE hA [] rfl rfl) rfl rfl hl.1 rfl (lv_room (Nat.le_of_ble_eq_true rfl)) dX5_item_10 ⟨Nat.zero_le _, Nat.zero_le _⟩) hP hD hS hA [] rfl rfl rfl (fun H locs hz3 hP hD hS => ?_)
      refine lv_if_ne (tgt := 18) hx hb dX5_item_13 (by decide) (fun c4 => ?_) (fun c4 => ?_)
      · replace hf := if_fe c4 hf
        refine lv_aload_n hx hb dX5_item_18 rfl (lv_at hl 0 rfl) ?_
        refine va_get (D := D) (ci := 5) (v := .ref qs0) (C := RX5) (T := TX5) (N := 11) hx hb hts hi_RX5 hown hK hP 0 rfl rfl 6 (by decide) (hts (.fieldLink RX5 41 "TravelMarks" "sheets" "[LTravelMarks$Sheet;") (List.mem_of_getElem? (i := 1) rfl)) (fun _ h9 => h9) rfl dX5_item_19 ?_
        refine lv_iload_n hx hb dX5_item_22 rfl (lv_at hl 1 rfl) ?_
        obtain ⟨hi5, hf⟩ := ckA_e hf
        obtain ⟨o6, eo6, hf⟩ := lj_e hf
        rcases four hi5 with e4_7 | e4_7 | e4_7 | e4_7
        · rw [e4_7] at eo6
          subst eo6
          try rw [e4_7] at hf
          refine va_aldq hx hb hK hP 1 3 rfl rfl hi5 dX5_item_23 ?_
          rw [e4_7]
          refine lv_renV (v := .ref qs1) rfl ?_
          refine lv_astore (lv' := [(4, .ref qs1), (0, .ref q0), (1, .int x0), (2, .int x1), (3, .int x2)]) hx hb dX5_item_24 hl (by decide) rfl (fun ls hl => ?_)
          refine lv_aload hx hb dX5_item_26 (lv_at hl 0 rfl) ?_
          refine va_get (D := D) (ci := 2) (v := .int (shSort (sheets 0))) (C := RX2) (T := TX2) (N := 3) hx hb hts hi_RX2 hown hK hP 2 rfl rfl 1 (by decide) (hts (.fieldLink RX5 212 "TravelMarks$Sheet" "sort" "I") (List.mem_of_getElem? (i := 2) rfl)) (fun _ h9 => h9) rfl dX5_item_28 ?_
          refine lv_iconst (v := (-1)) hx hb dX5_item_31 rfl ?_
          refine lv_icmp_ne (tgt := 38) hx hb dX5_item_32 (by decide) (fun c8 => ?_) (fun c8 => ?_)
          · replace hf := if_fe c8 hf
            refine lv_aload hx hb dX5_item_38 (lv_at hl 0 rfl) ?_
            refine va_get (D := D) (ci := 2) (v := .int (shSort (sheets 0))) (C := RX2) (T := TX2) (N := 3) hx hb hts hi_RX2 hown hK hP 2 rfl rfl 1 (by decide) (hts (.fieldLink RX5 212 "TravelMarks$Sheet" "sort" "I") (List.mem_of_getElem? (i := 2) rfl)) (fun _ h9 => h9) rfl dX5_item_40 ?_
            refine lv_iload_n hx hb dX5_item_43 rfl (lv_at hl 3 rfl) ?_
            refine lv_icmp_eq (tgt := 50) hx hb dX5_item_44 (by decide) (fun c9 => ?_) (fun c9 => ?_)
            · replace hf := if_te c9 hf
              refine lv_iload_n hx hb dX5_item_50 rfl (lv_at hl 4 rfl) ?_
              refine lv_iconst (v := 0) hx hb dX5_item_51 rfl ?_
              refine lv_aload hx hb dX5_item_52 (lv_at hl 0 rfl) ?_
              refine va_get (D := D) (ci := 2) (v := .int (shSize (sheets 0))) (C := RX2) (T := TX2) (N := 3) hx hb hts hi_RX2 hown hK hP 2 rfl rfl 2 (by decide) (hts (.fieldLink RX5 219 "TravelMarks$Sheet" "size" "I") (List.mem_of_getElem? (i := 3) rfl)) (fun _ h9 => h9) rfl dX5_item_54 ?_
              refine lv_iconst (v := 1) hx hb dX5_item_57 rfl ?_
              refine lv_isub hx hb dX5_item_58 ?_
              refine kcz (Wx := (oTM q0 qn0 qk0 qr0 qc0 qt0 qd0 qs0 qf0 qw0 rowCount anyKept (oSheets C qs0 qs1 qs2 qs3 qs4 qs5 qs6 qs7 qs8 sheets []))) (va_runS (As := [.int x2, .int 0, .int ((shSize (sheets 0)) - 1)]) (rest := []) ⟨hx, hb, hml, hown, hts⟩ (c_X5_within l E D C H.size x2 0 ((shSize (sheets 0)) - 1) _ rfl) (va_cwS 3 hts gX5_item_X5_within rfl rfl rfl hdX5_within ⟨Nat.le_of_ble_eq_true rfl, Nat.le_of_ble_eq_true rfl⟩) (kpre hP hD hK hS hE hA [] rfl rfl) rfl rfl hl.1 rfl (lv_room (Nat.le_of_ble_eq_true rfl)) dX5_item_59 ⟨Nat.zero_le _, Nat.zero_le _⟩) hP hD hS hA [] rfl rfl rfl (fun H locs hz10 hP hD hS => ?_)
              refine lv_if_eq (tgt := 76) hx hb dX5_item_62 (by decide) (fun c11 => ?_) (fun c11 => ?_)
              · replace hf := if_te c11 hf
                refine lv_bipush (v := (-12)) hx hb dX5_item_76 rfl ?_
                cases hf
                exact kri hQ hAe hx hb hr hlocks hP hD hK hS dX5_item_78
              · replace hf := if_fe c11 hf
                refine lv_aload hx hb dX5_item_65 (lv_at hl 0 rfl) ?_
                refine va_get (D := D) (ci := 2) (v := .ref qs2) (C := RX2) (T := TX2) (N := 3) hx hb hts hi_RX2 hown hK hP 2 rfl rfl 0 (by decide) (hts (.fieldLink RX5 222 "TravelMarks$Sheet" "items" "[J") (List.mem_of_getElem? (i := 4) rfl)) (fun _ h9 => h9) rfl dX5_item_67 ?_
                refine lv_iload_n hx hb dX5_item_70 rfl (lv_at hl 4 rfl) ?_
                obtain ⟨y13, ey13, hi12, hf⟩ := rdA_x hf
                refine va_lald hx hb hK hP 3 2 rfl rfl hi12 dX5_item_71 ?_
                refine lv_renL ey13 ?_
                refine lv_l2i hx hb dX5_item_72 rfl ?_
                refine lv_goto (tgt := 78) hx hb dX5_item_73 (by decide) ?_
                obtain ⟨t14, et14, hf⟩ := lj_e hf
                refine lv_ren et14 ?_
                cases hf
                exact kri hQ hAe hx hb hr hlocks hP hD hK hS dX5_item_78
            · replace hf := if_fe c9 hf
              refine lv_bipush (v := (-13)) hx hb dX5_item_47 rfl ?_
              cases hf
              exact kri hQ hAe hx hb hr hlocks hP hD hK hS dX5_item_49
          · replace hf := if_te c8 hf
            refine lv_bipush (v := (-11)) hx hb dX5_item_35 rfl ?_
            cases hf
            exact kri hQ hAe hx hb hr hlocks hP hD hK hS dX5_item_37
        · rw [e4_7] at eo6
          subst eo6
          try rw [e4_7] at hf
          refine va_aldq hx hb hK hP 1 3 rfl rfl hi5 dX5_item_23 ?_
          rw [e4_7]
          refine lv_renV (v := .ref qs3) rfl ?_
          refine lv_astore (lv' := [(4, .ref qs3), (0, .ref q0), (1, .int x0), (2, .int x1), (3, .int x2)]) hx hb dX5_item_24 hl (by decide) rfl (fun ls hl => ?_)
          refine lv_aload hx hb dX5_item_26 (lv_at hl 0 rfl) ?_
          refine va_get (D := D) (ci := 2) (v := .int (shSort (sheets 1))) (C := RX2) (T := TX2) (N := 3) hx hb hts hi_RX2 hown hK hP 4 rfl rfl 1 (by decide) (hts (.fieldLink RX5 212 "TravelMarks$Sheet" "sort" "I") (List.mem_of_getElem? (i := 2) rfl)) (fun _ h9 => h9) rfl dX5_item_28 ?_
          refine lv_iconst (v := (-1)) hx hb dX5_item_31 rfl ?_
          refine lv_icmp_ne (tgt := 38) hx hb dX5_item_32 (by decide) (fun c8 => ?_) (fun c8 => ?_)
          · replace hf := if_fe c8 hf
            refine lv_aload hx hb dX5_item_38 (lv_at hl 0 rfl) ?_
            refine va_get (D := D) (ci := 2) (v := .int (shSort (sheets 1))) (C := RX2) (T := TX2) (N := 3) hx hb hts hi_RX2 hown hK hP 4 rfl rfl 1 (by decide) (hts (.fieldLink RX5 212 "TravelMarks$Sheet" "sort" "I") (List.mem_of_getElem? (i := 2) rfl)) (fun _ h9 => h9) rfl dX5_item_40 ?_
            refine lv_iload_n hx hb dX5_item_43 rfl (lv_at hl 3 rfl) ?_
            refine lv_icmp_eq (tgt := 50) hx hb dX5_item_44 (by decide) (fun c9 => ?_) (fun c9 => ?_)
            · replace hf := if_te c9 hf
              refine lv_iload_n hx hb dX5_item_50 rfl (lv_at hl 4 rfl) ?_
              refine lv_iconst (v := 0) hx hb dX5_item_51 rfl ?_
              refine lv_aload hx hb dX5_item_52 (lv_at hl 0 rfl) ?_
              refine va_get (D := D) (ci := 2) (v := .int (shSize (sheets 1))) (C := RX2) (T := TX2) (N := 3) hx hb hts hi_RX2 hown hK hP 4 rfl rfl 2 (by decide) (hts (.fieldLink RX5 219 "TravelMarks$Sheet" "size" "I") (List.mem_of_getElem? (i := 3) rfl)) (fun _ h9 => h9) rfl dX5_item_54 ?_
              refine lv_iconst (v := 1) hx hb dX5_item_57 rfl ?_
              refine lv_isub hx hb dX5_item_58 ?_
              refine kcz (Wx := (oTM q0 qn0 qk0 qr0 qc0 qt0 qd0 qs0 qf0 qw0 rowCount anyKept (oSheets C qs0 qs1 qs2 qs3 qs4 qs5 qs6 qs7 qs8 sheets []))) (va_runS (As := [.int x2, .int 0, .int ((shSize (sheets 1)) - 1)]) (rest := []) ⟨hx, hb, hml, hown, hts⟩ (c_X5_within l E D C H.size x2 0 ((shSize (sheets 1)) - 1) _ rfl) (va_cwS 3 hts gX5_item_X5_within rfl rfl rfl hdX5_within ⟨Nat.le_of_ble_eq_true rfl, Nat.le_of_ble_eq_true rfl⟩) (kpre hP hD hK hS hE hA [] rfl rfl) rfl rfl hl.1 rfl (lv_room (Nat.le_of_ble_eq_true rfl)) dX5_item_59 ⟨Nat.zero_le _, Nat.zero_le _⟩) hP hD hS hA [] rfl rfl rfl (fun H locs hz10 hP hD hS => ?_)
              refine lv_if_eq (tgt := 76) hx hb dX5_item_62 (by decide) (fun c11 => ?_) (fun c11 => ?_)
              · replace hf := if_te c11 hf
                refine lv_bipush (v := (-12)) hx hb dX5_item_76 rfl ?_
                cases hf
                exact kri hQ hAe hx hb hr hlocks hP hD hK hS dX5_item_78
              · replace hf := if_fe c11 hf
                refine lv_aload hx hb dX5_item_65 (lv_at hl 0 rfl) ?_
                refine va_get (D := D) (ci := 2) (v := .ref qs4) (C := RX2) (T := TX2) (N := 3) hx hb hts hi_RX2 hown hK hP 4 rfl rfl 0 (by decide) (hts (.fieldLink RX5 222 "TravelMarks$Sheet" "items" "[J") (List.mem_of_getElem? (i := 4) rfl)) (fun _ h9 => h9) rfl dX5_item_67 ?_
                refine lv_iload_n hx hb dX5_item_70 rfl (lv_at hl 4 rfl) ?_
                obtain ⟨y13, ey13, hi12, hf⟩ := rdA_x hf
                refine va_lald hx hb hK hP 5 2 rfl rfl hi12 dX5_item_71 ?_
                refine lv_renL ey13 ?_
                refine lv_l2i hx hb dX5_item_72 rfl ?_
                refine lv_goto (tgt := 78) hx hb dX5_item_73 (by decide) ?_
                obtain ⟨t14, et14, hf⟩ := lj_e hf
                refine lv_ren et14 ?_
                cases hf
                exact kri hQ hAe hx hb hr hlocks hP hD hK hS dX5_item_78
            · replace hf := if_fe c9 hf
              refine lv_bipush (v := (-13)) hx hb dX5_item_47 rfl ?_
              cases hf
              exact kri hQ hAe hx hb hr hlocks hP hD hK hS dX5_item_49
          · replace hf := if_te c8 hf
            refine lv_bipush (v := (-11)) hx hb dX5_item_35 rfl ?_
            cases hf
            exact kri hQ hAe hx hb hr hlocks hP hD hK hS dX5_item_37
        · rw [e4_7] at eo6
          subst eo6
          try rw [e4_7] at hf
          refine va_aldq hx hb hK hP 1 3 rfl rfl hi5 dX5_item_23 ?_
          rw [e4_7]
          refine lv_renV (v := .ref qs5) rfl ?_
          refine lv_astore (lv' := [(4, .ref qs5), (0, .ref q0), (1, .int x0), (2, .int x1), (3, .int x2)]) hx hb dX5_item_24 hl (by decide) rfl (fun ls hl => ?_)
          refine lv_aload hx hb dX5_item_26 (lv_at hl 0 rfl) ?_
          refine va_get (D := D) (ci := 2) (v := .int (shSort (sheets 2))) (C := RX2) (T := TX2) (N := 3) hx hb hts hi_RX2 hown hK hP 6 rfl rfl 1 (by decide) (hts (.fieldLink RX5 212 "TravelMarks$Sheet" "sort" "I") (List.mem_of_getElem? (i := 2) rfl)) (fun _ h9 => h9) rfl dX5_item_28 ?_
          refine lv_iconst (v := (-1)) hx hb dX5_item_31 rfl ?_
          refine lv_icmp_ne (tgt := 38) hx hb dX5_item_32 (by decide) (fun c8 => ?_) (fun c8 => ?_)
          · replace hf := if_fe c8 hf
            refine lv_aload hx hb dX5_item_38 (lv_at hl 0 rfl) ?_
            refine va_get (D := D) (ci := 2) (v := .int (shSort (sheets 2))) (C := RX2) (T := TX2) (N := 3) hx hb hts hi_RX2 hown hK hP 6 rfl rfl 1 (by decide) (hts (.fieldLink RX5 212 "TravelMarks$Sheet" "sort" "I") (List.mem_of_getElem? (i := 2) rfl)) (fun _ h9 => h9) rfl dX5_item_40 ?_
            refine lv_iload_n hx hb dX5_item_43 rfl (lv_at hl 3 rfl) ?_
            refine lv_icmp_eq (tgt := 50) hx hb dX5_item_44 (by decide) (fun c9 => ?_) (fun c9 => ?_)
            · replace hf := if_te c9 hf
              refine lv_iload_n hx hb dX5_item_50 rfl (lv_at hl 4 rfl) ?_
              refine lv_iconst (v := 0) hx hb dX5_item_51 rfl ?_
              refine lv_aload hx hb dX5_item_52 (lv_at hl 0 rfl) ?_
              refine va_get (D := D) (ci := 2) (v := .int (shSize (sheets 2))) (C := RX2) (T := TX2) (N := 3) hx hb hts hi_RX2 hown hK hP 6 rfl rfl 2 (by decide) (hts (.fieldLink RX5 219 "TravelMarks$Sheet" "size" "I") (List.mem_of_getElem? (i := 3) rfl)) (fun _ h9 => h9) rfl dX5_item_54 ?_
              refine lv_iconst (v := 1) hx hb dX5_item_57 rfl ?_
              refine lv_isub hx hb dX5_item_58 ?_
              refine kcz (Wx := (oTM q0 qn0 qk0 qr0 qc0 qt0 qd0 qs0 qf0 qw0 rowCount anyKept (oSheets C qs0 qs1 qs2 qs3 qs4 qs5 qs6 qs7 qs8 sheets []))) (va_runS (As := [.int x2, .int 0, .int ((shSize (sheets 2)) - 1)]) (rest := []) ⟨hx, hb, hml, hown, hts⟩ (c_X5_within l E D C H.size x2 0 ((shSize (sheets 2)) - 1) _ rfl) (va_cwS 3 hts gX5_item_X5_within rfl rfl rfl hdX5_within ⟨Nat.le_of_ble_eq_true rfl, Nat.le_of_ble_eq_true rfl⟩) (kpre hP hD hK hS hE hA [] rfl rfl) rfl rfl hl.1 rfl (lv_room (Nat.le_of_ble_eq_true rfl)) dX5_item_59 ⟨Nat.zero_le _, Nat.zero_le _⟩) hP hD hS hA [] rfl rfl rfl (fun H locs hz10 hP hD hS => ?_)
              refine lv_if_eq (tgt := 76) hx hb dX5_item_62 (by decide) (fun c11 => ?_) (fun c11 => ?_)
              · replace hf := if_te c11 hf
                refine lv_bipush (v := (-12)) hx hb dX5_item_76 rfl ?_
                cases hf
                exact kri hQ hAe hx hb hr hlocks hP hD hK hS dX5_item_78
              · replace hf := if_fe c11 hf
                refine lv_aload hx hb dX5_item_65 (lv_at hl 0 rfl) ?_
                refine va_get (D := D) (ci := 2) (v := .ref qs6) (C := RX2) (T := TX2) (N := 3) hx hb hts hi_RX2 hown hK hP 6 rfl rfl 0 (by decide) (hts (.fieldLink RX5 222 "TravelMarks$Sheet" "items" "[J") (List.mem_of_getElem? (i := 4) rfl)) (fun _ h9 => h9) rfl dX5_item_67 ?_
                refine lv_iload_n hx hb dX5_item_70 rfl (lv_at hl 4 rfl) ?_
                obtain ⟨y13, ey13, hi12, hf⟩ := rdA_x hf
                refine va_lald hx hb hK hP 7 2 rfl rfl hi12 dX5_item_71 ?_
                refine lv_renL ey13 ?_
                refine lv_l2i hx hb dX5_item_72 rfl ?_
                refine lv_goto (tgt := 78) hx hb dX5_item_73 (by decide) ?_
                obtain ⟨t14, et14, hf⟩ := lj_e hf
                refine lv_ren et14 ?_
                cases hf
                exact kri hQ hAe hx hb hr hlocks hP hD hK hS dX5_item_78
            · replace hf := if_fe c9 hf
              refine lv_bipush (v := (-13)) hx hb dX5_item_47 rfl ?_
              cases hf
              exact kri hQ hAe hx hb hr hlocks hP hD hK hS dX5_item_49
          · replace hf := if_te c8 hf
            refine lv_bipush (v := (-11)) hx hb dX5_item_35 rfl ?_
            cases hf
            exact kri hQ hAe hx hb hr hlocks hP hD hK hS dX5_item_37
        · rw [e4_7] at eo6
          subst eo6
          try rw [e4_7] at hf
          refine va_aldq hx hb hK hP 1 3 rfl rfl hi5 dX5_item_23 ?_
          rw [e4_7]
          refine lv_renV (v := .ref qs7) rfl ?_
          refine lv_astore (lv' := [(4, .ref qs7), (0, .ref q0), (1, .int x0), (2, .int x1), (3, .int x2)]) hx hb dX5_item_24 hl (by decide) rfl (fun ls hl => ?_)
          refine lv_aload hx hb dX5_item_26 (lv_at hl 0 rfl) ?_
          refine va_get (D := D) (ci := 2) (v := .int (shSort (sheets 3))) (C := RX2) (T := TX2) (N := 3) hx hb hts hi_RX2 hown hK hP 8 rfl rfl 1 (by decide) (hts (.fieldLink RX5 212 "TravelMarks$Sheet" "sort" "I") (List.mem_of_getElem? (i := 2) rfl)) (fun _ h9 => h9) rfl dX5_item_28 ?_
          refine lv_iconst (v := (-1)) hx hb dX5_item_31 rfl ?_
          refine lv_icmp_ne (tgt := 38) hx hb dX5_item_32 (by decide) (fun c8 => ?_) (fun c8 => ?_)
          · replace hf := if_fe c8 hf
            refine lv_aload hx hb dX5_item_38 (lv_at hl 0 rfl) ?_
            refine va_get (D := D) (ci := 2) (v := .int (shSort (sheets 3))) (C := RX2) (T := TX2) (N := 3) hx hb hts hi_RX2 hown hK hP 8 rfl rfl 1 (by decide) (hts (.fieldLink RX5 212 "TravelMarks$Sheet" "sort" "I") (List.mem_of_getElem? (i := 2) rfl)) (fun _ h9 => h9) rfl dX5_item_40 ?_
            refine lv_iload_n hx hb dX5_item_43 rfl (lv_at hl 3 rfl) ?_
            refine lv_icmp_eq (tgt := 50) hx hb dX5_item_44 (by decide) (fun c9 => ?_) (fun c9 => ?_)
            · replace hf := if_te c9 hf
              refine lv_iload_n hx hb dX5_item_50 rfl (lv_at hl 4 rfl) ?_
              refine lv_iconst (v := 0) hx hb dX5_item_51 rfl ?_
              refine lv_aload hx hb dX5_item_52 (lv_at hl 0 rfl) ?_
              refine va_get (D := D) (ci := 2) (v := .int (shSize (sheets 3))) (C := RX2) (T := TX2) (N := 3) hx hb hts hi_RX2 hown hK hP 8 rfl rfl 2 (by decide) (hts (.fieldLink RX5 219 "TravelMarks$Sheet" "size" "I") (List.mem_of_getElem? (i := 3) rfl)) (fun _ h9 => h9) rfl dX5_item_54 ?_
              refine lv_iconst (v := 1) hx hb dX5_item_57 rfl ?_
              refine lv_isub hx hb dX5_item_58 ?_
              refine kcz (Wx := (oTM q0 qn0 qk0 qr0 qc0 qt0 qd0 qs0 qf0 qw0 rowCount anyKept (oSheets C qs0 qs1 qs2 qs3 qs4 qs5 qs6 qs7 qs8 sheets []))) (va_runS (As := [.int x2, .int 0, .int ((shSize (sheets 3)) - 1)]) (rest := []) ⟨hx, hb, hml, hown, hts⟩ (c_X5_within l E D C H.size x2 0 ((shSize (sheets 3)) - 1) _ rfl) (va_cwS 3 hts gX5_item_X5_within rfl rfl rfl hdX5_within ⟨Nat.le_of_ble_eq_true rfl, Nat.le_of_ble_eq_true rfl⟩) (kpre hP hD hK hS hE hA [] rfl rfl) rfl rfl hl.1 rfl (lv_room (Nat.le_of_ble_eq_true rfl)) dX5_item_59 ⟨Nat.zero_le _, Nat.zero_le _⟩) hP hD hS hA [] rfl rfl rfl (fun H locs hz10 hP hD hS => ?_)
              refine lv_if_eq (tgt := 76) hx hb dX5_item_62 (by decide) (fun c11 => ?_) (fun c11 => ?_)
              · replace hf := if_te c11 hf
                refine lv_bipush (v := (-12)) hx hb dX5_item_76 rfl ?_
                cases hf
                exact kri hQ hAe hx hb hr hlocks hP hD hK hS dX5_item_78
              · replace hf := if_fe c11 hf
                refine lv_aload hx hb dX5_item_65 (lv_at hl 0 rfl) ?_
                refine va_get (D := D) (ci := 2) (v := .ref qs8) (C := RX2) (T := TX2) (N := 3) hx hb hts hi_RX2 hown hK hP 8 rfl rfl 0 (by decide) (hts (.fieldLink RX5 222 "TravelMarks$Sheet" "items" "[J") (List.mem_of_getElem? (i := 4) rfl)) (fun _ h9 => h9) rfl dX5_item_67 ?_
                refine lv_iload_n hx hb dX5_item_70 rfl (lv_at hl 4 rfl) ?_
                obtain ⟨y13, ey13, hi12, hf⟩ := rdA_x hf
                refine va_lald hx hb hK hP 9 2 rfl rfl hi12 dX5_item_71 ?_
                refine lv_renL ey13 ?_
                refine lv_l2i hx hb dX5_item_72 rfl ?_
                refine lv_goto (tgt := 78) hx hb dX5_item_73 (by decide) ?_
                obtain ⟨t14, et14, hf⟩ := lj_e hf
                refine lv_ren et14 ?_
                cases hf
                exact kri hQ hAe hx hb hr hlocks hP hD hK hS dX5_item_78
            · replace hf := if_fe c9 hf
              refine lv_bipush (v := (-13)) hx hb dX5_item_47 rfl ?_
              cases hf
              exact kri hQ hAe hx hb hr hlocks hP hD hK hS dX5_item_49
          · replace hf := if_te c8 hf
            refine lv_bipush (v := (-11)) hx hb dX5_item_35 rfl ?_
            cases hf
            exact kri hQ hAe hx hb hr hlocks hP hD hK hS dX5_item_37
      · replace hf := if_te c4 hf
        refine lv_iconst (v := (-1)) hx hb dX5_item_16 rfl ?_
        cases hf
        exact kri hQ hAe hx hb hr hlocks hP hD hK hS dX5_item_17
  exact main _ _ hP hD hS

def rmX5_shelf : Room := { frames := 2, cells := 0, slots := 0, locals := 43 }
theorem hdX5_shelf : yX5_shelf.cls = RX5 ∧ yX5_shelf.cls ≠ "java/lang/invoke/MethodHandle" ∧ yX5_shelf.cls ≠ "java/lang/invoke/VarHandle" ∧ (parseMethodDescriptor yX5_shelf.desc).map (fun d => d.parameters.length) = some 3 := by decide +kernel
set_option maxHeartbeats 40000000 in
set_option maxRecDepth 100000 in
theorem c_X5_shelf (l : Launch) (E : Nat → Nat) (D : va_G) (C : Nat → ClassId) (q0 qn0 qk0 qr0 qc0 qt0 qd0 qs0 qf0 qw0 qn1 qn2 qn3 qn4 qn5 qn6 qs1 qs2 qs3 qs4 qs5 qs6 qs7 qs8 qf1 qf2 qf3 qf4 : Nat) (sz : Nat) (rowCount : Int32) (anyKept : Int32) (now : PV) (sheets : Nat → HV) (shelves : Nat → FV) (x0 : Int32) (x1 : Int32) (x2 : Int32) (r : Int32) (shelves' : Nat → FV) (hf : f_X5_shelf now sheets shelves x0 x1 x2 = some (r, shelves')) : Met l yX5_shelf wsX5_shelf rmX5_shelf (PC E D C [.ref q0, .int x0, .int x1, .int x2] (oTM q0 qn0 qk0 qr0 qc0 qt0 qd0 qs0 qf0 qw0 rowCount anyKept (oPort C qn0 qn1 qn2 qn3 qn4 qn5 qn6 now (oSheets C qs0 qs1 qs2 qs3 qs4 qs5 qs6 qs7 qs8 sheets (oShelves C qf0 qf1 qf2 qf3 qf4 shelves [])))) sz) (QI D C (oTM q0 qn0 qk0 qr0 qc0 qt0 qd0 qs0 qf0 qw0 rowCount anyKept (oPort C qn0 qn1 qn2 qn3 qn4 qn5 qn6 now (oSheets C qs0 qs1 qs2 qs3 qs4 qs5 qs6 qs7 qs8 sheets (oShelves C qf0 qf1 qf2 qf3 qf4 shelves [])))) (oTM q0 qn0 qk0 qr0 qc0 qt0 qd0 qs0 qf0 qw0 rowCount anyKept (oPort C qn0 qn1 qn2 qn3 qn4 qn5 qn6 now (oSheets C qs0 qs1 qs2 qs3 qs4 qs5 qs6 qs7 qs8 sheets (oShelves C qf0 qf1 qf2 qf3 qf4 (shelves') [])))) sz r) 0 0 (va_A (oTM q0 qn0 qk0 qr0 qc0 qt0 qd0 qs0 qf0 qw0 rowCount anyKept (oPort C qn0 qn1 qn2 qn3 qn4 qn5 qn6 now (oSheets C qs0 qs1 qs2 qs3 qs4 qs5 qs6 qs7 qs8 sheets (oShelves C qf0 qf1 qf2 qf3 qf4 shelves [])))) sz) := by
  refine Met.ofW (cc := cX5_shelf) (maxL := 4) (ret := (some .int)) (by decide) rfl ?_
  intro p e s m args below meth c s₁ B hml hv
  obtain ⟨rfl, hsz, hP, hK, hD0, hE⟩ := hv
  have hx := B.exec
  have hb := B.bytes
  have hr := B.returns
  have hts := atoms_spec (ws := wsX5_shelf) B.pre
  have hown : s.vm.findClass RX5 = some m.cls := findClass_of_methodNamed B.named
  have hlocks := B.notSynchronized
  subst hsz
  have hi_RX3 : ∀ w ∈ wsX30, w ∈ wsX5_shelf := fun _ h => List.mem_cons_of_mem _ (List.mem_append_left _ (List.mem_append_left _ (List.mem_append_right _ h)))
  have hi_RX5 : ∀ w ∈ wsX50, w ∈ wsX5_shelf := fun _ h => List.mem_cons_of_mem _ (List.mem_append_left _ (List.mem_append_left _ (List.mem_append_left _ (List.mem_append_right _ h))))
  have hD := hD0.self (sz := s.heap.size)
  obtain ⟨A, hAe⟩ := nm_ex (va_A (oTM q0 qn0 qk0 qr0 qc0 qt0 qd0 qs0 qf0 qw0 rowCount anyKept (oPort C qn0 qn1 qn2 qn3 qn4 qn5 qn6 now (oSheets C qs0 qs1 qs2 qs3 qs4 qs5 qs6 qs7 qs8 sheets (oShelves C qf0 qf1 qf2 qf3 qf4 shelves [])))) s.heap.size)
  rw [← hAe] at hD hE ⊢
  have hA : ∀ q : Nat, s.heap.size ≤ q → A q := fun q h => by rw [hAe]; exact Or.inr h
  have hS : va_S A s.heap s.heap [] := va_S.rf
  have hl := lv_entry ([.ref q0, .int x0, .int x1, .int x2]) (n := 4) (Nat.le_of_ble_eq_true rfl)
  rw [lg_entry_eq]
  generalize (lg_sl ([.ref q0, .int x0, .int x1, .int x2]) ++ List.replicate (4 - (lg_sl ([.ref q0, .int x0, .int x1, .int x2])).length) Slot.unset).toArray = ls at hl ⊢
  have hl : lv_has ls 4 [(0, .ref q0), (1, .int x0), (2, .int x1), (3, .int x2)] := hl
  obtain ⟨Q, hQ⟩ := nm_ex (MQ below (QI D C (oTM q0 qn0 qk0 qr0 qc0 qt0 qd0 qs0 qf0 qw0 rowCount anyKept (oPort C qn0 qn1 qn2 qn3 qn4 qn5 qn6 now (oSheets C qs0 qs1 qs2 qs3 qs4 qs5 qs6 qs7 qs8 sheets (oShelves C qf0 qf1 qf2 qf3 qf4 shelves [])))) (oTM q0 qn0 qk0 qr0 qc0 qt0 qd0 qs0 qf0 qw0 rowCount anyKept (oPort C qn0 qn1 qn2 qn3 qn4 qn5 qn6 now (oSheets C qs0 qs1 qs2 qs3 qs4 qs5 qs6 qs7 qs8 sheets (oShelves C qf0 qf1 qf2 qf3 qf4 (shelves') [])))) s.heap.size r) (List.toArray [Value.ref q0, Value.int x0, Value.int x1, Value.int x2]) s 0 0 A)
  show W p l e (headSpec wsX5_shelf (rmX5_shelf)).room s m (List.toArray [Value.ref q0, Value.int x0, Value.int x1, Value.int x2]) below meth c s.heap [] 0 0 (MQ below (QI D C (oTM q0 qn0 qk0 qr0 qc0 qt0 qd0 qs0 qf0 qw0 rowCount anyKept (oPort C qn0 qn1 qn2 qn3 qn4 qn5 qn6 now (oSheets C qs0 qs1 qs2 qs3 qs4 qs5 qs6 qs7 qs8 sheets (oShelves C qf0 qf1 qf2 qf3 qf4 shelves [])))) (oTM q0 qn0 qk0 qr0 qc0 qt0 qd0 qs0 qf0 qw0 rowCount anyKept (oPort C qn0 qn1 qn2 qn3 qn4 qn5 qn6 now (oSheets C qs0 qs1 qs2 qs3 qs4 qs5 qs6 qs7 qs8 sheets (oShelves C qf0 qf1 qf2 qf3 qf4 (shelves') [])))) s.heap.size r) (List.toArray [Value.ref q0, Value.int x0, Value.int x1, Value.int x2]) s 0 0 A) _
  rw [← hQ]
  unfold f_X5_shelf at hf
  have main : ∀ (H : Heap) (locs : List Loc), va_P D vwCl (oTM q0 qn0 qk0 qr0 qc0 qt0 qd0 qs0 qf0 qw0 rowCount anyKept (oPort C qn0 qn1 qn2 qn3 qn4 qn5 qn6 now (oSheets C qs0 qs1 qs2 qs3 qs4 qs5 qs6 qs7 qs8 sheets (oShelves C qf0 qf1 qf2 qf3 qf4 shelves [])))) H → va_D A (oTM q0 qn0 qk0 qr0 qc0 qt0 qd0 qs0 qf0 qw0 rowCount anyKept (oPort C qn0 qn1 qn2 qn3 qn4 qn5 qn6 now (oSheets C qs0 qs1 qs2 qs3 qs4 qs5 qs6 qs7 qs8 sheets (oShelves C qf0 qf1 qf2 qf3 qf4 shelves [])))) → va_S A s.heap H locs → W p l e (headSpec wsX5_shelf (rmX5_shelf)).room s m (List.toArray [Value.ref q0, Value.int x0, Value.int x1, Value.int x2]) below meth c H locs 0 0 Q (F0 m 0 ls []) := by
    intro H locs hP hD hS
    refine lv_iload_n hx hb dX5_shelf_0 rfl (lv_at hl 1 rfl) ?_
    refine kcz (Wx := (oTM q0 qn0 qk0 qr0 qc0 qt0 qd0 qs0 qf0 qw0 rowCount anyKept (oPort C qn0 qn1 qn2 qn3 qn4 qn5 qn6 now (oSheets C qs0 qs1 qs2 qs3 qs4 qs5 qs6 qs7 qs8 sheets (oShelves C qf0 qf1 qf2 qf3 qf4 shelves []))))) (va_runS (As := [.int x0]) (rest := []) ⟨hx, hb, hml, hown, hts⟩ (c_X5_isShelf l E D C H.size x0 _ rfl) (va_cwS 1 hts gX5_shelf_X5_isShelf rfl rfl rfl hdX5_isShelf ⟨Nat.le_of_ble_eq_true rfl, Nat.le_of_ble_eq_true rfl⟩) (kpre hP hD hK hS hE hA [] rfl rfl) rfl rfl hl.1 rfl (lv_room (Nat.le_of_ble_eq_true rfl)) dX5_shelf_1 ⟨Nat.zero_le _, Nat.zero_le _⟩) hP hD hS hA [] rfl rfl rfl (fun H locs hz1 hP hD hS => ?_)
    refine lv_if_ne (tgt := 9) hx hb dX5_shelf_4 (by decide) (fun c2 => ?_) (fun c2 => ?_)
    · replace hf := if_fe c2 hf
      refine lv_iload_n hx hb dX5_shelf_9 rfl (lv_at hl 2 rfl) ?_
      by_cases c3 : x1 = 0
      · replace hf := if_te c3 hf
        refine lv_tableIn (x := x1) (tgt := 36) (off := 26) hx hb dX5_shelf_10 (by rw [c3]; decide) (by rw [c3]; decide) (by rw [c3]; try rfl) (by decide) ?_
        refine lv_aload_n hx hb dX5_shelf_36 rfl (lv_at hl 0 rfl) ?_
        refine lv_iload_n hx hb dX5_shelf_37 rfl (lv_at hl 3 rfl) ?_
        refine kcz (Wx := (oTM q0 qn0 qk0 qr0 qc0 qt0 qd0 qs0 qf0 qw0 rowCount anyKept (oPort C qn0 qn1 qn2 qn3 qn4 qn5 qn6 now (oSheets C qs0 qs1 qs2 qs3 qs4 qs5 qs6 qs7 qs8 sheets (oShelves C qf0 qf1 qf2 qf3 qf4 shelves []))))) (va_runV (As := [.int x2]) (rest := []) ⟨hx, hb, hml, hown, hts⟩ (c_X5_isMark l E D C q0 qn0 qk0 qr0 qc0 qt0 qd0 qs0 qf0 qw0 qn1 qn2 qn3 qn4 qn5 qn6 H.size rowCount anyKept now x2 _ rfl) (cwV 1 hts gX5_shelf_X5_isMark rfl rfl rfl hdX5_isMark ⟨Nat.le_of_ble_eq_true rfl, Nat.le_of_ble_eq_true rfl⟩) (kpreV hP hD hK hS hE hA [0, 1, 2, 3, 4, 5, 6, 7] rfl rfl 0 rfl rfl rfl) rfl rfl hl.1 rfl (lv_room (Nat.le_of_ble_eq_true rfl)) dX5_shelf_38 ⟨Nat.zero_le _, Nat.zero_le _⟩) hP hD hS hA [0, 1, 2, 3, 4, 5, 6, 7] rfl rfl rfl (fun H locs hz4 hP hD hS => ?_)
        refine lv_if_ne (tgt := 46) hx hb dX5_shelf_41 (by decide) (fun c5 => ?_) (fun c5 => ?_)
        · replace hf := if_fe c5 hf
          refine lv_aload_n hx hb dX5_shelf_46 rfl (lv_at hl 0 rfl) ?_
          refine va_get (D := D) (ci := 5) (v := .ref qf0) (C := RX5) (T := TX5) (N := 11) hx hb hts hi_RX5 hown hK hP 0 rfl rfl 7 (by decide) (hts (.fieldLink RX5 47 "TravelMarks" "shelves" "[LTravelMarks$Shelf;") (List.mem_of_getElem? (i := 1) rfl)) (fun _ h9 => h9) rfl dX5_shelf_47 ?_
          refine lv_iload_n hx hb dX5_shelf_50 rfl (lv_at hl 1 rfl) ?_
          obtain ⟨hi6, hf⟩ := ckA_e hf
          obtain ⟨o7, eo7, hf⟩ := lj_e hf
          rcases four hi6 with e4_8 | e4_8 | e4_8 | e4_8
          · rw [e4_8] at eo7
            subst eo7
            try rw [e4_8] at hf
            refine va_aldq hx hb hK hP 17 4 rfl rfl hi6 dX5_shelf_51 ?_
            rw [e4_8]
            refine lv_renV (v := .ref qf1) rfl ?_
            refine lv_iload_n hx hb dX5_shelf_52 rfl (lv_at hl 3 rfl) ?_
            obtain ⟨v9, h10, hf⟩ := ob1_e hf
            refine kcv (Wx := (oTM q0 qn0 qk0 qr0 qc0 qt0 qd0 qs0 qf0 qw0 rowCount anyKept (oPort C qn0 qn1 qn2 qn3 qn4 qn5 qn6 now (oSheets C qs0 qs1 qs2 qs3 qs4 qs5 qs6 qs7 qs8 sheets (oShelves C qf0 qf1 qf2 qf3 qf4 (va_up shelves 0 v9) []))))) (va_runV (As := [.int x2]) (rest := []) ⟨hx, hb, hml, hown, hts⟩ (c_X3_holdMark l E D C qf1 H.size (shelves 0) x2 v9 h10) (cwV 1 hts gX5_shelf_X3_holdMark rfl rfl rfl hdX3_holdMark ⟨Nat.le_of_ble_eq_true rfl, Nat.le_of_ble_eq_true rfl⟩) (kpreV hP hD hK hS hE hA [18] rfl rfl 18 rfl rfl rfl) rfl rfl hl.1 rfl (lv_room (Nat.le_of_ble_eq_true rfl)) dX5_shelf_53 ⟨Nat.zero_le _, Nat.zero_le _⟩) hP hD hS hA [18] rfl rfl rfl (fun H locs hP hD hS => ?_)
            refine lv_iconst (v := 1) hx hb dX5_shelf_56 rfl ?_
            cases hf
            exact kri hQ hAe hx hb hr hlocks hP hD hK hS dX5_shelf_57
          · rw [e4_8] at eo7
            subst eo7
            try rw [e4_8] at hf
            refine va_aldq hx hb hK hP 17 4 rfl rfl hi6 dX5_shelf_51 ?_
            rw [e4_8]
            refine lv_renV (v := .ref qf2) rfl ?_
            refine lv_iload_n hx hb dX5_shelf_52 rfl (lv_at hl 3 rfl) ?_
            obtain ⟨v9, h10, hf⟩ := ob1_e hf
            refine kcv (Wx := (oTM q0 qn0 qk0 qr0 qc0 qt0 qd0 qs0 qf0 qw0 rowCount anyKept (oPort C qn0 qn1 qn2 qn3 qn4 qn5 qn6 now (oSheets C qs0 qs1 qs2 qs3 qs4 qs5 qs6 qs7 qs8 sheets (oShelves C qf0 qf1 qf2 qf3 qf4 (va_up shelves 1 v9) []))))) (va_runV (As := [.int x2]) (rest := []) ⟨hx, hb, hml, hown, hts⟩ (c_X3_holdMark l E D C qf2 H.size (shelves 1) x2 v9 h10) (cwV 1 hts gX5_shelf_X3_holdMark rfl rfl rfl hdX3_holdMark ⟨Nat.le_of_ble_eq_true rfl, Nat.le_of_ble_eq_true rfl⟩) (kpreV hP hD hK hS hE hA [19] rfl rfl 19 rfl rfl rfl) rfl rfl hl.1 rfl (lv_room (Nat.le_of_ble_eq_true rfl)) dX5_shelf_53 ⟨Nat.zero_le _, Nat.zero_le _⟩) hP hD hS hA [19] rfl rfl rfl (fun H locs hP hD hS => ?_)
            refine lv_iconst (v := 1) hx hb dX5_shelf_56 rfl ?_
            cases hf
            exact kri hQ hAe hx hb hr hlocks hP hD hK hS dX5_shelf_57
          · rw [e4_8] at eo7
            subst eo7
            try rw [e4_8] at hf
            refine va_aldq hx hb hK hP 17 4 rfl rfl hi6 dX5_shelf_51 ?_
            rw [e4_8]
            refine lv_renV (v := .ref qf3) rfl ?_
            refine lv_iload_n hx hb dX5_shelf_52 rfl (lv_at hl 3 rfl) ?_
            obtain ⟨v9, h10, hf⟩ := ob1_e hf
            refine kcv (Wx := (oTM q0 qn0 qk0 qr0 qc0 qt0 qd0 qs0 qf0 qw0 rowCount anyKept (oPort C qn0 qn1 qn2 qn3 qn4 qn5 qn6 now (oSheets C qs0 qs1 qs2 qs3 qs4 qs5 qs6 qs7 qs8 sheets (oShelves C qf0 qf1 qf2 qf3 qf4 (va_up shelves 2 v9) []))))) (va_runV (As := [.int x2]) (rest := []) ⟨hx, hb, hml, hown, hts⟩ (c_X3_holdMark l E D C qf3 H.size (shelves 2) x2 v9 h10) (cwV 1 hts gX5_shelf_X3_holdMark rfl rfl rfl hdX3_holdMark ⟨Nat.le_of_ble_eq_true rfl, Nat.le_of_ble_eq_true rfl⟩) (kpreV hP hD hK hS hE hA [20] rfl rfl 20 rfl rfl rfl) rfl rfl hl.1 rfl (lv_room (Nat.le_of_ble_eq_true rfl)) dX5_shelf_53 ⟨Nat.zero_le _, Nat.zero_le _⟩) hP hD hS hA [20] rfl rfl rfl (fun H locs hP hD hS => ?_)
            refine lv_iconst (v := 1) hx hb dX5_shelf_56 rfl ?_
            cases hf
            exact kri hQ hAe hx hb hr hlocks hP hD hK hS dX5_shelf_57
          · rw [e4_8] at eo7
            subst eo7
            try rw [e4_8] at hf
            refine va_aldq hx hb hK hP 17 4 rfl rfl hi6 dX5_shelf_51 ?_
            rw [e4_8]
            refine lv_renV (v := .ref qf4) rfl ?_
            refine lv_iload_n hx hb dX5_shelf_52 rfl (lv_at hl 3 rfl) ?_
            obtain ⟨v9, h10, hf⟩ := ob1_e hf
            refine kcv (Wx := (oTM q0 qn0 qk0 qr0 qc0 qt0 qd0 qs0 qf0 qw0 rowCount anyKept (oPort C qn0 qn1 qn2 qn3 qn4 qn5 qn6 now (oSheets C qs0 qs1 qs2 qs3 qs4 qs5 qs6 qs7 qs8 sheets (oShelves C qf0 qf1 qf2 qf3 qf4 (va_up shelves 3 v9) []))))) (va_runV (As := [.int x2]) (rest := []) ⟨hx, hb, hml, hown, hts⟩ (c_X3_holdMark l E D C qf4 H.size (shelves 3) x2 v9 h10) (cwV 1 hts gX5_shelf_X3_holdMark rfl rfl rfl hdX3_holdMark ⟨Nat.le_of_ble_eq_true rfl, Nat.le_of_ble_eq_true rfl⟩) (kpreV hP hD hK hS hE hA [21] rfl rfl 21 rfl rfl rfl) rfl rfl hl.1 rfl (lv_room (Nat.le_of_ble_eq_true rfl)) dX5_shelf_53 ⟨Nat.zero_le _, Nat.zero_le _⟩) hP hD hS hA [21] rfl rfl rfl (fun H locs hP hD hS => ?_)
            refine lv_iconst (v := 1) hx hb dX5_shelf_56 rfl ?_
            cases hf
            exact kri hQ hAe hx hb hr hlocks hP hD hK hS dX5_shelf_57
        · replace hf := if_te c5 hf
          refine lv_iconst (v := (-1)) hx hb dX5_shelf_44 rfl ?_
          cases hf
          exact kri hQ hAe hx hb hr hlocks hP hD hK hS dX5_shelf_45
      replace hf := if_fe c3 hf
      by_cases c11 : x1 = 1
      · replace hf := if_te c11 hf
        refine lv_tableIn (x := x1) (tgt := 58) (off := 48) hx hb dX5_shelf_10 (by rw [c11]; decide) (by rw [c11]; decide) (by rw [c11]; try rfl) (by decide) ?_
        refine lv_iload_n hx hb dX5_shelf_58 rfl (lv_at hl 3 rfl) ?_
        refine kcz (Wx := (oTM q0 qn0 qk0 qr0 qc0 qt0 qd0 qs0 qf0 qw0 rowCount anyKept (oPort C qn0 qn1 qn2 qn3 qn4 qn5 qn6 now (oSheets C qs0 qs1 qs2 qs3 qs4 qs5 qs6 qs7 qs8 sheets (oShelves C qf0 qf1 qf2 qf3 qf4 shelves []))))) (va_runS (As := [.int x2]) (rest := []) ⟨hx, hb, hml, hown, hts⟩ (c_X5_isSheet l E D C H.size x2 _ rfl) (va_cwS 1 hts gX5_shelf_X5_isSheet rfl rfl rfl hdX5_isSheet ⟨Nat.le_of_ble_eq_true rfl, Nat.le_of_ble_eq_true rfl⟩) (kpre hP hD hK hS hE hA [] rfl rfl) rfl rfl hl.1 rfl (lv_room (Nat.le_of_ble_eq_true rfl)) dX5_shelf_59 ⟨Nat.zero_le _, Nat.zero_le _⟩) hP hD hS hA [] rfl rfl rfl (fun H locs hz12 hP hD hS => ?_)
        refine lv_if_ne (tgt := 67) hx hb dX5_shelf_62 (by decide) (fun c13 => ?_) (fun c13 => ?_)
        · replace hf := if_fe c13 hf
          refine lv_aload_n hx hb dX5_shelf_67 rfl (lv_at hl 0 rfl) ?_
          refine va_get (D := D) (ci := 5) (v := .ref qf0) (C := RX5) (T := TX5) (N := 11) hx hb hts hi_RX5 hown hK hP 0 rfl rfl 7 (by decide) (hts (.fieldLink RX5 47 "TravelMarks" "shelves" "[LTravelMarks$Shelf;") (List.mem_of_getElem? (i := 1) rfl)) (fun _ h9 => h9) rfl dX5_shelf_68 ?_
          refine lv_iload_n hx hb dX5_shelf_71 rfl (lv_at hl 1 rfl) ?_
          obtain ⟨hi14, hf⟩ := ckA_e hf
          obtain ⟨o15, eo15, hf⟩ := lj_e hf
          rcases four hi14 with e4_16 | e4_16 | e4_16 | e4_16
          · rw [e4_16] at eo15
            subst eo15
            try rw [e4_16] at hf
            refine va_aldq hx hb hK hP 17 4 rfl rfl hi14 dX5_shelf_72 ?_
            rw [e4_16]
            refine lv_renV (v := .ref qf1) rfl ?_
            refine lv_aload_n hx hb dX5_shelf_73 rfl (lv_at hl 0 rfl) ?_
            refine va_get (D := D) (ci := 5) (v := .ref qs0) (C := RX5) (T := TX5) (N := 11) hx hb hts hi_RX5 hown hK hP 0 rfl rfl 6 (by decide) (hts (.fieldLink RX5 41 "TravelMarks" "sheets" "[LTravelMarks$Sheet;") (List.mem_of_getElem? (i := 2) rfl)) (fun _ h9 => h9) rfl dX5_shelf_74 ?_
            refine lv_iload_n hx hb dX5_shelf_77 rfl (lv_at hl 3 rfl) ?_
            obtain ⟨hi17, hf⟩ := ckA_e hf
            obtain ⟨o18, eo18, hf⟩ := lj_e hf
            rcases four hi17 with e4_19 | e4_19 | e4_19 | e4_19
            · rw [e4_19] at eo18
              subst eo18
              try rw [e4_19] at hf
              refine va_aldq hx hb hK hP 8 3 rfl rfl hi17 dX5_shelf_78 ?_
              rw [e4_19]
              refine lv_renV (v := .ref qs1) rfl ?_
              obtain ⟨v20, h21, hf⟩ := ob1_e hf
              refine kcv (Wx := (oTM q0 qn0 qk0 qr0 qc0 qt0 qd0 qs0 qf0 qw0 rowCount anyKept (oPort C qn0 qn1 qn2 qn3 qn4 qn5 qn6 now (oSheets C qs0 qs1 qs2 qs3 qs4 qs5 qs6 qs7 qs8 sheets (oShelves C qf0 qf1 qf2 qf3 qf4 (va_up shelves 0 v20) []))))) (va_runV (As := [.ref qs1]) (rest := []) ⟨hx, hb, hml, hown, hts⟩ (c_X3_holdRow l E D C qf1 qs1 qs2 H.size (shelves 0) (sheets 0) v20 h21) (cwV 1 hts gX5_shelf_X3_holdRow rfl rfl rfl hdX3_holdRow ⟨Nat.le_of_ble_eq_true rfl, Nat.le_of_ble_eq_true rfl⟩) (kpreV hP hD hK hS hE hA [18, 9, 10] rfl rfl 18 rfl rfl rfl) rfl rfl hl.1 rfl (lv_room (Nat.le_of_ble_eq_true rfl)) dX5_shelf_79 ⟨Nat.zero_le _, Nat.zero_le _⟩) hP hD hS hA [18, 9, 10] rfl rfl rfl (fun H locs hP hD hS => ?_)
              refine lv_iconst (v := 1) hx hb dX5_shelf_82 rfl ?_
              cases hf
              exact kri hQ hAe hx hb hr hlocks hP hD hK hS dX5_shelf_83
            · rw [e4_19] at eo18
              subst eo18
              try rw [e4_19] at hf
              refine va_aldq hx hb hK hP 8 3 rfl rfl hi17 dX5_shelf_78 ?_
              rw [e4_19]
              refine lv_renV (v := .ref qs3) rfl ?_
              obtain ⟨v20, h21, hf⟩ := ob1_e hf
              refine kcv (Wx := (oTM q0 qn0 qk0 qr0 qc0 qt0 qd0 qs0 qf0 qw0 rowCount anyKept (oPort C qn0 qn1 qn2 qn3 qn4 qn5 qn6 now (oSheets C qs0 qs1 qs2 qs3 qs4 qs5 qs6 qs7 qs8 sheets (oShelves C qf0 qf1 qf2 qf3 qf4 (va_up shelves 0 v20) []))))) (va_runV (As := [.ref qs3]) (rest := []) ⟨hx, hb, hml, hown, hts⟩ (c_X3_holdRow l E D C qf1 qs3 qs4 H.size (shelves 0) (sheets 1) v20 h21) (cwV 1 hts gX5_shelf_X3_holdRow rfl rfl rfl hdX3_holdRow ⟨Nat.le_of_ble_eq_true rfl, Nat.le_of_ble_eq_true rfl⟩) (kpreV hP hD hK hS hE hA [18, 11, 12] rfl rfl 18 rfl rfl rfl) rfl rfl hl.1 rfl (lv_room (Nat.le_of_ble_eq_true rfl)) dX5_shelf_79 ⟨Nat.zero_le _, Nat.zero_le _⟩) hP hD hS hA [18, 11, 12] rfl rfl rfl (fun H locs hP hD hS => ?_)
              refine lv_iconst (v := 1) hx hb dX5_shelf_82 rfl ?_
              cases hf
              exact kri hQ hAe hx hb hr hlocks hP hD hK hS dX5_shelf_83
            · rw [e4_19] at eo18
              subst eo18
              try rw [e4_19] at hf
              refine va_aldq hx hb hK hP 8 3 rfl rfl hi17 dX5_shelf_78 ?_
              rw [e4_19]
              refine lv_renV (v := .ref qs5) rfl ?_
              obtain ⟨v20, h21, hf⟩ := ob1_e hf
              refine kcv (Wx := (oTM q0 qn0 qk0 qr0 qc0 qt0 qd0 qs0 qf0 qw0 rowCount anyKept (oPort C qn0 qn1 qn2 qn3 qn4 qn5 qn6 now (oSheets C qs0 qs1 qs2 qs3 qs4 qs5 qs6 qs7 qs8 sheets (oShelves C qf0 qf1 qf2 qf3 qf4 (va_up shelves 0 v20) []))))) (va_runV (As := [.ref qs5]) (rest := []) ⟨hx, hb, hml, hown, hts⟩ (c_X3_holdRow l E D C qf1 qs5 qs6 H.size (shelves 0) (sheets 2) v20 h21) (cwV 1 hts gX5_shelf_X3_holdRow rfl rfl rfl hdX3_holdRow ⟨Nat.le_of_ble_eq_true rfl, Nat.le_of_ble_eq_true rfl⟩) (kpreV hP hD hK hS hE hA [18, 13, 14] rfl rfl 18 rfl rfl rfl) rfl rfl hl.1 rfl (lv_room (Nat.le_of_ble_eq_true rfl)) dX5_shelf_79 ⟨Nat.zero_le _, Nat.zero_le _⟩) hP hD hS hA [18, 13, 14] rfl rfl rfl (fun H locs hP hD hS => ?_)
              refine lv_iconst (v := 1) hx hb dX5_shelf_82 rfl ?_
              cases hf
              exact kri hQ hAe hx hb hr hlocks hP hD hK hS dX5_shelf_83
            · rw [e4_19] at eo18
              subst eo18
              try rw [e4_19] at hf
              refine va_aldq hx hb hK hP 8 3 rfl rfl hi17 dX5_shelf_78 ?_
              rw [e4_19]
              refine lv_renV (v := .ref qs7) rfl ?_
              obtain ⟨v20, h21, hf⟩ := ob1_e hf
              refine kcv (Wx := (oTM q0 qn0 qk0 qr0 qc0 qt0 qd0 qs0 qf0 qw0 rowCount anyKept (oPort C qn0 qn1 qn2 qn3 qn4 qn5 qn6 now (oSheets C qs0 qs1 qs2 qs3 qs4 qs5 qs6 qs7 qs8 sheets (oShelves C qf0 qf1 qf2 qf3 qf4 (va_up shelves 0 v20) []))))) (va_runV (As := [.ref qs7]) (rest := []) ⟨hx, hb, hml, hown, hts⟩ (c_X3_holdRow l E D C qf1 qs7 qs8 H.size (shelves 0) (sheets 3) v20 h21) (cwV 1 hts gX5_shelf_X3_holdRow rfl rfl rfl hdX3_holdRow ⟨Nat.le_of_ble_eq_true rfl, Nat.le_of_ble_eq_true rfl⟩) (kpreV hP hD hK hS hE hA [18, 15, 16] rfl rfl 18 rfl rfl rfl) rfl rfl hl.1 rfl (lv_room (Nat.le_of_ble_eq_true rfl)) dX5_shelf_79 ⟨Nat.zero_le _, Nat.zero_le _⟩) hP hD hS hA [18, 15, 16] rfl rfl rfl (fun H locs hP hD hS => ?_)
              refine lv_iconst (v := 1) hx hb dX5_shelf_82 rfl ?_
              cases hf
              exact kri hQ hAe hx hb hr hlocks hP hD hK hS dX5_shelf_83
          · rw [e4_16] at eo15
            subst eo15
            try rw [e4_16] at hf
            refine va_aldq hx hb hK hP 17 4 rfl rfl hi14 dX5_shelf_72 ?_
            rw [e4_16]
            refine lv_renV (v := .ref qf2) rfl ?_
            refine lv_aload_n hx hb dX5_shelf_73 rfl (lv_at hl 0 rfl) ?_
            refine va_get (D := D) (ci := 5) (v := .ref qs0) (C := RX5) (T := TX5) (N := 11) hx hb hts hi_RX5 hown hK hP 0 rfl rfl 6 (by decide) (hts (.fieldLink RX5 41 "TravelMarks" "sheets" "[LTravelMarks$Sheet;") (List.mem_of_getElem? (i := 2) rfl)) (fun _ h9 => h9) rfl dX5_shelf_74 ?_
            refine lv_iload_n hx hb dX5_shelf_77 rfl (lv_at hl 3 rfl) ?_
            obtain ⟨hi17, hf⟩ := ckA_e hf
            obtain ⟨o18, eo18, hf⟩ := lj_e hf
            rcases four hi17 with e4_19 | e4_19 | e4_19 | e4_19
            · rw [e4_19] at eo18
              subst eo18
              try rw [e4_19] at hf
              refine va_aldq hx hb hK hP 8 3 rfl rfl hi17 dX5_shelf_78 ?_
              rw [e4_19]
              refine lv_renV (v := .ref qs1) rfl ?_
              obtain ⟨v20, h21, hf⟩ := ob1_e hf
              refine kcv (Wx := (oTM q0 qn0 qk0 qr0 qc0 qt0 qd0 qs0 qf0 qw0 rowCount anyKept (oPort C qn0 qn1 qn2 qn3 qn4 qn5 qn6 now (oSheets C qs0 qs1 qs2 qs3 qs4 qs5 qs6 qs7 qs8 sheets (oShelves C qf0 qf1 qf2 qf3 qf4 (va_up shelves 1 v20) []))))) (va_runV (As := [.ref qs1]) (rest := []) ⟨hx, hb, hml, hown, hts⟩ (c_X3_holdRow l E D C qf2 qs1 qs2 H.size (shelves 1) (sheets 0) v20 h21) (cwV 1 hts gX5_shelf_X3_holdRow rfl rfl rfl hdX3_holdRow ⟨Nat.le_of_ble_eq_true rfl, Nat.le_of_ble_eq_true rfl⟩) (kpreV hP hD hK hS hE hA [19, 9, 10] rfl rfl 19 rfl rfl rfl) rfl rfl hl.1 rfl (lv_room (Nat.le_of_ble_eq_true rfl)) dX5_shelf_79 ⟨Nat.zero_le _, Nat.zero_le _⟩) hP hD hS hA [19, 9, 10] rfl rfl rfl (fun H locs hP hD hS => ?_)
              refine lv_iconst (v := 1) hx hb dX5_shelf_82 rfl ?_
              cases hf
              exact kri hQ hAe hx hb hr hlocks hP hD hK hS dX5_shelf_83
            · rw [e4_19] at eo18
              subst eo18
              try rw [e4_19] at hf
              refine va_aldq hx hb hK hP 8 3 rfl rfl hi17 dX5_shelf_78 ?_
              rw [e4_19]
              refine lv_renV (v := .ref qs3) rfl ?_
              obtain ⟨v20, h21, hf⟩ := ob1_e hf
              refine kcv (Wx := (oTM q0 qn0 qk0 qr0 qc0 qt0 qd0 qs0 qf0 qw0 rowCount anyKept (oPort C qn0 qn1 qn2 qn3 qn4 qn5 qn6 now (oSheets C qs0 qs1 qs2 qs3 qs4 qs5 qs6 qs7 qs8 sheets (oShelves C qf0 qf1 qf2 qf3 qf4 (va_up shelves 1 v20) []))))) (va_runV (As := [.ref qs3]) (rest := []) ⟨hx, hb, hml, hown, hts⟩ (c_X3_holdRow l E D C qf2 qs3 qs4 H.size (shelves 1) (sheets 1) v20 h21) (cwV 1 hts gX5_shelf_X3_holdRow rfl rfl rfl hdX3_holdRow ⟨Nat.le_of_ble_eq_true rfl, Nat.le_of_ble_eq_true rfl⟩) (kpreV hP hD hK hS hE hA [19, 11, 12] rfl rfl 19 rfl rfl rfl) rfl rfl hl.1 rfl (lv_room (Nat.le_of_ble_eq_true rfl)) dX5_shelf_79 ⟨Nat.zero_le _, Nat.zero_le _⟩) hP hD hS hA [19, 11, 12] rfl rfl rfl (fun H locs hP hD hS => ?_)
              refine lv_iconst (v := 1) hx hb dX5_shelf_82 rfl ?_
              cases hf
              exact kri hQ hAe hx hb hr hlocks hP hD hK hS dX5_shelf_83
            · rw [e4_19] at eo18
              subst eo18
              try rw [e4_19] at hf
              refine va_aldq hx hb hK hP 8 3 rfl rfl hi17 dX5_shelf_78 ?_
              rw [e4_19]
              refine lv_renV (v := .ref qs5) rfl ?_
              obtain ⟨v20, h21, hf⟩ := ob1_e hf
              refine kcv (Wx := (oTM q0 qn0 qk0 qr0 qc0 qt0 qd0 qs0 qf0 qw0 rowCount anyKept (oPort C qn0 qn1 qn2 qn3 qn4 qn5 qn6 now (oSheets C qs0 qs1 qs2 qs3 qs4 qs5 qs6 qs7 qs8 sheets (oShelves C qf0 qf1 qf2 qf3 qf4 (va_up shelves 1 v20) []))))) (va_runV (As := [.ref qs5]) (rest := []) ⟨hx, hb, hml, hown, hts⟩ (c_X3_holdRow l E D C qf2 qs5 qs6 H.size (shelves 1) (sheets 2) v20 h21) (cwV 1 hts gX5_shelf_X3_holdRow rfl rfl rfl hdX3_holdRow ⟨Nat.le_of_ble_eq_true rfl, Nat.le_of_ble_eq_true rfl⟩) (kpreV hP hD hK hS hE hA [19, 13, 14] rfl rfl 19 rfl rfl rfl) rfl rfl hl.1 rfl (lv_room (Nat.le_of_ble_eq_true rfl)) dX5_shelf_79 ⟨Nat.zero_le _, Nat.zero_le _⟩) hP hD hS hA [19, 13, 14] rfl rfl rfl (fun H locs hP hD hS => ?_)
              refine lv_iconst (v := 1) hx hb dX5_shelf_82 rfl ?_
              cases hf
              exact kri hQ hAe hx hb hr hlocks hP hD hK hS dX5_shelf_83
            · rw [e4_19] at eo18
              subst eo18
              try rw [e4_19] at hf
              refine va_aldq hx hb hK hP 8 3 rfl rfl hi17 dX5_shelf_78 ?_
              rw [e4_19]
              refine lv_renV (v := .ref qs7) rfl ?_
              obtain ⟨v20, h21, hf⟩ := ob1_e hf
              refine kcv (Wx := (oTM q0 qn0 qk0 qr0 qc0 qt0 qd0 qs0 qf0 qw0 rowCount anyKept (oPort C qn0 qn1 qn2 qn3 qn4 qn5 qn6 now (oSheets C qs0 qs1 qs2 qs3 qs4 qs5 qs6 qs7 qs8 sheets (oShelves C qf0 qf1 qf2 qf3 qf4 (va_up shelves 1 v20) []))))) (va_runV (As := [.ref qs7]) (rest := []) ⟨hx, hb, hml, hown, hts⟩ (c_X3_holdRow l E D C qf2 qs7 qs8 H.size (shelves 1) (sheets 3) v20 h21) (cwV 1 hts gX5_shelf_X3_holdRow rfl rfl rfl hdX3_holdRow ⟨Nat.le_of_ble_eq_true rfl, Nat.le_of_ble_eq_true rfl⟩) (kpreV hP hD hK hS hE hA [19, 15, 16] rfl rfl 19 rfl rfl rfl) rfl rfl hl.1 rfl (lv_room (Nat.le_of_ble_eq_true rfl)) dX5_shelf_79 ⟨Nat.zero_le _, Nat.zero_le _⟩) hP hD hS hA [19, 15, 16] rfl rfl rfl (fun H locs hP hD hS => ?_)
              refine lv_iconst (v := 1) hx hb dX5_shelf_82 rfl ?_
              cases hf
              exact kri hQ hAe hx hb hr hlocks hP hD hK hS dX5_shelf_83
          · rw [e4_16] at eo15
            subst eo15
            try rw [e4_16] at hf
            refine va_aldq hx hb hK hP 17 4 rfl rfl hi14 dX5_shelf_72 ?_
            rw [e4_16]
            refine lv_renV (v := .ref qf3) rfl ?_
            refine lv_aload_n hx hb dX5_shelf_73 rfl (lv_at hl 0 rfl) ?_
            refine va_get (D := D) (ci := 5) (v := .ref qs0) (C := RX5) (T := TX5) (N := 11) hx hb hts hi_RX5 hown hK hP 0 rfl rfl 6 (by decide) (hts (.fieldLink RX5 41 "TravelMarks" "sheets" "[LTravelMarks$Sheet;") (List.mem_of_getElem? (i := 2) rfl)) (fun _ h9 => h9) rfl dX5_shelf_74 ?_
            refine lv_iload_n hx hb dX5_shelf_77 rfl (lv_at hl 3 rfl) ?_
            obtain ⟨hi17, hf⟩ := ckA_e hf
            obtain ⟨o18, eo18, hf⟩ := lj_e hf
            rcases four hi17 with e4_19 | e4_19 | e4_19 | e4_19
            · rw [e4_19] at eo18
              subst eo18
              try rw [e4_19] at hf
              refine va_aldq hx hb hK hP 8 3 rfl rfl hi17 dX5_shelf_78 ?_
              rw [e4_19]
              refine lv_renV (v := .ref qs1) rfl ?_
              obtain ⟨v20, h21, hf⟩ := ob1_e hf
              refine kcv (Wx := (oTM q0 qn0 qk0 qr0 qc0 qt0 qd0 qs0 qf0 qw0 rowCount anyKept (oPort C qn0 qn1 qn2 qn3 qn4 qn5 qn6 now (oSheets C qs0 qs1 qs2 qs3 qs4 qs5 qs6 qs7 qs8 sheets (oShelves C qf0 qf1 qf2 qf3 qf4 (va_up shelves 2 v20) []))))) (va_runV (As := [.ref qs1]) (rest := []) ⟨hx, hb, hml, hown, hts⟩ (c_X3_holdRow l E D C qf3 qs1 qs2 H.size (shelves 2) (sheets 0) v20 h21) (cwV 1 hts gX5_shelf_X3_holdRow rfl rfl rfl hdX3_holdRow ⟨Nat.le_of_ble_eq_true rfl, Nat.le_of_ble_eq_true rfl⟩) (kpreV hP hD hK hS hE hA [20, 9, 10] rfl rfl 20 rfl rfl rfl) rfl rfl hl.1 rfl (lv_room (Nat.le_of_ble_eq_true rfl)) dX5_shelf_79 ⟨Nat.zero_le _, Nat.zero_le _⟩) hP hD hS hA [20, 9, 10] rfl rfl rfl (fun H locs hP hD hS => ?_)
              refine lv_iconst (v := 1) hx hb dX5_shelf_82 rfl ?_
              cases hf
              exact kri hQ hAe hx hb hr hlocks hP hD hK hS dX5_shelf_83
            · rw [e4_19] at eo18
              subst eo18
              try rw [e4_19] at hf
              refine va_aldq hx hb hK hP 8 3 rfl rfl hi17 dX5_shelf_78 ?_
              rw [e4_19]
              refine lv_renV (v := .ref qs3) rfl ?_
              obtain ⟨v20, h21, hf⟩ := ob1_e hf
              refine kcv (Wx := (oTM q0 qn0 qk0 qr0 qc0 qt0 qd0 qs0 qf0 qw0 rowCount anyKept (oPort C qn0 qn1 qn2 qn3 qn4 qn5 qn6 now (oSheets C qs0 qs1 qs2 qs3 qs4 qs5 qs6 qs7 qs8 sheets (oShelves C qf0 qf1 qf2 qf3 qf4 (va_up shelves 2 v20) []))))) (va_runV (As := [.ref qs3]) (rest := []) ⟨hx, hb, hml, hown, hts⟩ (c_X3_holdRow l E D C qf3 qs3 qs4 H.size (shelves 2) (sheets 1) v20 h21) (cwV 1 hts gX5_shelf_X3_holdRow rfl rfl rfl hdX3_holdRow ⟨Nat.le_of_ble_eq_true rfl, Nat.le_of_ble_eq_true rfl⟩) (kpreV hP hD hK hS hE hA [20, 11, 12] rfl rfl 20 rfl rfl rfl) rfl rfl hl.1 rfl (lv_room (Nat.le_of_ble_eq_true rfl)) dX5_shelf_79 ⟨Nat.zero_le _, Nat.zero_le _⟩) hP hD hS hA [20, 11, 12] rfl rfl rfl (fun H locs hP hD hS => ?_)
              refine lv_iconst (v := 1) hx hb dX5_shelf_82 rfl ?_
              cases hf
              exact kri hQ hAe hx hb hr hlocks hP hD hK hS dX5_shelf_83
            · rw [e4_19] at eo18
              subst eo18
              try rw [e4_19] at hf
              refine va_aldq hx hb hK hP 8 3 rfl rfl hi17 dX5_shelf_78 ?_
              rw [e4_19]
              refine lv_renV (v := .ref qs5) rfl ?_
              obtain ⟨v20, h21, hf⟩ := ob1_e hf
              refine kcv (Wx := (oTM q0 qn0 qk0 qr0 qc0 qt0 qd0 qs0 qf0 qw0 rowCount anyKept (oPort C qn0 qn1 qn2 qn3 qn4 qn5 qn6 now (oSheets C qs0 qs1 qs2 qs3 qs4 qs5 qs6 qs7 qs8 sheets (oShelves C qf0 qf1 qf2 qf3 qf4 (va_up shelves 2 v20) []))))) (va_runV (As := [.ref qs5]) (rest := []) ⟨hx, hb, hml, hown, hts⟩ (c_X3_holdRow l E D C qf3 qs5 qs6 H.size (shelves 2) (sheets 2) v20 h21) (cwV 1 hts gX5_shelf_X3_holdRow rfl rfl rfl hdX3_holdRow ⟨Nat.le_of_ble_eq_true rfl, Nat.le_of_ble_eq_true rfl⟩) (kpreV hP hD hK hS hE hA [20, 13, 14] rfl rfl 20 rfl rfl rfl) rfl rfl hl.1 rfl (lv_room (Nat.le_of_ble_eq_true rfl)) dX5_shelf_79 ⟨Nat.zero_le _, Nat.zero_le _⟩) hP hD hS hA [20, 13, 14] rfl rfl rfl (fun H locs hP hD hS => ?_)
              refine lv_iconst (v := 1) hx hb dX5_shelf_82 rfl ?_
              cases hf
              exact kri hQ hAe hx hb hr hlocks hP hD hK hS dX5_shelf_83
            · rw [e4_19] at eo18
              subst eo18
              try rw [e4_19] at hf
              refine va_aldq hx hb hK hP 8 3 rfl rfl hi17 dX5_shelf_78 ?_
              rw [e4_19]
              refine lv_renV (v := .ref qs7) rfl ?_
              obtain ⟨v20, h21, hf⟩ := ob1_e hf
              refine kcv (Wx := (oTM q0 qn0 qk0 qr0 qc0 qt0 qd0 qs0 qf0 qw0 rowCount anyKept (oPort C qn0 qn1 qn2 qn3 qn4 qn5 qn6 now (oSheets C qs0 qs1 qs2 qs3 qs4 qs5 qs6 qs7 qs8 sheets (oShelves C qf0 qf1 qf2 qf3 qf4 (va_up shelves 2 v20) []))))) (va_runV (As := [.ref qs7]) (rest := []) ⟨hx, hb, hml, hown, hts⟩ (c_X3_holdRow l E D C qf3 qs7 qs8 H.size (shelves 2) (sheets 3) v20 h21) (cwV 1 hts gX5_shelf_X3_holdRow rfl rfl rfl hdX3_holdRow ⟨Nat.le_of_ble_eq_true rfl, Nat.le_of_ble_eq_true rfl⟩) (kpreV hP hD hK hS hE hA [20, 15, 16] rfl rfl 20 rfl rfl rfl) rfl rfl hl.1 rfl (lv_room (Nat.le_of_ble_eq_true rfl)) dX5_shelf_79 ⟨Nat.zero_le _, Nat.zero_le _⟩) hP hD hS hA [20, 15, 16] rfl rfl rfl (fun H locs hP hD hS => ?_)
              refine lv_iconst (v := 1) hx hb dX5_shelf_82 rfl ?_
              cases hf
              exact kri hQ hAe hx hb hr hlocks hP hD hK hS dX5_shelf_83
          · rw [e4_16] at eo15
            subst eo15
            try rw [e4_16] at hf
            refine va_aldq hx hb hK hP 17 4 rfl rfl hi14 dX5_shelf_72 ?_
            rw [e4_16]
            refine lv_renV (v := .ref qf4) rfl ?_
            refine lv_aload_n hx hb dX5_shelf_73 rfl (lv_at hl 0 rfl) ?_
            refine va_get (D := D) (ci := 5) (v := .ref qs0) (C := RX5) (T := TX5) (N := 11) hx hb hts hi_RX5 hown hK hP 0 rfl rfl 6 (by decide) (hts (.fieldLink RX5 41 "TravelMarks" "sheets" "[LTravelMarks$Sheet;") (List.mem_of_getElem? (i := 2) rfl)) (fun _ h9 => h9) rfl dX5_shelf_74 ?_
            refine lv_iload_n hx hb dX5_shelf_77 rfl (lv_at hl 3 rfl) ?_
            obtain ⟨hi17, hf⟩ := ckA_e hf
            obtain ⟨o18, eo18, hf⟩ := lj_e hf
            rcases four hi17 with e4_19 | e4_19 | e4_19 | e4_19
            · rw [e4_19] at eo18
              subst eo18
              try rw [e4_19] at hf
              refine va_aldq hx hb hK hP 8 3 rfl rfl hi17 dX5_shelf_78 ?_
              rw [e4_19]
              refine lv_renV (v := .ref qs1) rfl ?_
              obtain ⟨v20, h21, hf⟩ := ob1_e hf
              refine kcv (Wx := (oTM q0 qn0 qk0 qr0 qc0 qt0 qd0 qs0 qf0 qw0 rowCount anyKept (oPort C qn0 qn1 qn2 qn3 qn4 qn5 qn6 now (oSheets C qs0 qs1 qs2 qs3 qs4 qs5 qs6 qs7 qs8 sheets (oShelves C qf0 qf1 qf2 qf3 qf4 (va_up shelves 3 v20) []))))) (va_runV (As := [.ref qs1]) (rest := []) ⟨hx, hb, hml, hown, hts⟩ (c_X3_holdRow l E D C qf4 qs1 qs2 H.size (shelves 3) (sheets 0) v20 h21) (cwV 1 hts gX5_shelf_X3_holdRow rfl rfl rfl hdX3_holdRow ⟨Nat.le_of_ble_eq_true rfl, Nat.le_of_ble_eq_true rfl⟩) (kpreV hP hD hK hS hE hA [21, 9, 10] rfl rfl 21 rfl rfl rfl) rfl rfl hl.1 rfl (lv_room (Nat.le_of_ble_eq_true rfl)) dX5_shelf_79 ⟨Nat.zero_le _, Nat.zero_le _⟩) hP hD hS hA [21, 9, 10] rfl rfl rfl (fun H locs hP hD hS => ?_)
              refine lv_iconst (v := 1) hx hb dX5_shelf_82 rfl ?_
              cases hf
              exact kri hQ hAe hx hb hr hlocks hP hD hK hS dX5_shelf_83
            · rw [e4_19] at eo18
              subst eo18
              try rw [e4_19] at hf
              refine va_aldq hx hb hK hP 8 3 rfl rfl hi17 dX5_shelf_78 ?_
              rw [e4_19]
              refine lv_renV (v := .ref qs3) rfl ?_
              obtain ⟨v20, h21, hf⟩ := ob1_e hf
              refine kcv (Wx := (oTM q0 qn0 qk0 qr0 qc0 qt0 qd0 qs0 qf0 qw0 rowCount anyKept (oPort C qn0 qn1 qn2 qn3 qn4 qn5 qn6 now (oSheets C qs0 qs1 qs2 qs3 qs4 qs5 qs6 qs7 qs8 sheets (oShelves C qf0 qf1 qf2 qf3 qf4 (va_up shelves 3 v20) []))))) (va_runV (As := [.ref qs3]) (rest := []) ⟨hx, hb, hml, hown, hts⟩ (c_X3_holdRow l E D C qf4 qs3 qs4 H.size (shelves 3) (sheets 1) v20 h21) (cwV 1 hts gX5_shelf_X3_holdRow rfl rfl rfl hdX3_holdRow ⟨Nat.le_of_ble_eq_true rfl, Nat.le_of_ble_eq_true rfl⟩) (kpreV hP hD hK hS hE hA [21, 11, 12] rfl rfl 21 rfl rfl rfl) rfl rfl hl.1 rfl (lv_room (Nat.le_of_ble_eq_true rfl)) dX5_shelf_79 ⟨Nat.zero_le _, Nat.zero_le _⟩) hP hD hS hA [21, 11, 12] rfl rfl rfl (fun H locs hP hD hS => ?_)
              refine lv_iconst (v := 1) hx hb dX5_shelf_82 rfl ?_
              cases hf
              exact kri hQ hAe hx hb hr hlocks hP hD hK hS dX5_shelf_83
            · rw [e4_19] at eo18
              subst eo18
              try rw [e4_19] at hf
              refine va_aldq hx hb hK hP 8 3 rfl rfl hi17 dX5_shelf_78 ?_
              rw [e4_19]
              refine lv_renV (v := .ref qs5) rfl ?_
              obtain ⟨v20, h21, hf⟩ := ob1_e hf
              refine kcv (Wx := (oTM q0 qn0 qk0 qr0 qc0 qt0 qd0 qs0 qf0 qw0 rowCount anyKept (oPort C qn0 qn1 qn2 qn3 qn4 qn5 qn6 now (oSheets C qs0 qs1 qs2 qs3 qs4 qs5 qs6 qs7 qs8 sheets (oShelves C qf0 qf1 qf2 qf3 qf4 (va_up shelves 3 v20) []))))) (va_runV (As := [.ref qs5]) (rest := []) ⟨hx, hb, hml, hown, hts⟩ (c_X3_holdRow l E D C qf4 qs5 qs6 H.size (shelves 3) (sheets 2) v20 h21) (cwV 1 hts gX5_shelf_X3_holdRow rfl rfl rfl hdX3_holdRow ⟨Nat.le_of_ble_eq_true rfl, Nat.le_of_ble_eq_true rfl⟩) (kpreV hP hD hK hS hE hA [21, 13, 14] rfl rfl 21 rfl rfl rfl) rfl rfl hl.1 rfl (lv_room (Nat.le_of_ble_eq_true rfl)) dX5_shelf_79 ⟨Nat.zero_le _, Nat.zero_le _⟩) hP hD hS hA [21, 13, 14] rfl rfl rfl (fun H locs hP hD hS => ?_)
              refine lv_iconst (v := 1) hx hb dX5_shelf_82 rfl ?_
              cases hf
              exact kri hQ hAe hx hb hr hlocks hP hD hK hS dX5_shelf_83
            · rw [e4_19] at eo18
              subst eo18
              try rw [e4_19] at hf
              refine va_aldq hx hb hK hP 8 3 rfl rfl hi17 dX5_shelf_78 ?_
              rw [e4_19]
              refine lv_renV (v := .ref qs7) rfl ?_
              obtain ⟨v20, h21, hf⟩ := ob1_e hf
              refine kcv (Wx := (oTM q0 qn0 qk0 qr0 qc0 qt0 qd0 qs0 qf0 qw0 rowCount anyKept (oPort C qn0 qn1 qn2 qn3 qn4 qn5 qn6 now (oSheets C qs0 qs1 qs2 qs3 qs4 qs5 qs6 qs7 qs8 sheets (oShelves C qf0 qf1 qf2 qf3 qf4 (va_up shelves 3 v20) []))))) (va_runV (As := [.ref qs7]) (rest := []) ⟨hx, hb, hml, hown, hts⟩ (c_X3_holdRow l E D C qf4 qs7 qs8 H.size (shelves 3) (sheets 3) v20 h21) (cwV 1 hts gX5_shelf_X3_holdRow rfl rfl rfl hdX3_holdRow ⟨Nat.le_of_ble_eq_true rfl, Nat.le_of_ble_eq_true rfl⟩) (kpreV hP hD hK hS hE hA [21, 15, 16] rfl rfl 21 rfl rfl rfl) rfl rfl hl.1 rfl (lv_room (Nat.le_of_ble_eq_true rfl)) dX5_shelf_79 ⟨Nat.zero_le _, Nat.zero_le _⟩) hP hD hS hA [21, 15, 16] rfl rfl rfl (fun H locs hP hD hS => ?_)
              refine lv_iconst (v := 1) hx hb dX5_shelf_82 rfl ?_
              cases hf
              exact kri hQ hAe hx hb hr hlocks hP hD hK hS dX5_shelf_83
        · replace hf := if_te c13 hf
          refine lv_iconst (v := (-1)) hx hb dX5_shelf_65 rfl ?_
          cases hf
          exact kri hQ hAe hx hb hr hlocks hP hD hK hS dX5_shelf_66
      replace hf := if_fe c11 hf
      by_cases c22 : x1 = 2
      · replace hf := if_te c22 hf
        refine lv_tableIn (x := x1) (tgt := 84) (off := 74) hx hb dX5_shelf_10 (by rw [c22]; decide) (by rw [c22]; decide) (by rw [c22]; try rfl) (by decide) ?_
        refine lv_aload_n hx hb dX5_shelf_84 rfl (lv_at hl 0 rfl) ?_
        refine va_get (D := D) (ci := 5) (v := .ref qf0) (C := RX5) (T := TX5) (N := 11) hx hb hts hi_RX5 hown hK hP 0 rfl rfl 7 (by decide) (hts (.fieldLink RX5 47 "TravelMarks" "shelves" "[LTravelMarks$Shelf;") (List.mem_of_getElem? (i := 1) rfl)) (fun _ h9 => h9) rfl dX5_shelf_85 ?_
        refine lv_iload_n hx hb dX5_shelf_88 rfl (lv_at hl 1 rfl) ?_
        obtain ⟨hi23, hf⟩ := ckA_e hf
        obtain ⟨o24, eo24, hf⟩ := lj_e hf
        rcases four hi23 with e4_25 | e4_25 | e4_25 | e4_25
        · rw [e4_25] at eo24
          subst eo24
          try rw [e4_25] at hf
          refine va_aldq hx hb hK hP 17 4 rfl rfl hi23 dX5_shelf_89 ?_
          rw [e4_25]
          refine lv_renV (v := .ref qf1) rfl ?_
          refine lv_iconst (v := 2) hx hb dX5_shelf_90 rfl ?_
          refine va_put (D := D) (ci := 3) (v := .int 2) (ty := .int) (C := RX3) (T := TX3) (N := 4) hx hb hts hi_RX3 tyX3 tyX3_ok nmX3 hown hK hP hD hS 18 rfl rfl 0 (by decide) (hts (.fieldLink RX5 273 "TravelMarks$Shelf" "holding" "I") (List.mem_of_getElem? (i := 3) rfl)) (fun _ h9 => h9) rfl (tyX3_ok 0 (by decide)) rfl rfl (Nat.le_of_ble_eq_true rfl) dX5_shelf_91 (fun H locs hP hD hS => ?_)
          have hP : va_P D vwCl (oTM q0 qn0 qk0 qr0 qc0 qt0 qd0 qs0 qf0 qw0 rowCount anyKept (oPort C qn0 qn1 qn2 qn3 qn4 qn5 qn6 now (oSheets C qs0 qs1 qs2 qs3 qs4 qs5 qs6 qs7 qs8 sheets (oShelves C qf0 qf1 qf2 qf3 qf4 (va_up shelves 0 (sfSetHolding (shelves 0) 2)) [])))) H := hP
          have hD : va_D A (oTM q0 qn0 qk0 qr0 qc0 qt0 qd0 qs0 qf0 qw0 rowCount anyKept (oPort C qn0 qn1 qn2 qn3 qn4 qn5 qn6 now (oSheets C qs0 qs1 qs2 qs3 qs4 qs5 qs6 qs7 qs8 sheets (oShelves C qf0 qf1 qf2 qf3 qf4 (va_up shelves 0 (sfSetHolding (shelves 0) 2)) [])))) := hD
          refine lv_iconst (v := 1) hx hb dX5_shelf_94 rfl ?_
          cases hf
          exact kri hQ hAe hx hb hr hlocks hP hD hK hS dX5_shelf_95
        · rw [e4_25] at eo24
          subst eo24
          try rw [e4_25] at hf
          refine va_aldq hx hb hK hP 17 4 rfl rfl hi23 dX5_shelf_89 ?_
          rw [e4_25]
          refine lv_renV (v := .ref qf2) rfl ?_
          refine lv_iconst (v := 2) hx hb dX5_shelf_90 rfl ?_
          refine va_put (D := D) (ci := 3) (v := .int 2) (ty := .int) (C := RX3) (T := TX3) (N := 4) hx hb hts hi_RX3 tyX3 tyX3_ok nmX3 hown hK hP hD hS 19 rfl rfl 0 (by decide) (hts (.fieldLink RX5 273 "TravelMarks$Shelf" "holding" "I") (List.mem_of_getElem? (i := 3) rfl)) (fun _ h9 => h9) rfl (tyX3_ok 0 (by decide)) rfl rfl (Nat.le_of_ble_eq_true rfl) dX5_shelf_91 (fun H locs hP hD hS => ?_)
          have hP : va_P D vwCl (oTM q0 qn0 qk0 qr0 qc0 qt0 qd0 qs0 qf0 qw0 rowCount anyKept (oPort C qn0 qn1 qn2 qn3 qn4 qn5 qn6 now (oSheets C qs0 qs1 qs2 qs3 qs4 qs5 qs6 qs7 qs8 sheets (oShelves C qf0 qf1 qf2 qf3 qf4 (va_up shelves 1 (sfSetHolding (shelves 1) 2)) [])))) H := hP
          have hD : va_D A (oTM q0 qn0 qk0 qr0 qc0 qt0 qd0 qs0 qf0 qw0 rowCount anyKept (oPort C qn0 qn1 qn2 qn3 qn4 qn5 qn6 now (oSheets C qs0 qs1 qs2 qs3 qs4 qs5 qs6 qs7 qs8 sheets (oShelves C qf0 qf1 qf2 qf3 qf4 (va_up shelves 1 (sfSetHolding (shelves 1) 2)) [])))) := hD
          refine lv_iconst (v := 1) hx hb dX5_shelf_94 rfl ?_
          cases hf
          exact kri hQ hAe hx hb hr hlocks hP hD hK hS dX5_shelf_95
        · rw [e4_25] at eo24
          subst eo24
          try rw [e4_25] at hf
          refine va_aldq hx hb hK hP 17 4 rfl rfl hi23 dX5_shelf_89 ?_
          rw [e4_25]
          refine lv_renV (v := .ref qf3) rfl ?_
          refine lv_iconst (v := 2) hx hb dX5_shelf_90 rfl ?_
          refine va_put (D := D) (ci := 3) (v := .int 2) (ty := .int) (C := RX3) (T := TX3) (N := 4) hx hb hts hi_RX3 tyX3 tyX3_ok nmX3 hown hK hP hD hS 20 rfl rfl 0 (by decide) (hts (.fieldLink RX5 273 "TravelMarks$Shelf" "holding" "I") (List.mem_of_getElem? (i := 3) rfl)) (fun _ h9 => h9) rfl (tyX3_ok 0 (by decide)) rfl rfl (Nat.le_of_ble_eq_true rfl) dX5_shelf_91 (fun H locs hP hD hS => ?_)
          have hP : va_P D vwCl (oTM q0 qn0 qk0 qr0 qc0 qt0 qd0 qs0 qf0 qw0 rowCount anyKept (oPort C qn0 qn1 qn2 qn3 qn4 qn5 qn6 now (oSheets C qs0 qs1 qs2 qs3 qs4 qs5 qs6 qs7 qs8 sheets (oShelves C qf0 qf1 qf2 qf3 qf4 (va_up shelves 2 (sfSetHolding (shelves 2) 2)) [])))) H := hP
          have hD : va_D A (oTM q0 qn0 qk0 qr0 qc0 qt0 qd0 qs0 qf0 qw0 rowCount anyKept (oPort C qn0 qn1 qn2 qn3 qn4 qn5 qn6 now (oSheets C qs0 qs1 qs2 qs3 qs4 qs5 qs6 qs7 qs8 sheets (oShelves C qf0 qf1 qf2 qf3 qf4 (va_up shelves 2 (sfSetHolding (shelves 2) 2)) [])))) := hD
          refine lv_iconst (v := 1) hx hb dX5_shelf_94 rfl ?_
          cases hf
          exact kri hQ hAe hx hb hr hlocks hP hD hK hS dX5_shelf_95
        · rw [e4_25] at eo24
          subst eo24
          try rw [e4_25] at hf
          refine va_aldq hx hb hK hP 17 4 rfl rfl hi23 dX5_shelf_89 ?_
          rw [e4_25]
          refine lv_renV (v := .ref qf4) rfl ?_
          refine lv_iconst (v := 2) hx hb dX5_shelf_90 rfl ?_
          refine va_put (D := D) (ci := 3) (v := .int 2) (ty := .int) (C := RX3) (T := TX3) (N := 4) hx hb hts hi_RX3 tyX3 tyX3_ok nmX3 hown hK hP hD hS 21 rfl rfl 0 (by decide) (hts (.fieldLink RX5 273 "TravelMarks$Shelf" "holding" "I") (List.mem_of_getElem? (i := 3) rfl)) (fun _ h9 => h9) rfl (tyX3_ok 0 (by decide)) rfl rfl (Nat.le_of_ble_eq_true rfl) dX5_shelf_91 (fun H locs hP hD hS => ?_)
          have hP : va_P D vwCl (oTM q0 qn0 qk0 qr0 qc0 qt0 qd0 qs0 qf0 qw0 rowCount anyKept (oPort C qn0 qn1 qn2 qn3 qn4 qn5 qn6 now (oSheets C qs0 qs1 qs2 qs3 qs4 qs5 qs6 qs7 qs8 sheets (oShelves C qf0 qf1 qf2 qf3 qf4 (va_up shelves 3 (sfSetHolding (shelves 3) 2)) [])))) H := hP
          have hD : va_D A (oTM q0 qn0 qk0 qr0 qc0 qt0 qd0 qs0 qf0 qw0 rowCount anyKept (oPort C qn0 qn1 qn2 qn3 qn4 qn5 qn6 now (oSheets C qs0 qs1 qs2 qs3 qs4 qs5 qs6 qs7 qs8 sheets (oShelves C qf0 qf1 qf2 qf3 qf4 (va_up shelves 3 (sfSetHolding (shelves 3) 2)) [])))) := hD
          refine lv_iconst (v := 1) hx hb dX5_shelf_94 rfl ?_
          cases hf
          exact kri hQ hAe hx hb hr hlocks hP hD hK hS dX5_shelf_95
      replace hf := if_fe c22 hf
      refine lv_tableOut (x := x1) (tgt := 96) hx hb dX5_shelf_10 (swo_0_2 c3 c11 c22) (by decide) ?_
      refine lv_iconst (v := (-1)) hx hb dX5_shelf_96 rfl ?_
      cases hf
      exact kri hQ hAe hx hb hr hlocks hP hD hK hS dX5_shelf_97
    · replace hf := if_te c2 hf
      refine lv_iconst (v := (-1)) hx hb dX5_shelf_7 rfl ?_
      cases hf
      exact kri hQ hAe hx hb hr hlocks hP hD hK hS dX5_shelf_8
  exact main _ _ hP hD hS

def rmX5_heldBy : Room := { frames := 2, cells := 0, slots := 0, locals := 43 }
theorem hdX5_heldBy : yX5_heldBy.cls = RX5 ∧ yX5_heldBy.cls ≠ "java/lang/invoke/MethodHandle" ∧ yX5_heldBy.cls ≠ "java/lang/invoke/VarHandle" ∧ (parseMethodDescriptor yX5_heldBy.desc).map (fun d => d.parameters.length) = some 1 := by decide +kernel
set_option maxHeartbeats 40000000 in
set_option maxRecDepth 100000 in
theorem c_X5_heldBy (l : Launch) (E : Nat → Nat) (D : va_G) (C : Nat → ClassId) (q0 qn0 qk0 qr0 qc0 qt0 qd0 qs0 qf0 qw0 qn1 qn2 qn3 qn4 qn5 qn6 b0_0 : Nat) (sz : Nat) (rowCount : Int32) (anyKept : Int32) (now : PV) (w0 : FV)  (r : Int32) (hf : f_X5_heldBy now w0 = r) : Met l yX5_heldBy wsX5_heldBy rmX5_heldBy (PC E D C [.ref q0, .ref b0_0] (oTM q0 qn0 qk0 qr0 qc0 qt0 qd0 qs0 qf0 qw0 rowCount anyKept (oPort C qn0 qn1 qn2 qn3 qn4 qn5 qn6 now (oShelf C b0_0 w0 []))) sz) (QI D C (oTM q0 qn0 qk0 qr0 qc0 qt0 qd0 qs0 qf0 qw0 rowCount anyKept (oPort C qn0 qn1 qn2 qn3 qn4 qn5 qn6 now (oShelf C b0_0 w0 []))) (oTM q0 qn0 qk0 qr0 qc0 qt0 qd0 qs0 qf0 qw0 rowCount anyKept (oPort C qn0 qn1 qn2 qn3 qn4 qn5 qn6 now (oShelf C b0_0 w0 []))) sz r) 0 0 (va_A (oTM q0 qn0 qk0 qr0 qc0 qt0 qd0 qs0 qf0 qw0 rowCount anyKept (oPort C qn0 qn1 qn2 qn3 qn4 qn5 qn6 now (oShelf C b0_0 w0 []))) sz) := by
  refine Met.ofW (cc := cX5_heldBy) (maxL := 2) (ret := (some .int)) (by decide) rfl ?_
  intro p e s m args below meth c s₁ B hml hv
  obtain ⟨rfl, hsz, hP, hK, hD0, hE⟩ := hv
  have hx := B.exec
  have hb := B.bytes
  have hr := B.returns
  have hts := atoms_spec (ws := wsX5_heldBy) B.pre
  have hown : s.vm.findClass RX5 = some m.cls := findClass_of_methodNamed B.named
  have hlocks := B.notSynchronized
  subst hsz
  have hi_RX3 : ∀ w ∈ wsX30, w ∈ wsX5_heldBy := fun _ h => List.mem_cons_of_mem _ (List.mem_append_left _ (List.mem_append_left _ (List.mem_append_right _ h)))
  have hD := hD0.self (sz := s.heap.size)
  obtain ⟨A, hAe⟩ := nm_ex (va_A (oTM q0 qn0 qk0 qr0 qc0 qt0 qd0 qs0 qf0 qw0 rowCount anyKept (oPort C qn0 qn1 qn2 qn3 qn4 qn5 qn6 now (oShelf C b0_0 w0 []))) s.heap.size)
  rw [← hAe] at hD hE ⊢
  have hA : ∀ q : Nat, s.heap.size ≤ q → A q := fun q h => by rw [hAe]; exact Or.inr h
  have hS : va_S A s.heap s.heap [] := va_S.rf
  have hl := lv_entry ([.ref q0, .ref b0_0]) (n := 2) (Nat.le_of_ble_eq_true rfl)
  rw [lg_entry_eq]
  generalize (lg_sl ([.ref q0, .ref b0_0]) ++ List.replicate (2 - (lg_sl ([.ref q0, .ref b0_0])).length) Slot.unset).toArray = ls at hl ⊢
  have hl : lv_has ls 2 [(0, .ref q0), (1, .ref b0_0)] := hl
  obtain ⟨Q, hQ⟩ := nm_ex (MQ below (QI D C (oTM q0 qn0 qk0 qr0 qc0 qt0 qd0 qs0 qf0 qw0 rowCount anyKept (oPort C qn0 qn1 qn2 qn3 qn4 qn5 qn6 now (oShelf C b0_0 w0 []))) (oTM q0 qn0 qk0 qr0 qc0 qt0 qd0 qs0 qf0 qw0 rowCount anyKept (oPort C qn0 qn1 qn2 qn3 qn4 qn5 qn6 now (oShelf C b0_0 w0 []))) s.heap.size r) (List.toArray [Value.ref q0, Value.ref b0_0]) s 0 0 A)
  show W p l e (headSpec wsX5_heldBy (rmX5_heldBy)).room s m (List.toArray [Value.ref q0, Value.ref b0_0]) below meth c s.heap [] 0 0 (MQ below (QI D C (oTM q0 qn0 qk0 qr0 qc0 qt0 qd0 qs0 qf0 qw0 rowCount anyKept (oPort C qn0 qn1 qn2 qn3 qn4 qn5 qn6 now (oShelf C b0_0 w0 []))) (oTM q0 qn0 qk0 qr0 qc0 qt0 qd0 qs0 qf0 qw0 rowCount anyKept (oPort C qn0 qn1 qn2 qn3 qn4 qn5 qn6 now (oShelf C b0_0 w0 []))) s.heap.size r) (List.toArray [Value.ref q0, Value.ref b0_0]) s 0 0 A) _
  rw [← hQ]
  unfold f_X5_heldBy at hf
  have main : ∀ (H : Heap) (locs : List Loc), va_P D vwCl (oTM q0 qn0 qk0 qr0 qc0 qt0 qd0 qs0 qf0 qw0 rowCount anyKept (oPort C qn0 qn1 qn2 qn3 qn4 qn5 qn6 now (oShelf C b0_0 w0 []))) H → va_D A (oTM q0 qn0 qk0 qr0 qc0 qt0 qd0 qs0 qf0 qw0 rowCount anyKept (oPort C qn0 qn1 qn2 qn3 qn4 qn5 qn6 now (oShelf C b0_0 w0 []))) → va_S A s.heap H locs → W p l e (headSpec wsX5_heldBy (rmX5_heldBy)).room s m (List.toArray [Value.ref q0, Value.ref b0_0]) below meth c H locs 0 0 Q (F0 m 0 ls []) := by
    intro H locs hP hD hS
    refine lv_aload_n hx hb dX5_heldBy_0 rfl (lv_at hl 1 rfl) ?_
    refine va_get (D := D) (ci := 3) (v := .int (sfHolding w0)) (C := RX3) (T := TX3) (N := 4) hx hb hts hi_RX3 hown hK hP 8 rfl rfl 0 (by decide) (hts (.fieldLink RX5 273 "TravelMarks$Shelf" "holding" "I") (List.mem_of_getElem? (i := 1) rfl)) (fun _ h9 => h9) rfl dX5_heldBy_1 ?_
    refine lv_if_ne (tgt := 22) hx hb dX5_heldBy_4 (by decide) (fun c1 => ?_) (fun c1 => ?_)
    · replace hf := if_fe c1 hf
      refine lv_aload_n hx hb dX5_heldBy_22 rfl (lv_at hl 1 rfl) ?_
      refine va_get (D := D) (ci := 3) (v := .int (sfHolding w0)) (C := RX3) (T := TX3) (N := 4) hx hb hts hi_RX3 hown hK hP 8 rfl rfl 0 (by decide) (hts (.fieldLink RX5 273 "TravelMarks$Shelf" "holding" "I") (List.mem_of_getElem? (i := 1) rfl)) (fun _ h9 => h9) rfl dX5_heldBy_23 ?_
      cases hf
      exact kri hQ hAe hx hb hr hlocks hP hD hK hS dX5_heldBy_26
    · replace hf := if_te c1 hf
      refine lv_aload_n hx hb dX5_heldBy_7 rfl (lv_at hl 0 rfl) ?_
      refine lv_aload_n hx hb dX5_heldBy_8 rfl (lv_at hl 1 rfl) ?_
      refine va_get (D := D) (ci := 3) (v := .int (sfNumber w0)) (C := RX3) (T := TX3) (N := 4) hx hb hts hi_RX3 hown hK hP 8 rfl rfl 1 (by decide) (hts (.fieldLink RX5 282 "TravelMarks$Shelf" "number" "I") (List.mem_of_getElem? (i := 2) rfl)) (fun _ h9 => h9) rfl dX5_heldBy_9 ?_
      refine kcz (Wx := (oTM q0 qn0 qk0 qr0 qc0 qt0 qd0 qs0 qf0 qw0 rowCount anyKept (oPort C qn0 qn1 qn2 qn3 qn4 qn5 qn6 now (oShelf C b0_0 w0 [])))) (va_runV (As := [.int (sfNumber w0)]) (rest := []) ⟨hx, hb, hml, hown, hts⟩ (c_X5_isMark l E D C q0 qn0 qk0 qr0 qc0 qt0 qd0 qs0 qf0 qw0 qn1 qn2 qn3 qn4 qn5 qn6 H.size rowCount anyKept now (sfNumber w0) _ rfl) (cwV 1 hts gX5_heldBy_X5_isMark rfl rfl rfl hdX5_isMark ⟨Nat.le_of_ble_eq_true rfl, Nat.le_of_ble_eq_true rfl⟩) (kpreV hP hD hK hS hE hA [0, 1, 2, 3, 4, 5, 6, 7] rfl rfl 0 rfl rfl rfl) rfl rfl hl.1 rfl (lv_room (Nat.le_of_ble_eq_true rfl)) dX5_heldBy_12 ⟨Nat.zero_le _, Nat.zero_le _⟩) hP hD hS hA [0, 1, 2, 3, 4, 5, 6, 7] rfl rfl rfl (fun H locs hz2 hP hD hS => ?_)
      refine lv_if_ne (tgt := 22) hx hb dX5_heldBy_15 (by decide) (fun c3 => ?_) (fun c3 => ?_)
      · replace hf := if_fe c3 hf
        refine lv_aload_n hx hb dX5_heldBy_22 rfl (lv_at hl 1 rfl) ?_
        refine va_get (D := D) (ci := 3) (v := .int (sfHolding w0)) (C := RX3) (T := TX3) (N := 4) hx hb hts hi_RX3 hown hK hP 8 rfl rfl 0 (by decide) (hts (.fieldLink RX5 273 "TravelMarks$Shelf" "holding" "I") (List.mem_of_getElem? (i := 1) rfl)) (fun _ h9 => h9) rfl dX5_heldBy_23 ?_
        cases hf
        exact kri hQ hAe hx hb hr hlocks hP hD hK hS dX5_heldBy_26
      · replace hf := if_te c3 hf
        refine lv_iconst (v := 2) hx hb dX5_heldBy_18 rfl ?_
        refine lv_goto (tgt := 26) hx hb dX5_heldBy_19 (by decide) ?_
        cases hf
        exact kri hQ hAe hx hb hr hlocks hP hD hK hS dX5_heldBy_26
  exact main _ _ hP hD hS

def rmX5_isUnder : Room := { frames := 2, cells := 0, slots := 0, locals := 42 }
theorem hdX5_isUnder : yX5_isUnder.cls ≠ "java/lang/invoke/MethodHandle" ∧ yX5_isUnder.cls ≠ "java/lang/invoke/VarHandle" ∧ (parseMethodDescriptor yX5_isUnder.desc).map (fun d => d.parameters.length) = some 2 := by decide +kernel
set_option maxHeartbeats 40000000 in
set_option maxRecDepth 100000 in
theorem c_X5_isUnder (l : Launch) (E : Nat → Nat) (D : va_G) (C : Nat → ClassId) (sz : Nat) (N : Nat)  (x0 : Int32) (x1 : Int32) (r : Int32) (hf : f_X5_isUnder N x0 x1 = some r) : Met l yX5_isUnder wsX5_isUnder rmX5_isUnder (PC E D C [.int x0, .int x1] [] sz) (QZ D C [] [] sz r) 0 0 (va_A [] sz) := by
  refine Met.ofW (cc := cX5_isUnder) (maxL := 4) (ret := (some .boolean)) (by decide) rfl ?_
  intro p e s m args below meth c s₁ B hml hv
  obtain ⟨rfl, hsz, hP, hK, hD0, hE⟩ := hv
  have hx := B.exec
  have hb := B.bytes
  have hr := B.returns
  have hts := atoms_spec (ws := wsX5_isUnder) B.pre
  have hown : s.vm.findClass RX5 = some m.cls := findClass_of_methodNamed B.named
  have hlocks := B.notSynchronized
  subst hsz
  have hD := hD0.self (sz := s.heap.size)
  obtain ⟨A, hAe⟩ := nm_ex (va_A [] s.heap.size)
  rw [← hAe] at hD hE ⊢
  have hA : ∀ q : Nat, s.heap.size ≤ q → A q := fun q h => by rw [hAe]; exact Or.inr h
  have hS : va_S A s.heap s.heap [] := va_S.rf
  have hl := lv_entry ([.int x0, .int x1]) (n := 4) (Nat.le_of_ble_eq_true rfl)
  rw [lg_entry_eq]
  generalize (lg_sl ([.int x0, .int x1]) ++ List.replicate (4 - (lg_sl ([.int x0, .int x1])).length) Slot.unset).toArray = ls at hl ⊢
  have hl : lv_has ls 4 [(0, .int x0), (1, .int x1)] := hl
  obtain ⟨Q, hQ⟩ := nm_ex (MQ below (QZ D C [] [] s.heap.size r) (List.toArray [Value.int x0, Value.int x1]) s 0 0 A)
  show W p l e (headSpec wsX5_isUnder (rmX5_isUnder)).room s m (List.toArray [Value.int x0, Value.int x1]) below meth c s.heap [] 0 0 (MQ below (QZ D C [] [] s.heap.size r) (List.toArray [Value.int x0, Value.int x1]) s 0 0 A) _
  rw [← hQ]
  unfold f_X5_isUnder at hf
  have main : ∀ (H : Heap) (locs : List Loc), va_P D vwCl [] H → va_D A [] → va_S A s.heap H locs → W p l e (headSpec wsX5_isUnder (rmX5_isUnder)).room s m (List.toArray [Value.int x0, Value.int x1]) below meth c H locs 0 0 Q (F0 m 0 ls []) := by
    intro H locs hP hD hS
    refine lv_iload_n hx hb dX5_isUnder_0 rfl (lv_at hl 0 rfl) ?_
    refine lv_istore_n (lv' := [(2, .int x0), (0, .int x0), (1, .int x1)]) hx hb dX5_isUnder_1 rfl hl (by decide) rfl (fun ls hl => ?_)
    refine lv_iconst (v := 0) hx hb dX5_isUnder_2 rfl ?_
    refine lv_istore_n (lv' := [(3, .int 0), (2, .int x0), (0, .int x0), (1, .int x1)]) hx hb dX5_isUnder_3 rfl hl (by decide) rfl (fun ls hl => ?_)
    have hL4 : ∀ (n : Nat) (i1 : Int32) (i2 : Int32) (H : Heap) (locs : List Loc) (ls : Array Slot), va_P D vwCl [] H → va_D A [] → va_S A s.heap H locs → lv_has ls 4 [(3, .int i1), (2, .int i2), (1, .int x1)] → f_X5_isUnder_L4 x1 n i1 i2 = some r → W p l e (headSpec wsX5_isUnder (rmX5_isUnder)).room s m (List.toArray [Value.int x0, Value.int x1]) below meth c H locs 0 0 Q (F0 m 4 ls []) := by
      intro n
      induction n with
      | zero =>
        intro i1 i2 H locs ls hP hD hS hl hf
        exact absurd hf (fun h => by cases h)
      | succ n ih =>
        intro i1 i2 H locs ls hP hD hS hl hf
        rw [f_X5_isUnder_L4] at hf
        refine lv_iload_n hx hb dX5_isUnder_4 rfl (lv_at hl 0 rfl) ?_
        refine lv_bipush (v := 6) hx hb dX5_isUnder_5 rfl ?_
        refine lv_icmp_ge (tgt := 36) hx hb dX5_isUnder_7 (by decide) (fun c3 => ?_) (fun c3 => ?_)
        · replace hf := if_te c3 hf
          refine lv_iconst (v := 0) hx hb dX5_isUnder_36 rfl ?_
          cases hf
          exact krz hQ hAe hx hb hr hlocks zb_0 hP hD hK hS dX5_isUnder_37
        · replace hf := if_fe c3 hf
          refine lv_iload_n hx hb dX5_isUnder_10 rfl (lv_at hl 1 rfl) ?_
          refine kcz (Wx := []) (va_runS (As := [.int i2]) (rest := []) ⟨hx, hb, hml, hown, hts⟩ (c_X5_isKind l E D C H.size i2 _ rfl) (va_cwS 1 hts gX5_isUnder_X5_isKind rfl rfl rfl hdX5_isKind ⟨Nat.le_of_ble_eq_true rfl, Nat.le_of_ble_eq_true rfl⟩) (kpre hP hD hK hS hE hA [] rfl rfl) rfl rfl hl.1 rfl (lv_room (Nat.le_of_ble_eq_true rfl)) dX5_isUnder_11 ⟨Nat.zero_le _, Nat.zero_le _⟩) hP hD hS hA [] rfl rfl rfl (fun H locs hz4 hP hD hS => ?_)
          refine lv_if_eq (tgt := 36) hx hb dX5_isUnder_14 (by decide) (fun c5 => ?_) (fun c5 => ?_)
          · replace hf := if_te c5 hf
            refine lv_iconst (v := 0) hx hb dX5_isUnder_36 rfl ?_
            cases hf
            exact krz hQ hAe hx hb hr hlocks zb_0 hP hD hK hS dX5_isUnder_37
          · replace hf := if_fe c5 hf
            refine lv_iload_n hx hb dX5_isUnder_17 rfl (lv_at hl 1 rfl) ?_
            refine lv_iload_n hx hb dX5_isUnder_18 rfl (lv_at hl 2 rfl) ?_
            refine lv_icmp_ne (tgt := 24) hx hb dX5_isUnder_19 (by decide) (fun c6 => ?_) (fun c6 => ?_)
            · replace hf := if_fe c6 hf
              refine va_gets hx hb (tZ3 hE) hS hown (hts (.fieldLink RX5 316 "TravelMarks" "ABOVE" "[I") (List.mem_of_getElem? (i := 1) rfl)) (fun _ h9 => h9) dX5_isUnder_24 ?_
              refine lv_iload_n hx hb dX5_isUnder_27 rfl (lv_at hl 1 rfl) ?_
              obtain ⟨y8, ey8, hi7, hf⟩ := rdA_x hf
              refine va_ti hx hb (tT3 hE) hS hi7 (v := .int (tbAbove (i2).toNatClampNeg)) rfl dX5_isUnder_28 ?_
              refine lv_ren ey8 ?_
              refine lv_istore_n (lv' := [(2, .int y8), (3, .int i1), (1, .int x1)]) hx hb dX5_isUnder_29 rfl hl (by decide) rfl (fun ls hl => ?_)
              obtain ⟨t9, et9, hf⟩ := lj_e hf
              refine lv_iinc (v := t9) (lv' := [(3, .int t9), (2, .int y8), (1, .int x1)]) hx hb dX5_isUnder_30 hl (k := 1) rfl (by rw [et9]; rfl) (by decide) rfl (fun ls hl => ?_)
              refine lv_goto (tgt := 4) hx hb dX5_isUnder_33 (by decide) ?_
              exact ih t9 y8 H locs ls hP hD hS (lv_sub hl [0, 1, 2] rfl) hf
            · replace hf := if_te c6 hf
              refine lv_iconst (v := 1) hx hb dX5_isUnder_22 rfl ?_
              cases hf
              exact krz hQ hAe hx hb hr hlocks zb_1 hP hD hK hS dX5_isUnder_23
    exact hL4 N 0 x0 H locs ls hP hD hS (lv_sub hl [0, 1, 3] rfl) hf
  exact main _ _ hP hD hS

def rmX5_taken : Room := { frames := 3, cells := 0, slots := 0, locals := 65 }
theorem hdX5_taken : yX5_taken.cls = RX5 ∧ yX5_taken.cls ≠ "java/lang/invoke/MethodHandle" ∧ yX5_taken.cls ≠ "java/lang/invoke/VarHandle" ∧ (parseMethodDescriptor yX5_taken.desc).map (fun d => d.parameters.length) = some 2 := by decide +kernel
set_option maxHeartbeats 40000000 in
set_option maxRecDepth 100000 in
theorem c_X5_taken (l : Launch) (E : Nat → Nat) (D : va_G) (C : Nat → ClassId) (q0 qn0 qk0 qr0 qc0 qt0 qd0 qs0 qf0 qw0 qn1 qn2 qn3 qn4 qn5 qn6 qf1 qf2 qf3 qf4 : Nat) (sz : Nat) (N : Nat) (rowCount : Int32) (anyKept : Int32) (now : PV) (shelves : Nat → FV) (x0 : Int32) (x1 : Int32) (r : Int32) (hf : f_X5_taken N now shelves x0 x1 = some r) : Met l yX5_taken wsX5_taken rmX5_taken (PC E D C [.ref q0, .int x0, .int x1] (oTM q0 qn0 qk0 qr0 qc0 qt0 qd0 qs0 qf0 qw0 rowCount anyKept (oPort C qn0 qn1 qn2 qn3 qn4 qn5 qn6 now (oShelves C qf0 qf1 qf2 qf3 qf4 shelves []))) sz) (QI D C (oTM q0 qn0 qk0 qr0 qc0 qt0 qd0 qs0 qf0 qw0 rowCount anyKept (oPort C qn0 qn1 qn2 qn3 qn4 qn5 qn6 now (oShelves C qf0 qf1 qf2 qf3 qf4 shelves []))) (oTM q0 qn0 qk0 qr0 qc0 qt0 qd0 qs0 qf0 qw0 rowCount anyKept (oPort C qn0 qn1 qn2 qn3 qn4 qn5 qn6 now (oShelves C qf0 qf1 qf2 qf3 qf4 shelves []))) sz r) 0 0 (va_A (oTM q0 qn0 qk0 qr0 qc0 qt0 qd0 qs0 qf0 qw0 rowCount anyKept (oPort C qn0 qn1 qn2 qn3 qn4 qn5 qn6 now (oShelves C qf0 qf1 qf2 qf3 qf4 shelves []))) sz) := by
  refine Met.ofW (cc := cX5_taken) (maxL := 6) (ret := (some .int)) (by decide) rfl ?_
  intro p e s m args below meth c s₁ B hml hv
  obtain ⟨rfl, hsz, hP, hK, hD0, hE⟩ := hv
  have hx := B.exec
  have hb := B.bytes
  have hr := B.returns
  have hts := atoms_spec (ws := wsX5_taken) B.pre
  have hown : s.vm.findClass RX5 = some m.cls := findClass_of_methodNamed B.named
  have hlocks := B.notSynchronized
  subst hsz
  have hi_RX1 : ∀ w ∈ wsX10, w ∈ wsX5_taken := fun _ h => List.mem_cons_of_mem _ (List.mem_append_right _ h)
  have hi_RX3 : ∀ w ∈ wsX30, w ∈ wsX5_taken := fun _ h => List.mem_cons_of_mem _ (List.mem_append_left _ (List.mem_append_right _ h))
  have hi_RX5 : ∀ w ∈ wsX50, w ∈ wsX5_taken := fun _ h => List.mem_cons_of_mem _ (List.mem_append_left _ (List.mem_append_left _ (List.mem_append_right _ h)))
  have hD := hD0.self (sz := s.heap.size)
  obtain ⟨A, hAe⟩ := nm_ex (va_A (oTM q0 qn0 qk0 qr0 qc0 qt0 qd0 qs0 qf0 qw0 rowCount anyKept (oPort C qn0 qn1 qn2 qn3 qn4 qn5 qn6 now (oShelves C qf0 qf1 qf2 qf3 qf4 shelves []))) s.heap.size)
  rw [← hAe] at hD hE ⊢
  have hA : ∀ q : Nat, s.heap.size ≤ q → A q := fun q h => by rw [hAe]; exact Or.inr h
  have hS : va_S A s.heap s.heap [] := va_S.rf
  have hl := lv_entry ([.ref q0, .int x0, .int x1]) (n := 6) (Nat.le_of_ble_eq_true rfl)
  rw [lg_entry_eq]
  generalize (lg_sl ([.ref q0, .int x0, .int x1]) ++ List.replicate (6 - (lg_sl ([.ref q0, .int x0, .int x1])).length) Slot.unset).toArray = ls at hl ⊢
  have hl : lv_has ls 6 [(0, .ref q0), (1, .int x0), (2, .int x1)] := hl
  obtain ⟨Q, hQ⟩ := nm_ex (MQ below (QI D C (oTM q0 qn0 qk0 qr0 qc0 qt0 qd0 qs0 qf0 qw0 rowCount anyKept (oPort C qn0 qn1 qn2 qn3 qn4 qn5 qn6 now (oShelves C qf0 qf1 qf2 qf3 qf4 shelves []))) (oTM q0 qn0 qk0 qr0 qc0 qt0 qd0 qs0 qf0 qw0 rowCount anyKept (oPort C qn0 qn1 qn2 qn3 qn4 qn5 qn6 now (oShelves C qf0 qf1 qf2 qf3 qf4 shelves []))) s.heap.size r) (List.toArray [Value.ref q0, Value.int x0, Value.int x1]) s 0 0 A)
  show W p l e (headSpec wsX5_taken (rmX5_taken)).room s m (List.toArray [Value.ref q0, Value.int x0, Value.int x1]) below meth c s.heap [] 0 0 (MQ below (QI D C (oTM q0 qn0 qk0 qr0 qc0 qt0 qd0 qs0 qf0 qw0 rowCount anyKept (oPort C qn0 qn1 qn2 qn3 qn4 qn5 qn6 now (oShelves C qf0 qf1 qf2 qf3 qf4 shelves []))) (oTM q0 qn0 qk0 qr0 qc0 qt0 qd0 qs0 qf0 qw0 rowCount anyKept (oPort C qn0 qn1 qn2 qn3 qn4 qn5 qn6 now (oShelves C qf0 qf1 qf2 qf3 qf4 shelves []))) s.heap.size r) (List.toArray [Value.ref q0, Value.int x0, Value.int x1]) s 0 0 A) _
  rw [← hQ]
  unfold f_X5_taken at hf
  have main : ∀ (H : Heap) (locs : List Loc), va_P D vwCl (oTM q0 qn0 qk0 qr0 qc0 qt0 qd0 qs0 qf0 qw0 rowCount anyKept (oPort C qn0 qn1 qn2 qn3 qn4 qn5 qn6 now (oShelves C qf0 qf1 qf2 qf3 qf4 shelves []))) H → va_D A (oTM q0 qn0 qk0 qr0 qc0 qt0 qd0 qs0 qf0 qw0 rowCount anyKept (oPort C qn0 qn1 qn2 qn3 qn4 qn5 qn6 now (oShelves C qf0 qf1 qf2 qf3 qf4 shelves []))) → va_S A s.heap H locs → W p l e (headSpec wsX5_taken (rmX5_taken)).room s m (List.toArray [Value.ref q0, Value.int x0, Value.int x1]) below meth c H locs 0 0 Q (F0 m 0 ls []) := by
    intro H locs hP hD hS
    refine lv_iload_n hx hb dX5_taken_0 rfl (lv_at hl 2 rfl) ?_
    refine lv_bipush (v := 10) hx hb dX5_taken_1 rfl ?_
    refine lv_bipush (v := 13) hx hb dX5_taken_3 rfl ?_
    refine kcz (Wx := (oTM q0 qn0 qk0 qr0 qc0 qt0 qd0 qs0 qf0 qw0 rowCount anyKept (oPort C qn0 qn1 qn2 qn3 qn4 qn5 qn6 now (oShelves C qf0 qf1 qf2 qf3 qf4 shelves [])))) (va_runS (As := [.int x1, .int 10, .int 13]) (rest := []) ⟨hx, hb, hml, hown, hts⟩ (c_X5_within l E D C H.size x1 10 13 _ rfl) (va_cwS 3 hts gX5_taken_X5_within rfl rfl rfl hdX5_within ⟨Nat.le_of_ble_eq_true rfl, Nat.le_of_ble_eq_true rfl⟩) (kpre hP hD hK hS hE hA [] rfl rfl) rfl rfl hl.1 rfl (lv_room (Nat.le_of_ble_eq_true rfl)) dX5_taken_5 ⟨Nat.zero_le _, Nat.zero_le _⟩) hP hD hS hA [] rfl rfl rfl (fun H locs hz1 hP hD hS => ?_)
    obtain ⟨t2, et2, hf⟩ := lj_e hf
    refine lv_ren et2 ?_
    refine lv_istore_n (lv' := [(3, .int t2), (0, .ref q0), (1, .int x0), (2, .int x1)]) hx hb dX5_taken_8 rfl hl (by decide) rfl (fun ls hl => ?_)
    refine lv_iload_n hx hb dX5_taken_9 rfl (lv_at hl 2 rfl) ?_
    refine kcz (Wx := (oTM q0 qn0 qk0 qr0 qc0 qt0 qd0 qs0 qf0 qw0 rowCount anyKept (oPort C qn0 qn1 qn2 qn3 qn4 qn5 qn6 now (oShelves C qf0 qf1 qf2 qf3 qf4 shelves [])))) (va_runS (As := [.int x0]) (rest := []) ⟨hx, hb, hml, hown, hts⟩ (c_X5_isShelf l E D C H.size x0 _ rfl) (va_cwS 1 hts gX5_taken_X5_isShelf rfl rfl rfl hdX5_isShelf ⟨Nat.le_of_ble_eq_true rfl, Nat.le_of_ble_eq_true rfl⟩) (kpre hP hD hK hS hE hA [] rfl rfl) rfl rfl hl.1 rfl (lv_room (Nat.le_of_ble_eq_true rfl)) dX5_taken_10 ⟨Nat.zero_le _, Nat.zero_le _⟩) hP hD hS hA [] rfl rfl rfl (fun H locs hz3 hP hD hS => ?_)
    refine lv_if_eq (tgt := 27) hx hb dX5_taken_13 (by decide) (fun c4 => ?_) (fun c4 => ?_)
    · replace hf := if_te c4 hf
      refine lv_iconst (v := (-1)) hx hb dX5_taken_27 rfl ?_
      cases hf
      exact kri hQ hAe hx hb hr hlocks hP hD hK hS dX5_taken_28
    · replace hf := if_fe c4 hf
      refine lv_iload_n hx hb dX5_taken_16 rfl (lv_at hl 3 rfl) ?_
      refine kcz (Wx := (oTM q0 qn0 qk0 qr0 qc0 qt0 qd0 qs0 qf0 qw0 rowCount anyKept (oPort C qn0 qn1 qn2 qn3 qn4 qn5 qn6 now (oShelves C qf0 qf1 qf2 qf3 qf4 shelves [])))) (va_runS (As := [.int x1]) (rest := []) ⟨hx, hb, hml, hown, hts⟩ (c_X5_isKind l E D C H.size x1 _ rfl) (va_cwS 1 hts gX5_taken_X5_isKind rfl rfl rfl hdX5_isKind ⟨Nat.le_of_ble_eq_true rfl, Nat.le_of_ble_eq_true rfl⟩) (kpre hP hD hK hS hE hA [] rfl rfl) rfl rfl hl.1 rfl (lv_room (Nat.le_of_ble_eq_true rfl)) dX5_taken_17 ⟨Nat.zero_le _, Nat.zero_le _⟩) hP hD hS hA [] rfl rfl rfl (fun H locs hz5 hP hD hS => ?_)
      obtain ⟨j6, hj6, hf⟩ := lj_e hf
      have Hj6 : ∀ (H : Heap) (locs : List Loc) (ls : Array Slot), va_P D vwCl (oTM q0 qn0 qk0 qr0 qc0 qt0 qd0 qs0 qf0 qw0 rowCount anyKept (oPort C qn0 qn1 qn2 qn3 qn4 qn5 qn6 now (oShelves C qf0 qf1 qf2 qf3 qf4 shelves []))) H → va_D A (oTM q0 qn0 qk0 qr0 qc0 qt0 qd0 qs0 qf0 qw0 rowCount anyKept (oPort C qn0 qn1 qn2 qn3 qn4 qn5 qn6 now (oShelves C qf0 qf1 qf2 qf3 qf4 shelves []))) → va_S A s.heap H locs → lv_has ls 6 [(3, .int t2), (0, .ref q0), (1, .int x0), (2, .int x1)] → j6 = some r → W p l e (headSpec wsX5_taken (rmX5_taken)).room s m (List.toArray [Value.ref q0, Value.int x0, Value.int x1]) below meth c H locs 0 0 Q (F0 m 29 ls []) := by
        intro H locs ls hP hD hS hl hf
        rw [hj6] at hf
        refine lv_aload_n hx hb dX5_taken_29 rfl (lv_at hl 1 rfl) ?_
        refine va_get (D := D) (ci := 5) (v := .ref qf0) (C := RX5) (T := TX5) (N := 11) hx hb hts hi_RX5 hown hK hP 0 rfl rfl 7 (by decide) (hts (.fieldLink RX5 47 "TravelMarks" "shelves" "[LTravelMarks$Shelf;") (List.mem_of_getElem? (i := 1) rfl)) (fun _ h9 => h9) rfl dX5_taken_30 ?_
        refine lv_iload_n hx hb dX5_taken_33 rfl (lv_at hl 2 rfl) ?_
        obtain ⟨hi7, hf⟩ := ckA_e hf
        obtain ⟨o8, eo8, hf⟩ := lj_e hf
        rcases four hi7 with e4_9 | e4_9 | e4_9 | e4_9
        · rw [e4_9] at eo8
          subst eo8
          try rw [e4_9] at hf
          refine va_aldq hx hb hK hP 8 4 rfl rfl hi7 dX5_taken_34 ?_
          rw [e4_9]
          refine lv_renV (v := .ref qf1) rfl ?_
          refine lv_astore (lv' := [(4, .ref qf1), (3, .int t2), (0, .ref q0), (1, .int x0), (2, .int x1)]) hx hb dX5_taken_35 hl (by decide) rfl (fun ls hl => ?_)
          refine lv_aload_n hx hb dX5_taken_37 rfl (lv_at hl 2 rfl) ?_
          refine lv_aload hx hb dX5_taken_38 (lv_at hl 0 rfl) ?_
          refine kci (Wx := (oTM q0 qn0 qk0 qr0 qc0 qt0 qd0 qs0 qf0 qw0 rowCount anyKept (oPort C qn0 qn1 qn2 qn3 qn4 qn5 qn6 now (oShelves C qf0 qf1 qf2 qf3 qf4 shelves [])))) (va_runV (As := [.ref qf1]) (rest := []) ⟨hx, hb, hml, hown, hts⟩ (c_X5_heldBy l E D C q0 qn0 qk0 qr0 qc0 qt0 qd0 qs0 qf0 qw0 qn1 qn2 qn3 qn4 qn5 qn6 qf1 H.size rowCount anyKept now (shelves 0) _ rfl) (cwV 1 hts gX5_taken_X5_heldBy rfl rfl rfl hdX5_heldBy ⟨Nat.le_of_ble_eq_true rfl, Nat.le_of_ble_eq_true rfl⟩) (kpreV hP hD hK hS hE hA [0, 1, 2, 3, 4, 5, 6, 7, 9] rfl rfl 0 rfl rfl rfl) rfl rfl hl.1 rfl (lv_room (Nat.le_of_ble_eq_true rfl)) dX5_taken_40 ⟨Nat.zero_le _, Nat.zero_le _⟩) hP hD hS hA [0, 1, 2, 3, 4, 5, 6, 7, 9] rfl rfl rfl (fun H locs hP hD hS => ?_)
          obtain ⟨t10, et10, hf⟩ := lj_e hf
          refine lv_ren et10 ?_
          refine lv_istore (lv' := [(5, .int t10), (4, .ref qf1), (3, .int t2), (0, .ref q0), (1, .int x0), (2, .int x1)]) hx hb dX5_taken_43 hl (by decide) rfl (fun ls hl => ?_)
          refine lv_iload hx hb dX5_taken_45 (lv_at hl 0 rfl) ?_
          refine lv_iconst (v := 2) hx hb dX5_taken_47 rfl ?_
          refine lv_icmp_ne (tgt := 54) hx hb dX5_taken_48 (by decide) (fun c11 => ?_) (fun c11 => ?_)
          · replace hf := if_fe c11 hf
            refine lv_iload_n hx hb dX5_taken_54 rfl (lv_at hl 2 rfl) ?_
            refine lv_if_eq (tgt := 87) hx hb dX5_taken_55 (by decide) (fun c12 => ?_) (fun c12 => ?_)
            · replace hf := if_te c12 hf
              refine lv_iload hx hb dX5_taken_87 (lv_at hl 0 rfl) ?_
              refine lv_if_ne (tgt := 120) hx hb dX5_taken_89 (by decide) (fun c13 => ?_) (fun c13 => ?_)
              · replace hf := if_fe c13 hf
                refine lv_bipush (v := (-13)) hx hb dX5_taken_120 rfl ?_
                cases hf
                exact kri hQ hAe hx hb hr hlocks hP hD hK hS dX5_taken_122
              · replace hf := if_te c13 hf
                refine lv_aload_n hx hb dX5_taken_92 rfl (lv_at hl 3 rfl) ?_
                refine va_get (D := D) (ci := 5) (v := .ref qn0) (C := RX5) (T := TX5) (N := 11) hx hb hts hi_RX5 hown hK hP 0 rfl rfl 0 (by decide) (hts (.fieldLink RX5 10 "TravelMarks" "now" "LTravelMarks$Port;") (List.mem_of_getElem? (i := 4) rfl)) (fun _ h9 => h9) rfl dX5_taken_93 ?_
                refine va_get (D := D) (ci := 1) (v := .ref qn2) (C := RX1) (T := TX1) (N := 10) hx hb hts hi_RX1 hown hK hP 1 rfl rfl 1 (by decide) (hts (.fieldLink RX5 114 "TravelMarks$Port" "kind" "[I") (List.mem_of_getElem? (i := 5) rfl)) (fun _ h9 => h9) rfl dX5_taken_96 ?_
                refine lv_aload hx hb dX5_taken_99 (lv_at hl 1 rfl) ?_
                refine va_get (D := D) (ci := 3) (v := .int (sfNumber (shelves 0))) (C := RX3) (T := TX3) (N := 4) hx hb hts hi_RX3 hown hK hP 9 rfl rfl 1 (by decide) (hts (.fieldLink RX5 282 "TravelMarks$Shelf" "number" "I") (List.mem_of_getElem? (i := 6) rfl)) (fun _ h9 => h9) rfl dX5_taken_101 ?_
                obtain ⟨y15, ey15, hi14, hf⟩ := rdA_x hf
                refine va_iald hx hb hK hP 3 0 rfl rfl hi14 dX5_taken_104 ?_
                refine lv_ren ey15 ?_
                refine lv_iload_n hx hb dX5_taken_105 rfl (lv_at hl 5 rfl) ?_
                obtain ⟨r16, h17, hf⟩ := ob1_e hf
                refine kcz (Wx := (oTM q0 qn0 qk0 qr0 qc0 qt0 qd0 qs0 qf0 qw0 rowCount anyKept (oPort C qn0 qn1 qn2 qn3 qn4 qn5 qn6 now (oShelves C qf0 qf1 qf2 qf3 qf4 shelves [])))) (va_runS (As := [.int y15, .int x1]) (rest := []) ⟨hx, hb, hml, hown, hts⟩ (c_X5_isUnder l E D C H.size N y15 x1 r16 h17) (va_cwS 2 hts gX5_taken_X5_isUnder rfl rfl rfl hdX5_isUnder ⟨Nat.le_of_ble_eq_true rfl, Nat.le_of_ble_eq_true rfl⟩) (kpre hP hD hK hS hE hA [] rfl rfl) rfl rfl hl.1 rfl (lv_room (Nat.le_of_ble_eq_true rfl)) dX5_taken_106 ⟨Nat.zero_le _, Nat.zero_le _⟩) hP hD hS hA [] rfl rfl rfl (fun H locs hz18 hP hD hS => ?_)
                refine lv_if_eq (tgt := 120) hx hb dX5_taken_109 (by decide) (fun c19 => ?_) (fun c19 => ?_)
                · replace hf := if_te c19 hf
                  refine lv_bipush (v := (-13)) hx hb dX5_taken_120 rfl ?_
                  cases hf
                  exact kri hQ hAe hx hb hr hlocks hP hD hK hS dX5_taken_122
                · replace hf := if_fe c19 hf
                  refine lv_aload hx hb dX5_taken_112 (lv_at hl 1 rfl) ?_
                  refine va_get (D := D) (ci := 3) (v := .int (sfNumber (shelves 0))) (C := RX3) (T := TX3) (N := 4) hx hb hts hi_RX3 hown hK hP 9 rfl rfl 1 (by decide) (hts (.fieldLink RX5 282 "TravelMarks$Shelf" "number" "I") (List.mem_of_getElem? (i := 6) rfl)) (fun _ h9 => h9) rfl dX5_taken_114 ?_
                  refine lv_goto (tgt := 122) hx hb dX5_taken_117 (by decide) ?_
                  obtain ⟨t20, et20, hf⟩ := lj_e hf
                  refine lv_ren et20 ?_
                  cases hf
                  exact kri hQ hAe hx hb hr hlocks hP hD hK hS dX5_taken_122
            · replace hf := if_fe c12 hf
              refine lv_iload hx hb dX5_taken_58 (lv_at hl 0 rfl) ?_
              refine lv_iconst (v := 1) hx hb dX5_taken_60 rfl ?_
              refine lv_icmp_ne (tgt := 84) hx hb dX5_taken_61 (by decide) (fun c21 => ?_) (fun c21 => ?_)
              · replace hf := if_fe c21 hf
                refine lv_bipush (v := (-13)) hx hb dX5_taken_84 rfl ?_
                cases hf
                exact kri hQ hAe hx hb hr hlocks hP hD hK hS dX5_taken_86
              · replace hf := if_te c21 hf
                refine lv_aload hx hb dX5_taken_64 (lv_at hl 1 rfl) ?_
                refine va_get (D := D) (ci := 3) (v := .int (sfSort (shelves 0))) (C := RX3) (T := TX3) (N := 4) hx hb hts hi_RX3 hown hK hP 9 rfl rfl 2 (by decide) (hts (.fieldLink RX5 280 "TravelMarks$Shelf" "sort" "I") (List.mem_of_getElem? (i := 2) rfl)) (fun _ h9 => h9) rfl dX5_taken_66 ?_
                refine lv_iload_n hx hb dX5_taken_69 rfl (lv_at hl 5 rfl) ?_
                refine lv_bipush (v := 10) hx hb dX5_taken_70 rfl ?_
                refine lv_isub hx hb dX5_taken_72 ?_
                refine lv_icmp_ne (tgt := 84) hx hb dX5_taken_73 (by decide) (fun c22 => ?_) (fun c22 => ?_)
                · replace hf := if_fe c22 hf
                  refine lv_bipush (v := (-13)) hx hb dX5_taken_84 rfl ?_
                  cases hf
                  exact kri hQ hAe hx hb hr hlocks hP hD hK hS dX5_taken_86
                · replace hf := if_te c22 hf
                  refine lv_aload hx hb dX5_taken_76 (lv_at hl 1 rfl) ?_
                  refine va_get (D := D) (ci := 3) (v := .int (sfSize (shelves 0))) (C := RX3) (T := TX3) (N := 4) hx hb hts hi_RX3 hown hK hP 9 rfl rfl 3 (by decide) (hts (.fieldLink RX5 281 "TravelMarks$Shelf" "size" "I") (List.mem_of_getElem? (i := 3) rfl)) (fun _ h9 => h9) rfl dX5_taken_78 ?_
                  refine lv_goto (tgt := 86) hx hb dX5_taken_81 (by decide) ?_
                  obtain ⟨t23, et23, hf⟩ := lj_e hf
                  refine lv_ren et23 ?_
                  cases hf
                  exact kri hQ hAe hx hb hr hlocks hP hD hK hS dX5_taken_86
          · replace hf := if_te c11 hf
            refine lv_bipush (v := (-11)) hx hb dX5_taken_51 rfl ?_
            cases hf
            exact kri hQ hAe hx hb hr hlocks hP hD hK hS dX5_taken_53
        · rw [e4_9] at eo8
          subst eo8
          try rw [e4_9] at hf
          refine va_aldq hx hb hK hP 8 4 rfl rfl hi7 dX5_taken_34 ?_
          rw [e4_9]
          refine lv_renV (v := .ref qf2) rfl ?_
          refine lv_astore (lv' := [(4, .ref qf2), (3, .int t2), (0, .ref q0), (1, .int x0), (2, .int x1)]) hx hb dX5_taken_35 hl (by decide) rfl (fun ls hl => ?_)
          refine lv_aload_n hx hb dX5_taken_37 rfl (lv_at hl 2 rfl) ?_
          refine lv_aload hx hb dX5_taken_38 (lv_at hl 0 rfl) ?_
          refine kci (Wx := (oTM q0 qn0 qk0 qr0 qc0 qt0 qd0 qs0 qf0 qw0 rowCount anyKept (oPort C qn0 qn1 qn2 qn3 qn4 qn5 qn6 now (oShelves C qf0 qf1 qf2 qf3 qf4 shelves [])))) (va_runV (As := [.ref qf2]) (rest := []) ⟨hx, hb, hml, hown, hts⟩ (c_X5_heldBy l E D C q0 qn0 qk0 qr0 qc0 qt0 qd0 qs0 qf0 qw0 qn1 qn2 qn3 qn4 qn5 qn6 qf2 H.size rowCount anyKept now (shelves 1) _ rfl) (cwV 1 hts gX5_taken_X5_heldBy rfl rfl rfl hdX5_heldBy ⟨Nat.le_of_ble_eq_true rfl, Nat.le_of_ble_eq_true rfl⟩) (kpreV hP hD hK hS hE hA [0, 1, 2, 3, 4, 5, 6, 7, 10] rfl rfl 0 rfl rfl rfl) rfl rfl hl.1 rfl (lv_room (Nat.le_of_ble_eq_true rfl)) dX5_taken_40 ⟨Nat.zero_le _, Nat.zero_le _⟩) hP hD hS hA [0, 1, 2, 3, 4, 5, 6, 7, 10] rfl rfl rfl (fun H locs hP hD hS => ?_)
          obtain ⟨t10, et10, hf⟩ := lj_e hf
          refine lv_ren et10 ?_
          refine lv_istore (lv' := [(5, .int t10), (4, .ref qf2), (3, .int t2), (0, .ref q0), (1, .int x0), (2, .int x1)]) hx hb dX5_taken_43 hl (by decide) rfl (fun ls hl => ?_)
          refine lv_iload hx hb dX5_taken_45 (lv_at hl 0 rfl) ?_
          refine lv_iconst (v := 2) hx hb dX5_taken_47 rfl ?_
          refine lv_icmp_ne (tgt := 54) hx hb dX5_taken_48 (by decide) (fun c11 => ?_) (fun c11 => ?_)
          · replace hf := if_fe c11 hf
            refine lv_iload_n hx hb dX5_taken_54 rfl (lv_at hl 2 rfl) ?_
            refine lv_if_eq (tgt := 87) hx hb dX5_taken_55 (by decide) (fun c12 => ?_) (fun c12 => ?_)
            · replace hf := if_te c12 hf
              refine lv_iload hx hb dX5_taken_87 (lv_at hl 0 rfl) ?_
              refine lv_if_ne (tgt := 120) hx hb dX5_taken_89 (by decide) (fun c13 => ?_) (fun c13 => ?_)
              · replace hf := if_fe c13 hf
                refine lv_bipush (v := (-13)) hx hb dX5_taken_120 rfl ?_
                cases hf
                exact kri hQ hAe hx hb hr hlocks hP hD hK hS dX5_taken_122
              · replace hf := if_te c13 hf
                refine lv_aload_n hx hb dX5_taken_92 rfl (lv_at hl 3 rfl) ?_
                refine va_get (D := D) (ci := 5) (v := .ref qn0) (C := RX5) (T := TX5) (N := 11) hx hb hts hi_RX5 hown hK hP 0 rfl rfl 0 (by decide) (hts (.fieldLink RX5 10 "TravelMarks" "now" "LTravelMarks$Port;") (List.mem_of_getElem? (i := 4) rfl)) (fun _ h9 => h9) rfl dX5_taken_93 ?_
                refine va_get (D := D) (ci := 1) (v := .ref qn2) (C := RX1) (T := TX1) (N := 10) hx hb hts hi_RX1 hown hK hP 1 rfl rfl 1 (by decide) (hts (.fieldLink RX5 114 "TravelMarks$Port" "kind" "[I") (List.mem_of_getElem? (i := 5) rfl)) (fun _ h9 => h9) rfl dX5_taken_96 ?_
                refine lv_aload hx hb dX5_taken_99 (lv_at hl 1 rfl) ?_
                refine va_get (D := D) (ci := 3) (v := .int (sfNumber (shelves 1))) (C := RX3) (T := TX3) (N := 4) hx hb hts hi_RX3 hown hK hP 10 rfl rfl 1 (by decide) (hts (.fieldLink RX5 282 "TravelMarks$Shelf" "number" "I") (List.mem_of_getElem? (i := 6) rfl)) (fun _ h9 => h9) rfl dX5_taken_101 ?_
                obtain ⟨y15, ey15, hi14, hf⟩ := rdA_x hf
                refine va_iald hx hb hK hP 3 0 rfl rfl hi14 dX5_taken_104 ?_
                refine lv_ren ey15 ?_
                refine lv_iload_n hx hb dX5_taken_105 rfl (lv_at hl 5 rfl) ?_
                obtain ⟨r16, h17, hf⟩ := ob1_e hf
                refine kcz (Wx := (oTM q0 qn0 qk0 qr0 qc0 qt0 qd0 qs0 qf0 qw0 rowCount anyKept (oPort C qn0 qn1 qn2 qn3 qn4 qn5 qn6 now (oShelves C qf0 qf1 qf2 qf3 qf4 shelves [])))) (va_runS (As := [.int y15, .int x1]) (rest := []) ⟨hx, hb, hml, hown, hts⟩ (c_X5_isUnder l E D C H.size N y15 x1 r16 h17) (va_cwS 2 hts gX5_taken_X5_isUnder rfl rfl rfl hdX5_isUnder ⟨Nat.le_of_ble_eq_true rfl, Nat.le_of_ble_eq_true rfl⟩) (kpre hP hD hK hS hE hA [] rfl rfl) rfl rfl hl.1 rfl (lv_room (Nat.le_of_ble_eq_true rfl)) dX5_taken_106 ⟨Nat.zero_le _, Nat.zero_le _⟩) hP hD hS hA [] rfl rfl rfl (fun H locs hz18 hP hD hS => ?_)
                refine lv_if_eq (tgt := 120) hx hb dX5_taken_109 (by decide) (fun c19 => ?_) (fun c19 => ?_)
                · replace hf := if_te c19 hf
                  refine lv_bipush (v := (-13)) hx hb dX5_taken_120 rfl ?_
                  cases hf
                  exact kri hQ hAe hx hb hr hlocks hP hD hK hS dX5_taken_122
                · replace hf := if_fe c19 hf
                  refine lv_aload hx hb dX5_taken_112 (lv_at hl 1 rfl) ?_
                  refine va_get (D := D) (ci := 3) (v := .int (sfNumber (shelves 1))) (C := RX3) (T := TX3) (N := 4) hx hb hts hi_RX3 hown hK hP 10 rfl rfl 1 (by decide) (hts (.fieldLink RX5 282 "TravelMarks$Shelf" "number" "I") (List.mem_of_getElem? (i := 6) rfl)) (fun _ h9 => h9) rfl dX5_taken_114 ?_
                  refine lv_goto (tgt := 122) hx hb dX5_taken_117 (by decide) ?_
                  obtain ⟨t20, et20, hf⟩ := lj_e hf
                  refine lv_ren et20 ?_
                  cases hf
                  exact kri hQ hAe hx hb hr hlocks hP hD hK hS dX5_taken_122
            · replace hf := if_fe c12 hf
              refine lv_iload hx hb dX5_taken_58 (lv_at hl 0 rfl) ?_
              refine lv_iconst (v := 1) hx hb dX5_taken_60 rfl ?_
              refine lv_icmp_ne (tgt := 84) hx hb dX5_taken_61 (by decide) (fun c21 => ?_) (fun c21 => ?_)
              · replace hf := if_fe c21 hf
                refine lv_bipush (v := (-13)) hx hb dX5_taken_84 rfl ?_
                cases hf
                exact kri hQ hAe hx hb hr hlocks hP hD hK hS dX5_taken_86
              · replace hf := if_te c21 hf
                refine lv_aload hx hb dX5_taken_64 (lv_at hl 1 rfl) ?_
                refine va_get (D := D) (ci := 3) (v := .int (sfSort (shelves 1))) (C := RX3) (T := TX3) (N := 4) hx hb hts hi_RX3 hown hK hP 10 rfl rfl 2 (by decide) (hts (.fieldLink RX5 280 "TravelMarks$Shelf" "sort" "I") (List.mem_of_getElem? (i := 2) rfl)) (fun _ h9 => h9) rfl dX5_taken_66 ?_
                refine lv_iload_n hx hb dX5_taken_69 rfl (lv_at hl 5 rfl) ?_
                refine lv_bipush (v := 10) hx hb dX5_taken_70 rfl ?_
                refine lv_isub hx hb dX5_taken_72 ?_
                refine lv_icmp_ne (tgt := 84) hx hb dX5_taken_73 (by decide) (fun c22 => ?_) (fun c22 => ?_)
                · replace hf := if_fe c22 hf
                  refine lv_bipush (v := (-13)) hx hb dX5_taken_84 rfl ?_
                  cases hf
                  exact kri hQ hAe hx hb hr hlocks hP hD hK hS dX5_taken_86
                · replace hf := if_te c22 hf
                  refine lv_aload hx hb dX5_taken_76 (lv_at hl 1 rfl) ?_
                  refine va_get (D := D) (ci := 3) (v := .int (sfSize (shelves 1))) (C := RX3) (T := TX3) (N := 4) hx hb hts hi_RX3 hown hK hP 10 rfl rfl 3 (by decide) (hts (.fieldLink RX5 281 "TravelMarks$Shelf" "size" "I") (List.mem_of_getElem? (i := 3) rfl)) (fun _ h9 => h9) rfl dX5_taken_78 ?_
                  refine lv_goto (tgt := 86) hx hb dX5_taken_81 (by decide) ?_
                  obtain ⟨t23, et23, hf⟩ := lj_e hf
                  refine lv_ren et23 ?_
                  cases hf
                  exact kri hQ hAe hx hb hr hlocks hP hD hK hS dX5_taken_86
          · replace hf := if_te c11 hf
            refine lv_bipush (v := (-11)) hx hb dX5_taken_51 rfl ?_
            cases hf
            exact kri hQ hAe hx hb hr hlocks hP hD hK hS dX5_taken_53
        · rw [e4_9] at eo8
          subst eo8
          try rw [e4_9] at hf
          refine va_aldq hx hb hK hP 8 4 rfl rfl hi7 dX5_taken_34 ?_
          rw [e4_9]
          refine lv_renV (v := .ref qf3) rfl ?_
          refine lv_astore (lv' := [(4, .ref qf3), (3, .int t2), (0, .ref q0), (1, .int x0), (2, .int x1)]) hx hb dX5_taken_35 hl (by decide) rfl (fun ls hl => ?_)
          refine lv_aload_n hx hb dX5_taken_37 rfl (lv_at hl 2 rfl) ?_
          refine lv_aload hx hb dX5_taken_38 (lv_at hl 0 rfl) ?_
          refine kci (Wx := (oTM q0 qn0 qk0 qr0 qc0 qt0 qd0 qs0 qf0 qw0 rowCount anyKept (oPort C qn0 qn1 qn2 qn3 qn4 qn5 qn6 now (oShelves C qf0 qf1 qf2 qf3 qf4 shelves [])))) (va_runV (As := [.ref qf3]) (rest := []) ⟨hx, hb, hml, hown, hts⟩ (c_X5_heldBy l E D C q0 qn0 qk0 qr0 qc0 qt0 qd0 qs0 qf0 qw0 qn1 qn2 qn3 qn4 qn5 qn6 qf3 H.size rowCount anyKept now (shelves 2) _ rfl) (cwV 1 hts gX5_taken_X5_heldBy rfl rfl rfl hdX5_heldBy ⟨Nat.le_of_ble_eq_true rfl, Nat.le_of_ble_eq_true rfl⟩) (kpreV hP hD hK hS hE hA [0, 1, 2, 3, 4, 5, 6, 7, 11] rfl rfl 0 rfl rfl rfl) rfl rfl hl.1 rfl (lv_room (Nat.le_of_ble_eq_true rfl)) dX5_taken_40 ⟨Nat.zero_le _, Nat.zero_le _⟩) hP hD hS hA [0, 1, 2, 3, 4, 5, 6, 7, 11] rfl rfl rfl (fun H locs hP hD hS => ?_)
          obtain ⟨t10, et10, hf⟩ := lj_e hf
          refine lv_ren et10 ?_
          refine lv_istore (lv' := [(5, .int t10), (4, .ref qf3), (3, .int t2), (0, .ref q0), (1, .int x0), (2, .int x1)]) hx hb dX5_taken_43 hl (by decide) rfl (fun ls hl => ?_)
          refine lv_iload hx hb dX5_taken_45 (lv_at hl 0 rfl) ?_
          refine lv_iconst (v := 2) hx hb dX5_taken_47 rfl ?_
          refine lv_icmp_ne (tgt := 54) hx hb dX5_taken_48 (by decide) (fun c11 => ?_) (fun c11 => ?_)
          · replace hf := if_fe c11 hf
            refine lv_iload_n hx hb dX5_taken_54 rfl (lv_at hl 2 rfl) ?_
            refine lv_if_eq (tgt := 87) hx hb dX5_taken_55 (by decide) (fun c12 => ?_) (fun c12 => ?_)
            · replace hf := if_te c12 hf
              refine lv_iload hx hb dX5_taken_87 (lv_at hl 0 rfl) ?_
              refine lv_if_ne (tgt := 120) hx hb dX5_taken_89 (by decide) (fun c13 => ?_) (fun c13 => ?_)
              · replace hf := if_fe c13 hf
                refine lv_bipush (v := (-13)) hx hb dX5_taken_120 rfl ?_
                cases hf
                exact kri hQ hAe hx hb hr hlocks hP hD hK hS dX5_taken_122
              · replace hf := if_te c13 hf
                refine lv_aload_n hx hb dX5_taken_92 rfl (lv_at hl 3 rfl) ?_
                refine va_get (D := D) (ci := 5) (v := .ref qn0) (C := RX5) (T := TX5) (N := 11) hx hb hts hi_RX5 hown hK hP 0 rfl rfl 0 (by decide) (hts (.fieldLink RX5 10 "TravelMarks" "now" "LTravelMarks$Port;") (List.mem_of_getElem? (i := 4) rfl)) (fun _ h9 => h9) rfl dX5_taken_93 ?_
                refine va_get (D := D) (ci := 1) (v := .ref qn2) (C := RX1) (T := TX1) (N := 10) hx hb hts hi_RX1 hown hK hP 1 rfl rfl 1 (by decide) (hts (.fieldLink RX5 114 "TravelMarks$Port" "kind" "[I") (List.mem_of_getElem? (i := 5) rfl)) (fun _ h9 => h9) rfl dX5_taken_96 ?_
                refine lv_aload hx hb dX5_taken_99 (lv_at hl 1 rfl) ?_
                refine va_get (D := D) (ci := 3) (v := .int (sfNumber (shelves 2))) (C := RX3) (T := TX3) (N := 4) hx hb hts hi_RX3 hown hK hP 11 rfl rfl 1 (by decide) (hts (.fieldLink RX5 282 "TravelMarks$Shelf" "number" "I") (List.mem_of_getElem? (i := 6) rfl)) (fun _ h9 => h9) rfl dX5_taken_101 ?_
                obtain ⟨y15, ey15, hi14, hf⟩ := rdA_x hf
                refine va_iald hx hb hK hP 3 0 rfl rfl hi14 dX5_taken_104 ?_
                refine lv_ren ey15 ?_
                refine lv_iload_n hx hb dX5_taken_105 rfl (lv_at hl 5 rfl) ?_
                obtain ⟨r16, h17, hf⟩ := ob1_e hf
                refine kcz (Wx := (oTM q0 qn0 qk0 qr0 qc0 qt0 qd0 qs0 qf0 qw0 rowCount anyKept (oPort C qn0 qn1 qn2 qn3 qn4 qn5 qn6 now (oShelves C qf0 qf1 qf2 qf3 qf4 shelves [])))) (va_runS (As := [.int y15, .int x1]) (rest := []) ⟨hx, hb, hml, hown, hts⟩ (c_X5_isUnder l E D C H.size N y15 x1 r16 h17) (va_cwS 2 hts gX5_taken_X5_isUnder rfl rfl rfl hdX5_isUnder ⟨Nat.le_of_ble_eq_true rfl, Nat.le_of_ble_eq_true rfl⟩) (kpre hP hD hK hS hE hA [] rfl rfl) rfl rfl hl.1 rfl (lv_room (Nat.le_of_ble_eq_true rfl)) dX5_taken_106 ⟨Nat.zero_le _, Nat.zero_le _⟩) hP hD hS hA [] rfl rfl rfl (fun H locs hz18 hP hD hS => ?_)
                refine lv_if_eq (tgt := 120) hx hb dX5_taken_109 (by decide) (fun c19 => ?_) (fun c19 => ?_)
                · replace hf := if_te c19 hf
                  refine lv_bipush (v := (-13)) hx hb dX5_taken_120 rfl ?_
                  cases hf
                  exact kri hQ hAe hx hb hr hlocks hP hD hK hS dX5_taken_122
                · replace hf := if_fe c19 hf
                  refine lv_aload hx hb dX5_taken_112 (lv_at hl 1 rfl) ?_
                  refine va_get (D := D) (ci := 3) (v := .int (sfNumber (shelves 2))) (C := RX3) (T := TX3) (N := 4) hx hb hts hi_RX3 hown hK hP 11 rfl rfl 1 (by decide) (hts (.fieldLink RX5 282 "TravelMarks$Shelf" "number" "I") (List.mem_of_getElem? (i := 6) rfl)) (fun _ h9 => h9) rfl dX5_taken_114 ?_
                  refine lv_goto (tgt := 122) hx hb dX5_taken_117 (by decide) ?_
                  obtain ⟨t20, et20, hf⟩ := lj_e hf
                  refine lv_ren et20 ?_
                  cases hf
                  exact kri hQ hAe hx hb hr hlocks hP hD hK hS dX5_taken_122
            · replace hf := if_fe c12 hf
              refine lv_iload hx hb dX5_taken_58 (lv_at hl 0 rfl) ?_
              refine lv_iconst (v := 1) hx hb dX5_taken_60 rfl ?_
              refine lv_icmp_ne (tgt := 84) hx hb dX5_taken_61 (by decide) (fun c21 => ?_) (fun c21 => ?_)
              · replace hf := if_fe c21 hf
                refine lv_bipush (v := (-13)) hx hb dX5_taken_84 rfl ?_
                cases hf
                exact kri hQ hAe hx hb hr hlocks hP hD hK hS dX5_taken_86
              · replace hf := if_te c21 hf
                refine lv_aload hx hb dX5_taken_64 (lv_at hl 1 rfl) ?_
                refine va_get (D := D) (ci := 3) (v := .int (sfSort (shelves 2))) (C := RX3) (T := TX3) (N := 4) hx hb hts hi_RX3 hown hK hP 11 rfl rfl 2 (by decide) (hts (.fieldLink RX5 280 "TravelMarks$Shelf" "sort" "I") (List.mem_of_getElem? (i := 2) rfl)) (fun _ h9 => h9) rfl dX5_taken_66 ?_
                refine lv_iload_n hx hb dX5_taken_69 rfl (lv_at hl 5 rfl) ?_
                refine lv_bipush (v := 10) hx hb dX5_taken_70 rfl ?_
                refine lv_isub hx hb dX5_taken_72 ?_
                refine lv_icmp_ne (tgt := 84) hx hb dX5_taken_73 (by decide) (fun c22 => ?_) (fun c22 => ?_)
                · replace hf := if_fe c22 hf
                  refine lv_bipush (v := (-13)) hx hb dX5_taken_84 rfl ?_
                  cases hf
                  exact kri hQ hAe hx hb hr hlocks hP hD hK hS dX5_taken_86
                · replace hf := if_te c22 hf
                  refine lv_aload hx hb dX5_taken_76 (lv_at hl 1 rfl) ?_
                  refine va_get (D := D) (ci := 3) (v := .int (sfSize (shelves 2))) (C := RX3) (T := TX3) (N := 4) hx hb hts hi_RX3 hown hK hP 11 rfl rfl 3 (by decide) (hts (.fieldLink RX5 281 "TravelMarks$Shelf" "size" "I") (List.mem_of_getElem? (i := 3) rfl)) (fun _ h9 => h9) rfl dX5_taken_78 ?_
                  refine lv_goto (tgt := 86) hx hb dX5_taken_81 (by decide) ?_
                  obtain ⟨t23, et23, hf⟩ := lj_e hf
                  refine lv_ren et23 ?_
                  cases hf
                  exact kri hQ hAe hx hb hr hlocks hP hD hK hS dX5_taken_86
          · replace hf := if_te c11 hf
            refine lv_bipush (v := (-11)) hx hb dX5_taken_51 rfl ?_
            cases hf
            exact kri hQ hAe hx hb hr hlocks hP hD hK hS dX5_taken_53
        · rw [e4_9] at eo8
          subst eo8
          try rw [e4_9] at hf
          refine va_aldq hx hb hK hP 8 4 rfl rfl hi7 dX5_taken_34 ?_
          rw [e4_9]
          refine lv_renV (v := .ref qf4) rfl ?_
          refine lv_astore (lv' := [(4, .ref qf4), (3, .int t2), (0, .ref q0), (1, .int x0), (2, .int x1)]) hx hb dX5_taken_35 hl (by decide) rfl (fun ls hl => ?_)
          refine lv_aload_n hx hb dX5_taken_37 rfl (lv_at hl 2 rfl) ?_
          refine lv_aload hx hb dX5_taken_38 (lv_at hl 0 rfl) ?_
          refine kci (Wx := (oTM q0 qn0 qk0 qr0 qc0 qt0 qd0 qs0 qf0 qw0 rowCount anyKept (oPort C qn0 qn1 qn2 qn3 qn4 qn5 qn6 now (oShelves C qf0 qf1 qf2 qf3 qf4 shelves [])))) (va_runV (As := [.ref qf4]) (rest := []) ⟨hx, hb, hml, hown, hts⟩ (c_X5_heldBy l E D C q0 qn0 qk0 qr0 qc0 qt0 qd0 qs0 qf0 qw0 qn1 qn2 qn3 qn4 qn5 qn6 qf4 H.size rowCount anyKept now (shelves 3) _ rfl) (cwV 1 hts gX5_taken_X5_heldBy rfl rfl rfl hdX5_heldBy ⟨Nat.le_of_ble_eq_true rfl, Nat.le_of_ble_eq_true rfl⟩) (kpreV hP hD hK hS hE hA [0, 1, 2, 3, 4, 5, 6, 7, 12] rfl rfl 0 rfl rfl rfl) rfl rfl hl.1 rfl (lv_room (Nat.le_of_ble_eq_true rfl)) dX5_taken_40 ⟨Nat.zero_le _, Nat.zero_le _⟩) hP hD hS hA [0, 1, 2, 3, 4, 5, 6, 7, 12] rfl rfl rfl (fun H locs hP hD hS => ?_)
          obtain ⟨t10, et10, hf⟩ := lj_e hf
          refine lv_ren et10 ?_
          refine lv_istore (lv' := [(5, .int t10), (4, .ref qf4), (3, .int t2), (0, .ref q0), (1, .int x0), (2, .int x1)]) hx hb dX5_taken_43 hl (by decide) rfl (fun ls hl => ?_)
          refine lv_iload hx hb dX5_taken_45 (lv_at hl 0 rfl) ?_
          refine lv_iconst (v := 2) hx hb dX5_taken_47 rfl ?_
          refine lv_icmp_ne (tgt := 54) hx hb dX5_taken_48 (by decide) (fun c11 => ?_) (fun c11 => ?_)
          · replace hf := if_fe c11 hf
            refine lv_iload_n hx hb dX5_taken_54 rfl (lv_at hl 2 rfl) ?_
            refine lv_if_eq (tgt := 87) hx hb dX5_taken_55 (by decide) (fun c12 => ?_) (fun c12 => ?_)
            · replace hf := if_te c12 hf
              refine lv_iload hx hb dX5_taken_87 (lv_at hl 0 rfl) ?_
              refine lv_if_ne (tgt := 120) hx hb dX5_taken_89 (by decide) (fun c13 => ?_) (fun c13 => ?_)
              · replace hf := if_fe c13 hf
                refine lv_bipush (v := (-13)) hx hb dX5_taken_120 rfl ?_
                cases hf
                exact kri hQ hAe hx hb hr hlocks hP hD hK hS dX5_taken_122
              · replace hf := if_te c13 hf
                refine lv_aload_n hx hb dX5_taken_92 rfl (lv_at hl 3 rfl) ?_
                refine va_get (D := D) (ci := 5) (v := .ref qn0) (C := RX5) (T := TX5) (N := 11) hx hb hts hi_RX5 hown hK hP 0 rfl rfl 0 (by decide) (hts (.fieldLink RX5 10 "TravelMarks" "now" "LTravelMarks$Port;") (List.mem_of_getElem? (i := 4) rfl)) (fun _ h9 => h9) rfl dX5_taken_93 ?_
                refine va_get (D := D) (ci := 1) (v := .ref qn2) (C := RX1) (T := TX1) (N := 10) hx hb hts hi_RX1 hown hK hP 1 rfl rfl 1 (by decide) (hts (.fieldLink RX5 114 "TravelMarks$Port" "kind" "[I") (List.mem_of_getElem? (i := 5) rfl)) (fun _ h9 => h9) rfl dX5_taken_96 ?_
                refine lv_aload hx hb dX5_taken_99 (lv_at hl 1 rfl) ?_
                refine va_get (D := D) (ci := 3) (v := .int (sfNumber (shelves 3))) (C := RX3) (T := TX3) (N := 4) hx hb hts hi_RX3 hown hK hP 12 rfl rfl 1 (by decide) (hts (.fieldLink RX5 282 "TravelMarks$Shelf" "number" "I") (List.mem_of_getElem? (i := 6) rfl)) (fun _ h9 => h9) rfl dX5_taken_101 ?_
                obtain ⟨y15, ey15, hi14, hf⟩ := rdA_x hf
                refine va_iald hx hb hK hP 3 0 rfl rfl hi14 dX5_taken_104 ?_
                refine lv_ren ey15 ?_
                refine lv_iload_n hx hb dX5_taken_105 rfl (lv_at hl 5 rfl) ?_
                obtain ⟨r16, h17, hf⟩ := ob1_e hf
                refine kcz (Wx := (oTM q0 qn0 qk0 qr0 qc0 qt0 qd0 qs0 qf0 qw0 rowCount anyKept (oPort C qn0 qn1 qn2 qn3 qn4 qn5 qn6 now (oShelves C qf0 qf1 qf2 qf3 qf4 shelves [])))) (va_runS (As := [.int y15, .int x1]) (rest := []) ⟨hx, hb, hml, hown, hts⟩ (c_X5_isUnder l E D C H.size N y15 x1 r16 h17) (va_cwS 2 hts gX5_taken_X5_isUnder rfl rfl rfl hdX5_isUnder ⟨Nat.le_of_ble_eq_true rfl, Nat.le_of_ble_eq_true rfl⟩) (kpre hP hD hK hS hE hA [] rfl rfl) rfl rfl hl.1 rfl (lv_room (Nat.le_of_ble_eq_true rfl)) dX5_taken_106 ⟨Nat.zero_le _, Nat.zero_le _⟩) hP hD hS hA [] rfl rfl rfl (fun H locs hz18 hP hD hS => ?_)
                refine lv_if_eq (tgt := 120) hx hb dX5_taken_109 (by decide) (fun c19 => ?_) (fun c19 => ?_)
                · replace hf := if_te c19 hf
                  refine lv_bipush (v := (-13)) hx hb dX5_taken_120 rfl ?_
                  cases hf
                  exact kri hQ hAe hx hb hr hlocks hP hD hK hS dX5_taken_122
                · replace hf := if_fe c19 hf
                  refine lv_aload hx hb dX5_taken_112 (lv_at hl 1 rfl) ?_
                  refine va_get (D := D) (ci := 3) (v := .int (sfNumber (shelves 3))) (C := RX3) (T := TX3) (N := 4) hx hb hts hi_RX3 hown hK hP 12 rfl rfl 1 (by decide) (hts (.fieldLink RX5 282 "TravelMarks$Shelf" "number" "I") (List.mem_of_getElem? (i := 6) rfl)) (fun _ h9 => h9) rfl dX5_taken_114 ?_
                  refine lv_goto (tgt := 122) hx hb dX5_taken_117 (by decide) ?_
                  obtain ⟨t20, et20, hf⟩ := lj_e hf
                  refine lv_ren et20 ?_
                  cases hf
                  exact kri hQ hAe hx hb hr hlocks hP hD hK hS dX5_taken_122
            · replace hf := if_fe c12 hf
              refine lv_iload hx hb dX5_taken_58 (lv_at hl 0 rfl) ?_
              refine lv_iconst (v := 1) hx hb dX5_taken_60 rfl ?_
              refine lv_icmp_ne (tgt := 84) hx hb dX5_taken_61 (by decide) (fun c21 => ?_) (fun c21 => ?_)
              · replace hf := if_fe c21 hf
                refine lv_bipush (v := (-13)) hx hb dX5_taken_84 rfl ?_
                cases hf
                exact kri hQ hAe hx hb hr hlocks hP hD hK hS dX5_taken_86
              · replace hf := if_te c21 hf
                refine lv_aload hx hb dX5_taken_64 (lv_at hl 1 rfl) ?_
                refine va_get (D := D) (ci := 3) (v := .int (sfSort (shelves 3))) (C := RX3) (T := TX3) (N := 4) hx hb hts hi_RX3 hown hK hP 12 rfl rfl 2 (by decide) (hts (.fieldLink RX5 280 "TravelMarks$Shelf" "sort" "I") (List.mem_of_getElem? (i := 2) rfl)) (fun _ h9 => h9) rfl dX5_taken_66 ?_
                refine lv_iload_n hx hb dX5_taken_69 rfl (lv_at hl 5 rfl) ?_
                refine lv_bipush (v := 10) hx hb dX5_taken_70 rfl ?_
                refine lv_isub hx hb dX5_taken_72 ?_
                refine lv_icmp_ne (tgt := 84) hx hb dX5_taken_73 (by decide) (fun c22 => ?_) (fun c22 => ?_)
                · replace hf := if_fe c22 hf
                  refine lv_bipush (v := (-13)) hx hb dX5_taken_84 rfl ?_
                  cases hf
                  exact kri hQ hAe hx hb hr hlocks hP hD hK hS dX5_taken_86
                · replace hf := if_te c22 hf
                  refine lv_aload hx hb dX5_taken_76 (lv_at hl 1 rfl) ?_
                  refine va_get (D := D) (ci := 3) (v := .int (sfSize (shelves 3))) (C := RX3) (T := TX3) (N := 4) hx hb hts hi_RX3 hown hK hP 12 rfl rfl 3 (by decide) (hts (.fieldLink RX5 281 "TravelMarks$Shelf" "size" "I") (List.mem_of_getElem? (i := 3) rfl)) (fun _ h9 => h9) rfl dX5_taken_78 ?_
                  refine lv_goto (tgt := 86) hx hb dX5_taken_81 (by decide) ?_
                  obtain ⟨t23, et23, hf⟩ := lj_e hf
                  refine lv_ren et23 ?_
                  cases hf
                  exact kri hQ hAe hx hb hr hlocks hP hD hK hS dX5_taken_86
          · replace hf := if_te c11 hf
            refine lv_bipush (v := (-11)) hx hb dX5_taken_51 rfl ?_
            cases hf
            exact kri hQ hAe hx hb hr hlocks hP hD hK hS dX5_taken_53
      refine lv_if_ne (tgt := 29) hx hb dX5_taken_20 (by decide) (fun c24 => ?_) (fun c24 => ?_)
      · replace hf := if_fe c24 hf
        exact Hj6 H locs ls hP hD hS (lv_sub hl [0, 1, 2, 3] rfl) hf
      · replace hf := if_te c24 hf
        refine lv_iload_n hx hb dX5_taken_23 rfl (lv_at hl 0 rfl) ?_
        refine lv_if_ne (tgt := 29) hx hb dX5_taken_24 (by decide) (fun c25 => ?_) (fun c25 => ?_)
        · replace hf := if_fe c25 hf
          exact Hj6 H locs ls hP hD hS (lv_sub hl [0, 1, 2, 3] rfl) hf
        · replace hf := if_te c25 hf
          refine lv_iconst (v := (-1)) hx hb dX5_taken_27 rfl ?_
          cases hf
          exact kri hQ hAe hx hb hr hlocks hP hD hK hS dX5_taken_28
  exact main _ _ hP hD hS

def rmX5_act : Room := { frames := 17, cells := 0, slots := 0, locals := 468 }
theorem hdX5_act : yX5_act.cls = RX5 ∧ yX5_act.cls ≠ "java/lang/invoke/MethodHandle" ∧ yX5_act.cls ≠ "java/lang/invoke/VarHandle" ∧ (parseMethodDescriptor yX5_act.desc).map (fun d => d.parameters.length) = some 3 := by decide +kernel
set_option maxHeartbeats 40000000 in
set_option maxRecDepth 100000 in
theorem c_X5_act (l : Launch) (E : Nat → Nat) (D : va_G) (C : Nat → ClassId) (q0 qn0 qk0 qr0 qc0 qt0 qd0 qs0 qf0 qw0 qn1 qn2 qn3 qn4 qn5 qn6 qd1 qf1 qf2 qf3 qf4 : Nat) (sz : Nat) (N : Nat) (rowCount : Int32) (anyKept : Int32) (now : PV) (deed : DV) (shelves : Nat → FV) (x0 : Int32) (x1 : Int32) (x2 : Int32) (r : Int32) (deed' : DV) (hf : f_X5_act N now deed shelves x0 x1 x2 = some (r, deed')) : Met l yX5_act wsX5_act rmX5_act (PC E D C [.ref q0, .int x0, .int x1, .int x2] (oTM q0 qn0 qk0 qr0 qc0 qt0 qd0 qs0 qf0 qw0 rowCount anyKept (oPort C qn0 qn1 qn2 qn3 qn4 qn5 qn6 now (oDeed C qd0 qd1 deed (oShelves C qf0 qf1 qf2 qf3 qf4 shelves [])))) sz) (QI D C (oTM q0 qn0 qk0 qr0 qc0 qt0 qd0 qs0 qf0 qw0 rowCount anyKept (oPort C qn0 qn1 qn2 qn3 qn4 qn5 qn6 now (oDeed C qd0 qd1 deed (oShelves C qf0 qf1 qf2 qf3 qf4 shelves [])))) (oTM q0 qn0 qk0 qr0 qc0 qt0 qd0 qs0 qf0 qw0 rowCount anyKept (oPort C qn0 qn1 qn2 qn3 qn4 qn5 qn6 now (oDeed C qd0 qd1 (deed') (oShelves C qf0 qf1 qf2 qf3 qf4 shelves [])))) sz r) 0 0 (va_A (oTM q0 qn0 qk0 qr0 qc0 qt0 qd0 qs0 qf0 qw0 rowCount anyKept (oPort C qn0 qn1 qn2 qn3 qn4 qn5 qn6 now (oDeed C qd0 qd1 deed (oShelves C qf0 qf1 qf2 qf3 qf4 shelves [])))) sz) := by
  refine Met.ofW (cc := cX5_act) (maxL := 5) (ret := (some .int)) (by decide) rfl ?_
  intro p e s m args below meth c s₁ B hml hv
  obtain ⟨rfl, hsz, hP, hK, hD0, hE⟩ := hv
  have hx := B.exec
  have hb := B.bytes
  have hr := B.returns
  have hts := atoms_spec (ws := wsX5_act) B.pre
  have hown : s.vm.findClass RX5 = some m.cls := findClass_of_methodNamed B.named
  have hlocks := B.notSynchronized
  subst hsz
  have hi_RX1 : ∀ w ∈ wsX10, w ∈ wsX5_act := fun _ h => List.mem_cons_of_mem _ (List.mem_append_left _ (List.mem_append_right _ h))
  have hi_RX3 : ∀ w ∈ wsX30, w ∈ wsX5_act := fun _ h => List.mem_cons_of_mem _ (List.mem_append_left _ (List.mem_append_left _ (List.mem_append_right _ h)))
  have hi_RX5 : ∀ w ∈ wsX50, w ∈ wsX5_act := fun _ h => List.mem_cons_of_mem _ (List.mem_append_left _ (List.mem_append_left _ (List.mem_append_left _ (List.mem_append_right _ h))))
  have hD := hD0.self (sz := s.heap.size)
  obtain ⟨A, hAe⟩ := nm_ex (va_A (oTM q0 qn0 qk0 qr0 qc0 qt0 qd0 qs0 qf0 qw0 rowCount anyKept (oPort C qn0 qn1 qn2 qn3 qn4 qn5 qn6 now (oDeed C qd0 qd1 deed (oShelves C qf0 qf1 qf2 qf3 qf4 shelves [])))) s.heap.size)
  rw [← hAe] at hD hE ⊢
  have hA : ∀ q : Nat, s.heap.size ≤ q → A q := fun q h => by rw [hAe]; exact Or.inr h
  have hS : va_S A s.heap s.heap [] := va_S.rf
  have hl := lv_entry ([.ref q0, .int x0, .int x1, .int x2]) (n := 5) (Nat.le_of_ble_eq_true rfl)
  rw [lg_entry_eq]
  generalize (lg_sl ([.ref q0, .int x0, .int x1, .int x2]) ++ List.replicate (5 - (lg_sl ([.ref q0, .int x0, .int x1, .int x2])).length) Slot.unset).toArray = ls at hl ⊢
  have hl : lv_has ls 5 [(0, .ref q0), (1, .int x0), (2, .int x1), (3, .int x2)] := hl
  obtain ⟨Q, hQ⟩ := nm_ex (MQ below (QI D C (oTM q0 qn0 qk0 qr0 qc0 qt0 qd0 qs0 qf0 qw0 rowCount anyKept (oPort C qn0 qn1 qn2 qn3 qn4 qn5 qn6 now (oDeed C qd0 qd1 deed (oShelves C qf0 qf1 qf2 qf3 qf4 shelves [])))) (oTM q0 qn0 qk0 qr0 qc0 qt0 qd0 qs0 qf0 qw0 rowCount anyKept (oPort C qn0 qn1 qn2 qn3 qn4 qn5 qn6 now (oDeed C qd0 qd1 (deed') (oShelves C qf0 qf1 qf2 qf3 qf4 shelves [])))) s.heap.size r) (List.toArray [Value.ref q0, Value.int x0, Value.int x1, Value.int x2]) s 0 0 A)
  show W p l e (headSpec wsX5_act (rmX5_act)).room s m (List.toArray [Value.ref q0, Value.int x0, Value.int x1, Value.int x2]) below meth c s.heap [] 0 0 (MQ below (QI D C (oTM q0 qn0 qk0 qr0 qc0 qt0 qd0 qs0 qf0 qw0 rowCount anyKept (oPort C qn0 qn1 qn2 qn3 qn4 qn5 qn6 now (oDeed C qd0 qd1 deed (oShelves C qf0 qf1 qf2 qf3 qf4 shelves [])))) (oTM q0 qn0 qk0 qr0 qc0 qt0 qd0 qs0 qf0 qw0 rowCount anyKept (oPort C qn0 qn1 qn2 qn3 qn4 qn5 qn6 now (oDeed C qd0 qd1 (deed') (oShelves C qf0 qf1 qf2 qf3 qf4 shelves [])))) s.heap.size r) (List.toArray [Value.ref q0, Value.int x0, Value.int x1, Value.int x2]) s 0 0 A) _
  rw [← hQ]
  unfold f_X5_act at hf
  have main : ∀ (H : Heap) (locs : List Loc), va_P D vwCl (oTM q0 qn0 qk0 qr0 qc0 qt0 qd0 qs0 qf0 qw0 rowCount anyKept (oPort C qn0 qn1 qn2 qn3 qn4 qn5 qn6 now (oDeed C qd0 qd1 deed (oShelves C qf0 qf1 qf2 qf3 qf4 shelves [])))) H → va_D A (oTM q0 qn0 qk0 qr0 qc0 qt0 qd0 qs0 qf0 qw0 rowCount anyKept (oPort C qn0 qn1 qn2 qn3 qn4 qn5 qn6 now (oDeed C qd0 qd1 deed (oShelves C qf0 qf1 qf2 qf3 qf4 shelves [])))) → va_S A s.heap H locs → W p l e (headSpec wsX5_act (rmX5_act)).room s m (List.toArray [Value.ref q0, Value.int x0, Value.int x1, Value.int x2]) below meth c H locs 0 0 Q (F0 m 0 ls []) := by
    intro H locs hP hD hS
    refine lv_aload_n hx hb dX5_act_0 rfl (lv_at hl 0 rfl) ?_
    refine va_get (D := D) (ci := 5) (v := .ref qd0) (C := RX5) (T := TX5) (N := 11) hx hb hts hi_RX5 hown hK hP 0 rfl rfl 5 (by decide) (hts (.fieldLink RX5 35 "TravelMarks" "deed" "LTravelMarks$Deed;") (List.mem_of_getElem? (i := 1) rfl)) (fun _ h9 => h9) rfl dX5_act_1 ?_
    obtain ⟨v1, h2, hf⟩ := ob1_e hf
    refine kcv (Wx := (oTM q0 qn0 qk0 qr0 qc0 qt0 qd0 qs0 qf0 qw0 rowCount anyKept (oPort C qn0 qn1 qn2 qn3 qn4 qn5 qn6 now (oDeed C qd0 qd1 v1 (oShelves C qf0 qf1 qf2 qf3 qf4 shelves []))))) (va_runV (As := []) (rest := []) ⟨hx, hb, hml, hown, hts⟩ (c_X0_forget l E D C qd0 qd1 H.size deed v1 h2) (cwV 0 hts gX5_act_X0_forget rfl rfl rfl hdX0_forget ⟨Nat.le_of_ble_eq_true rfl, Nat.le_of_ble_eq_true rfl⟩) (kpreV hP hD hK hS hE hA [8, 9] rfl rfl 8 rfl rfl rfl) rfl rfl hl.1 rfl (lv_room (Nat.le_of_ble_eq_true rfl)) dX5_act_4 ⟨Nat.zero_le _, Nat.zero_le _⟩) hP hD hS hA [8, 9] rfl rfl rfl (fun H locs hP hD hS => ?_)
    refine lv_iload_n hx hb dX5_act_7 rfl (lv_at hl 1 rfl) ?_
    refine kcz (Wx := (oTM q0 qn0 qk0 qr0 qc0 qt0 qd0 qs0 qf0 qw0 rowCount anyKept (oPort C qn0 qn1 qn2 qn3 qn4 qn5 qn6 now (oDeed C qd0 qd1 v1 (oShelves C qf0 qf1 qf2 qf3 qf4 shelves []))))) (va_runS (As := [.int x0]) (rest := []) ⟨hx, hb, hml, hown, hts⟩ (c_X5_isShelf l E D C H.size x0 _ rfl) (va_cwS 1 hts gX5_act_X5_isShelf rfl rfl rfl hdX5_isShelf ⟨Nat.le_of_ble_eq_true rfl, Nat.le_of_ble_eq_true rfl⟩) (kpre hP hD hK hS hE hA [] rfl rfl) rfl rfl hl.1 rfl (lv_room (Nat.le_of_ble_eq_true rfl)) dX5_act_8 ⟨Nat.zero_le _, Nat.zero_le _⟩) hP hD hS hA [] rfl rfl rfl (fun H locs hz3 hP hD hS => ?_)
    refine lv_if_eq (tgt := 36) hx hb dX5_act_11 (by decide) (fun c4 => ?_) (fun c4 => ?_)
    · replace hf := if_te c4 hf
      refine lv_iconst (v := 0) hx hb dX5_act_36 rfl ?_
      cases hf
      exact kri hQ hAe hx hb hr hlocks hP hD hK hS dX5_act_37
    · replace hf := if_fe c4 hf
      refine lv_iload_n hx hb dX5_act_14 rfl (lv_at hl 2 rfl) ?_
      refine lv_iconst (v := 0) hx hb dX5_act_15 rfl ?_
      refine lv_iconst (v := 3) hx hb dX5_act_16 rfl ?_
      refine kcz (Wx := (oTM q0 qn0 qk0 qr0 qc0 qt0 qd0 qs0 qf0 qw0 rowCount anyKept (oPort C qn0 qn1 qn2 qn3 qn4 qn5 qn6 now (oDeed C qd0 qd1 v1 (oShelves C qf0 qf1 qf2 qf3 qf4 shelves []))))) (va_runS (As := [.int x1, .int 0, .int 3]) (rest := []) ⟨hx, hb, hml, hown, hts⟩ (c_X5_within l E D C H.size x1 0 3 _ rfl) (va_cwS 3 hts gX5_act_X5_within rfl rfl rfl hdX5_within ⟨Nat.le_of_ble_eq_true rfl, Nat.le_of_ble_eq_true rfl⟩) (kpre hP hD hK hS hE hA [] rfl rfl) rfl rfl hl.1 rfl (lv_room (Nat.le_of_ble_eq_true rfl)) dX5_act_17 ⟨Nat.zero_le _, Nat.zero_le _⟩) hP hD hS hA [] rfl rfl rfl (fun H locs hz5 hP hD hS => ?_)
      refine lv_if_eq (tgt := 36) hx hb dX5_act_20 (by decide) (fun c6 => ?_) (fun c6 => ?_)
      · replace hf := if_te c6 hf
        refine lv_iconst (v := 0) hx hb dX5_act_36 rfl ?_
        cases hf
        exact kri hQ hAe hx hb hr hlocks hP hD hK hS dX5_act_37
      · replace hf := if_fe c6 hf
        refine lv_aload_n hx hb dX5_act_23 rfl (lv_at hl 0 rfl) ?_
        refine lv_aload_n hx hb dX5_act_24 rfl (lv_at hl 0 rfl) ?_
        refine va_get (D := D) (ci := 5) (v := .ref qf0) (C := RX5) (T := TX5) (N := 11) hx hb hts hi_RX5 hown hK hP 0 rfl rfl 7 (by decide) (hts (.fieldLink RX5 47 "TravelMarks" "shelves" "[LTravelMarks$Shelf;") (List.mem_of_getElem? (i := 2) rfl)) (fun _ h9 => h9) rfl dX5_act_25 ?_
        refine lv_iload_n hx hb dX5_act_28 rfl (lv_at hl 1 rfl) ?_
        obtain ⟨hi7, hf⟩ := ckA_e hf
        obtain ⟨o8, eo8, hf⟩ := lj_e hf
        rcases four hi7 with e4_9 | e4_9 | e4_9 | e4_9
        · rw [e4_9] at eo8
          subst eo8
          try rw [e4_9] at hf
          refine va_aldq hx hb hK hP 10 4 rfl rfl hi7 dX5_act_29 ?_
          rw [e4_9]
          refine lv_renV (v := .ref qf1) rfl ?_
          refine kci (Wx := (oTM q0 qn0 qk0 qr0 qc0 qt0 qd0 qs0 qf0 qw0 rowCount anyKept (oPort C qn0 qn1 qn2 qn3 qn4 qn5 qn6 now (oDeed C qd0 qd1 v1 (oShelves C qf0 qf1 qf2 qf3 qf4 shelves []))))) (va_runV (As := [.ref qf1]) (rest := []) ⟨hx, hb, hml, hown, hts⟩ (c_X5_heldBy l E D C q0 qn0 qk0 qr0 qc0 qt0 qd0 qs0 qf0 qw0 qn1 qn2 qn3 qn4 qn5 qn6 qf1 H.size rowCount anyKept now (shelves 0) _ rfl) (cwV 1 hts gX5_act_X5_heldBy rfl rfl rfl hdX5_heldBy ⟨Nat.le_of_ble_eq_true rfl, Nat.le_of_ble_eq_true rfl⟩) (kpreV hP hD hK hS hE hA [0, 1, 2, 3, 4, 5, 6, 7, 11] rfl rfl 0 rfl rfl rfl) rfl rfl hl.1 rfl (lv_room (Nat.le_of_ble_eq_true rfl)) dX5_act_30 ⟨Nat.zero_le _, Nat.zero_le _⟩) hP hD hS hA [0, 1, 2, 3, 4, 5, 6, 7, 11] rfl rfl rfl (fun H locs hP hD hS => ?_)
          refine lv_if_eq (tgt := 38) hx hb dX5_act_33 (by decide) (fun c10 => ?_) (fun c10 => ?_)
          · replace hf := if_te c10 hf
            refine lv_aload_n hx hb dX5_act_38 rfl (lv_at hl 0 rfl) ?_
            refine va_get (D := D) (ci := 5) (v := .ref qf0) (C := RX5) (T := TX5) (N := 11) hx hb hts hi_RX5 hown hK hP 0 rfl rfl 7 (by decide) (hts (.fieldLink RX5 47 "TravelMarks" "shelves" "[LTravelMarks$Shelf;") (List.mem_of_getElem? (i := 2) rfl)) (fun _ h9 => h9) rfl dX5_act_39 ?_
            refine lv_iload_n hx hb dX5_act_42 rfl (lv_at hl 1 rfl) ?_
            obtain ⟨hi11, hf⟩ := ckA_e hf
            obtain ⟨o12, eo12, hf⟩ := lj_e hf
            try rw [e4_9] at eo12
            subst eo12
            try rw [e4_9] at hf
            refine va_aldq hx hb hK hP 10 4 rfl rfl hi11 dX5_act_43 ?_
            rw [e4_9]
            refine lv_renV (v := .ref qf1) rfl ?_
            refine va_get (D := D) (ci := 3) (v := .int (sfNumber (shelves 0))) (C := RX3) (T := TX3) (N := 4) hx hb hts hi_RX3 hown hK hP 11 rfl rfl 1 (by decide) (hts (.fieldLink RX5 282 "TravelMarks$Shelf" "number" "I") (List.mem_of_getElem? (i := 3) rfl)) (fun _ h9 => h9) rfl dX5_act_44 ?_
            obtain ⟨t14, et14, hf⟩ := lj_e hf
            refine lv_ren et14 ?_
            refine lv_istore (lv' := [(4, .int t14), (0, .ref q0), (1, .int x0), (2, .int x1), (3, .int x2)]) hx hb dX5_act_47 hl (by decide) rfl (fun ls hl => ?_)
            refine lv_aload_n hx hb dX5_act_49 rfl (lv_at hl 1 rfl) ?_
            refine va_get (D := D) (ci := 5) (v := .ref qd0) (C := RX5) (T := TX5) (N := 11) hx hb hts hi_RX5 hown hK hP 0 rfl rfl 5 (by decide) (hts (.fieldLink RX5 35 "TravelMarks" "deed" "LTravelMarks$Deed;") (List.mem_of_getElem? (i := 1) rfl)) (fun _ h9 => h9) rfl dX5_act_50 ?_
            refine lv_iload hx hb dX5_act_53 (lv_at hl 0 rfl) ?_
            refine lv_aload_n hx hb dX5_act_55 rfl (lv_at hl 1 rfl) ?_
            refine va_get (D := D) (ci := 5) (v := .ref qn0) (C := RX5) (T := TX5) (N := 11) hx hb hts hi_RX5 hown hK hP 0 rfl rfl 0 (by decide) (hts (.fieldLink RX5 10 "TravelMarks" "now" "LTravelMarks$Port;") (List.mem_of_getElem? (i := 4) rfl)) (fun _ h9 => h9) rfl dX5_act_56 ?_
            refine va_get (D := D) (ci := 1) (v := .ref qn4) (C := RX1) (T := TX1) (N := 10) hx hb hts hi_RX1 hown hK hP 1 rfl rfl 3 (by decide) (hts (.fieldLink RX5 120 "TravelMarks$Port" "on" "[I") (List.mem_of_getElem? (i := 5) rfl)) (fun _ h9 => h9) rfl dX5_act_59 ?_
            refine lv_iload hx hb dX5_act_62 (lv_at hl 0 rfl) ?_
            obtain ⟨y16, ey16, hi15, hf⟩ := rdA_x hf
            refine va_iald hx hb hK hP 5 0 rfl rfl hi15 dX5_act_64 ?_
            refine lv_ren ey16 ?_
            refine lv_aload_n hx hb dX5_act_65 rfl (lv_at hl 1 rfl) ?_
            refine va_get (D := D) (ci := 5) (v := .ref qn0) (C := RX5) (T := TX5) (N := 11) hx hb hts hi_RX5 hown hK hP 0 rfl rfl 0 (by decide) (hts (.fieldLink RX5 10 "TravelMarks" "now" "LTravelMarks$Port;") (List.mem_of_getElem? (i := 4) rfl)) (fun _ h9 => h9) rfl dX5_act_66 ?_
            refine va_get (D := D) (ci := 1) (v := .ref qn2) (C := RX1) (T := TX1) (N := 10) hx hb hts hi_RX1 hown hK hP 1 rfl rfl 1 (by decide) (hts (.fieldLink RX5 114 "TravelMarks$Port" "kind" "[I") (List.mem_of_getElem? (i := 6) rfl)) (fun _ h9 => h9) rfl dX5_act_69 ?_
            refine lv_iload hx hb dX5_act_72 (lv_at hl 0 rfl) ?_
            obtain ⟨y18, ey18, hi17, hf⟩ := rdA_x hf
            refine va_iald hx hb hK hP 3 0 rfl rfl hi17 dX5_act_74 ?_
            refine lv_ren ey18 ?_
            refine lv_iload_n hx hb dX5_act_75 rfl (lv_at hl 3 rfl) ?_
            refine lv_iload_n hx hb dX5_act_76 rfl (lv_at hl 4 rfl) ?_
            obtain ⟨r19, v20, h21, hf⟩ := ob2_e hf
            refine kci (Wx := (oTM q0 qn0 qk0 qr0 qc0 qt0 qd0 qs0 qf0 qw0 rowCount anyKept (oPort C qn0 qn1 qn2 qn3 qn4 qn5 qn6 now (oDeed C qd0 qd1 v20 (oShelves C qf0 qf1 qf2 qf3 qf4 shelves []))))) (va_runV (As := [.int t14, .int y16, .int y18, .int x1, .int x2]) (rest := []) ⟨hx, hb, hml, hown, hts⟩ (c_X0_doAct l E D C qd0 qd1 H.size N v1 t14 y16 y18 x1 x2 r19 v20 h21) (cwV 5 hts gX5_act_X0_doAct rfl rfl rfl hdX0_doAct ⟨Nat.le_of_ble_eq_true rfl, Nat.le_of_ble_eq_true rfl⟩) (kpreV hP hD hK hS hE hA [8, 9] rfl rfl 8 rfl rfl rfl) rfl rfl hl.1 rfl (lv_room (Nat.le_of_ble_eq_true rfl)) dX5_act_77 ⟨Nat.zero_le _, Nat.zero_le _⟩) hP hD hS hA [8, 9] rfl rfl rfl (fun H locs hP hD hS => ?_)
            cases hf
            exact kri hQ hAe hx hb hr hlocks hP hD hK hS dX5_act_80
          · replace hf := if_fe c10 hf
            refine lv_iconst (v := 0) hx hb dX5_act_36 rfl ?_
            cases hf
            exact kri hQ hAe hx hb hr hlocks hP hD hK hS dX5_act_37
        · rw [e4_9] at eo8
          subst eo8
          try rw [e4_9] at hf
          refine va_aldq hx hb hK hP 10 4 rfl rfl hi7 dX5_act_29 ?_
          rw [e4_9]
          refine lv_renV (v := .ref qf2) rfl ?_
          refine kci (Wx := (oTM q0 qn0 qk0 qr0 qc0 qt0 qd0 qs0 qf0 qw0 rowCount anyKept (oPort C qn0 qn1 qn2 qn3 qn4 qn5 qn6 now (oDeed C qd0 qd1 v1 (oShelves C qf0 qf1 qf2 qf3 qf4 shelves []))))) (va_runV (As := [.ref qf2]) (rest := []) ⟨hx, hb, hml, hown, hts⟩ (c_X5_heldBy l E D C q0 qn0 qk0 qr0 qc0 qt0 qd0 qs0 qf0 qw0 qn1 qn2 qn3 qn4 qn5 qn6 qf2 H.size rowCount anyKept now (shelves 1) _ rfl) (cwV 1 hts gX5_act_X5_heldBy rfl rfl rfl hdX5_heldBy ⟨Nat.le_of_ble_eq_true rfl, Nat.le_of_ble_eq_true rfl⟩) (kpreV hP hD hK hS hE hA [0, 1, 2, 3, 4, 5, 6, 7, 12] rfl rfl 0 rfl rfl rfl) rfl rfl hl.1 rfl (lv_room (Nat.le_of_ble_eq_true rfl)) dX5_act_30 ⟨Nat.zero_le _, Nat.zero_le _⟩) hP hD hS hA [0, 1, 2, 3, 4, 5, 6, 7, 12] rfl rfl rfl (fun H locs hP hD hS => ?_)
          refine lv_if_eq (tgt := 38) hx hb dX5_act_33 (by decide) (fun c10 => ?_) (fun c10 => ?_)
          · replace hf := if_te c10 hf
            refine lv_aload_n hx hb dX5_act_38 rfl (lv_at hl 0 rfl) ?_
            refine va_get (D := D) (ci := 5) (v := .ref qf0) (C := RX5) (T := TX5) (N := 11) hx hb hts hi_RX5 hown hK hP 0 rfl rfl 7 (by decide) (hts (.fieldLink RX5 47 "TravelMarks" "shelves" "[LTravelMarks$Shelf;") (List.mem_of_getElem? (i := 2) rfl)) (fun _ h9 => h9) rfl dX5_act_39 ?_
            refine lv_iload_n hx hb dX5_act_42 rfl (lv_at hl 1 rfl) ?_
            obtain ⟨hi11, hf⟩ := ckA_e hf
            obtain ⟨o12, eo12, hf⟩ := lj_e hf
            try rw [e4_9] at eo12
            subst eo12
            try rw [e4_9] at hf
            refine va_aldq hx hb hK hP 10 4 rfl rfl hi11 dX5_act_43 ?_
            rw [e4_9]
            refine lv_renV (v := .ref qf2) rfl ?_
            refine va_get (D := D) (ci := 3) (v := .int (sfNumber (shelves 1))) (C := RX3) (T := TX3) (N := 4) hx hb hts hi_RX3 hown hK hP 12 rfl rfl 1 (by decide) (hts (.fieldLink RX5 282 "TravelMarks$Shelf" "number" "I") (List.mem_of_getElem? (i := 3) rfl)) (fun _ h9 => h9) rfl dX5_act_44 ?_
            obtain ⟨t14, et14, hf⟩ := lj_e hf
            refine lv_ren et14 ?_
            refine lv_istore (lv' := [(4, .int t14), (0, .ref q0), (1, .int x0), (2, .int x1), (3, .int x2)]) hx hb dX5_act_47 hl (by decide) rfl (fun ls hl => ?_)
            refine lv_aload_n hx hb dX5_act_49 rfl (lv_at hl 1 rfl) ?_
            refine va_get (D := D) (ci := 5) (v := .ref qd0) (C := RX5) (T := TX5) (N := 11) hx hb hts hi_RX5 hown hK hP 0 rfl rfl 5 (by decide) (hts (.fieldLink RX5 35 "TravelMarks" "deed" "LTravelMarks$Deed;") (List.mem_of_getElem? (i := 1) rfl)) (fun _ h9 => h9) rfl dX5_act_50 ?_
            refine lv_iload hx hb dX5_act_53 (lv_at hl 0 rfl) ?_
            refine lv_aload_n hx hb dX5_act_55 rfl (lv_at hl 1 rfl) ?_
            refine va_get (D := D) (ci := 5) (v := .ref qn0) (C := RX5) (T := TX5) (N := 11) hx hb hts hi_RX5 hown hK hP 0 rfl rfl 0 (by decide) (hts (.fieldLink RX5 10 "TravelMarks" "now" "LTravelMarks$Port;") (List.mem_of_getElem? (i := 4) rfl)) (fun _ h9 => h9) rfl dX5_act_56 ?_
            refine va_get (D := D) (ci := 1) (v := .ref qn4) (C := RX1) (T := TX1) (N := 10) hx hb hts hi_RX1 hown hK hP 1 rfl rfl 3 (by decide) (hts (.fieldLink RX5 120 "TravelMarks$Port" "on" "[I") (List.mem_of_getElem? (i := 5) rfl)) (fun _ h9 => h9) rfl dX5_act_59 ?_
            refine lv_iload hx hb dX5_act_62 (lv_at hl 0 rfl) ?_
            obtain ⟨y16, ey16, hi15, hf⟩ := rdA_x hf
            refine va_iald hx hb hK hP 5 0 rfl rfl hi15 dX5_act_64 ?_
            refine lv_ren ey16 ?_
            refine lv_aload_n hx hb dX5_act_65 rfl (lv_at hl 1 rfl) ?_
            refine va_get (D := D) (ci := 5) (v := .ref qn0) (C := RX5) (T := TX5) (N := 11) hx hb hts hi_RX5 hown hK hP 0 rfl rfl 0 (by decide) (hts (.fieldLink RX5 10 "TravelMarks" "now" "LTravelMarks$Port;") (List.mem_of_getElem? (i := 4) rfl)) (fun _ h9 => h9) rfl dX5_act_66 ?_
            refine va_get (D := D) (ci := 1) (v := .ref qn2) (C := RX1) (T := TX1) (N := 10) hx hb hts hi_RX1 hown hK hP 1 rfl rfl 1 (by decide) (hts (.fieldLink RX5 114 "TravelMarks$Port" "kind" "[I") (List.mem_of_getElem? (i := 6) rfl)) (fun _ h9 => h9) rfl dX5_act_69 ?_
            refine lv_iload hx hb dX5_act_72 (lv_at hl 0 rfl) ?_
            obtain ⟨y18, ey18, hi17, hf⟩ := rdA_x hf
            refine va_iald hx hb hK hP 3 0 rfl rfl hi17 dX5_act_74 ?_
            refine lv_ren ey18 ?_
            refine lv_iload_n hx hb dX5_act_75 rfl (lv_at hl 3 rfl) ?_
            refine lv_iload_n hx hb dX5_act_76 rfl (lv_at hl 4 rfl) ?_
            obtain ⟨r19, v20, h21, hf⟩ := ob2_e hf
            refine kci (Wx := (oTM q0 qn0 qk0 qr0 qc0 qt0 qd0 qs0 qf0 qw0 rowCount anyKept (oPort C qn0 qn1 qn2 qn3 qn4 qn5 qn6 now (oDeed C qd0 qd1 v20 (oShelves C qf0 qf1 qf2 qf3 qf4 shelves []))))) (va_runV (As := [.int t14, .int y16, .int y18, .int x1, .int x2]) (rest := []) ⟨hx, hb, hml, hown, hts⟩ (c_X0_doAct l E D C qd0 qd1 H.size N v1 t14 y16 y18 x1 x2 r19 v20 h21) (cwV 5 hts gX5_act_X0_doAct rfl rfl rfl hdX0_doAct ⟨Nat.le_of_ble_eq_true rfl, Nat.le_of_ble_eq_true rfl⟩) (kpreV hP hD hK hS hE hA [8, 9] rfl rfl 8 rfl rfl rfl) rfl rfl hl.1 rfl (lv_room (Nat.le_of_ble_eq_true rfl)) dX5_act_77 ⟨Nat.zero_le _, Nat.zero_le _⟩) hP hD hS hA [8, 9] rfl rfl rfl (fun H locs hP hD hS => ?_)
            cases hf
            exact kri hQ hAe hx hb hr hlocks hP hD hK hS dX5_act_80
          · replace hf := if_fe c10 hf
            refine lv_iconst (v := 0) hx hb dX5_act_36 rfl ?_
            cases hf
            exact kri hQ hAe hx hb hr hlocks hP hD hK hS dX5_act_37
        · rw [e4_9] at eo8
          subst eo8
          try rw [e4_9] at hf
          refine va_aldq hx hb hK hP 10 4 rfl rfl hi7 dX5_act_29 ?_
          rw [e4_9]
          refine lv_renV (v := .ref qf3) rfl ?_
          refine kci (Wx := (oTM q0 qn0 qk0 qr0 qc0 qt0 qd0 qs0 qf0 qw0 rowCount anyKept (oPort C qn0 qn1 qn2 qn3 qn4 qn5 qn6 now (oDeed C qd0 qd1 v1 (oShelves C qf0 qf1 qf2 qf3 qf4 shelves []))))) (va_runV (As := [.ref qf3]) (rest := []) ⟨hx, hb, hml, hown, hts⟩ (c_X5_heldBy l E D C q0 qn0 qk0 qr0 qc0 qt0 qd0 qs0 qf0 qw0 qn1 qn2 qn3 qn4 qn5 qn6 qf3 H.size rowCount anyKept now (shelves 2) _ rfl) (cwV 1 hts gX5_act_X5_heldBy rfl rfl rfl hdX5_heldBy ⟨Nat.le_of_ble_eq_true rfl, Nat.le_of_ble_eq_true rfl⟩) (kpreV hP hD hK hS hE hA [0, 1, 2, 3, 4, 5, 6, 7, 13] rfl rfl 0 rfl rfl rfl) rfl rfl hl.1 rfl (lv_room (Nat.le_of_ble_eq_true rfl)) dX5_act_30 ⟨Nat.zero_le _, Nat.zero_le _⟩) hP hD hS hA [0, 1, 2, 3, 4, 5, 6, 7, 13] rfl rfl rfl (fun H locs hP hD hS => ?_)
          refine lv_if_eq (tgt := 38) hx hb dX5_act_33 (by decide) (fun c10 => ?_) (fun c10 => ?_)
          · replace hf := if_te c10 hf
            refine lv_aload_n hx hb dX5_act_38 rfl (lv_at hl 0 rfl) ?_
            refine va_get (D := D) (ci := 5) (v := .ref qf0) (C := RX5) (T := TX5) (N := 11) hx hb hts hi_RX5 hown hK hP 0 rfl rfl 7 (by decide) (hts (.fieldLink RX5 47 "TravelMarks" "shelves" "[LTravelMarks$Shelf;") (List.mem_of_getElem? (i := 2) rfl)) (fun _ h9 => h9) rfl dX5_act_39 ?_
            refine lv_iload_n hx hb dX5_act_42 rfl (lv_at hl 1 rfl) ?_
            obtain ⟨hi11, hf⟩ := ckA_e hf
            obtain ⟨o12, eo12, hf⟩ := lj_e hf
            try rw [e4_9] at eo12
            subst eo12
            try rw [e4_9] at hf
            refine va_aldq hx hb hK hP 10 4 rfl rfl hi11 dX5_act_43 ?_
            rw [e4_9]
            refine lv_renV (v := .ref qf3) rfl ?_
            refine va_get (D := D) (ci := 3) (v := .int (sfNumber (shelves 2))) (C := RX3) (T := TX3) (N := 4) hx hb hts hi_RX3 hown hK hP 13 rfl rfl 1 (by decide) (hts (.fieldLink RX5 282 "TravelMarks$Shelf" "number" "I") (List.mem_of_getElem? (i := 3) rfl)) (fun _ h9 => h9) rfl dX5_act_44 ?_
            obtain ⟨t14, et14, hf⟩ := lj_e hf
            refine lv_ren et14 ?_
            refine lv_istore (lv' := [(4, .int t14), (0, .ref q0), (1, .int x0), (2, .int x1), (3, .int x2)]) hx hb dX5_act_47 hl (by decide) rfl (fun ls hl => ?_)
            refine lv_aload_n hx hb dX5_act_49 rfl (lv_at hl 1 rfl) ?_
            refine va_get (D := D) (ci := 5) (v := .ref qd0) (C := RX5) (T := TX5) (N := 11) hx hb hts hi_RX5 hown hK hP 0 rfl rfl 5 (by decide) (hts (.fieldLink RX5 35 "TravelMarks" "deed" "LTravelMarks$Deed;") (List.mem_of_getElem? (i := 1) rfl)) (fun _ h9 => h9) rfl dX5_act_50 ?_
            refine lv_iload hx hb dX5_act_53 (lv_at hl 0 rfl) ?_
            refine lv_aload_n hx hb dX5_act_55 rfl (lv_at hl 1 rfl) ?_
            refine va_get (D := D) (ci := 5) (v := .ref qn0) (C := RX5) (T := TX5) (N := 11) hx hb hts hi_RX5 hown hK hP 0 rfl rfl 0 (by decide) (hts (.fieldLink RX5 10 "TravelMarks" "now" "LTravelMarks$Port;") (List.mem_of_getElem? (i := 4) rfl)) (fun _ h9 => h9) rfl dX5_act_56 ?_
            refine va_get (D := D) (ci := 1) (v := .ref qn4) (C := RX1) (T := TX1) (N := 10) hx hb hts hi_RX1 hown hK hP 1 rfl rfl 3 (by decide) (hts (.fieldLink RX5 120 "TravelMarks$Port" "on" "[I") (List.mem_of_getElem? (i := 5) rfl)) (fun _ h9 => h9) rfl dX5_act_59 ?_
            refine lv_iload hx hb dX5_act_62 (lv_at hl 0 rfl) ?_
            obtain ⟨y16, ey16, hi15, hf⟩ := rdA_x hf
            refine va_iald hx hb hK hP 5 0 rfl rfl hi15 dX5_act_64 ?_
            refine lv_ren ey16 ?_
            refine lv_aload_n hx hb dX5_act_65 rfl (lv_at hl 1 rfl) ?_
            refine va_get (D := D) (ci := 5) (v := .ref qn0) (C := RX5) (T := TX5) (N := 11) hx hb hts hi_RX5 hown hK hP 0 rfl rfl 0 (by decide) (hts (.fieldLink RX5 10 "TravelMarks" "now" "LTravelMarks$Port;") (List.mem_of_getElem? (i := 4) rfl)) (fun _ h9 => h9) rfl dX5_act_66 ?_
            refine va_get (D := D) (ci := 1) (v := .ref qn2) (C := RX1) (T := TX1) (N := 10) hx hb hts hi_RX1 hown hK hP 1 rfl rfl 1 (by decide) (hts (.fieldLink RX5 114 "TravelMarks$Port" "kind" "[I") (List.mem_of_getElem? (i := 6) rfl)) (fun _ h9 => h9) rfl dX5_act_69 ?_
            refine lv_iload hx hb dX5_act_72 (lv_at hl 0 rfl) ?_
            obtain ⟨y18, ey18, hi17, hf⟩ := rdA_x hf
            refine va_iald hx hb hK hP 3 0 rfl rfl hi17 dX5_act_74 ?_
            refine lv_ren ey18 ?_
            refine lv_iload_n hx hb dX5_act_75 rfl (lv_at hl 3 rfl) ?_
            refine lv_iload_n hx hb dX5_act_76 rfl (lv_at hl 4 rfl) ?_
            obtain ⟨r19, v20, h21, hf⟩ := ob2_e hf
            refine kci (Wx := (oTM q0 qn0 qk0 qr0 qc0 qt0 qd0 qs0 qf0 qw0 rowCount anyKept (oPort C qn0 qn1 qn2 qn3 qn4 qn5 qn6 now (oDeed C qd0 qd1 v20 (oShelves C qf0 qf1 qf2 qf3 qf4 shelves []))))) (va_runV (As := [.int t14, .int y16, .int y18, .int x1, .int x2]) (rest := []) ⟨hx, hb, hml, hown, hts⟩ (c_X0_doAct l E D C qd0 qd1 H.size N v1 t14 y16 y18 x1 x2 r19 v20 h21) (cwV 5 hts gX5_act_X0_doAct rfl rfl rfl hdX0_doAct ⟨Nat.le_of_ble_eq_true rfl, Nat.le_of_ble_eq_true rfl⟩) (kpreV hP hD hK hS hE hA [8, 9] rfl rfl 8 rfl rfl rfl) rfl rfl hl.1 rfl (lv_room (Nat.le_of_ble_eq_true rfl)) dX5_act_77 ⟨Nat.zero_le _, Nat.zero_le _⟩) hP hD hS hA [8, 9] rfl rfl rfl (fun H locs hP hD hS => ?_)
            cases hf
            exact kri hQ hAe hx hb hr hlocks hP hD hK hS dX5_act_80
          · replace hf := if_fe c10 hf
            refine lv_iconst (v := 0) hx hb dX5_act_36 rfl ?_
            cases hf
            exact kri hQ hAe hx hb hr hlocks hP hD hK hS dX5_act_37
        · rw [e4_9] at eo8
          subst eo8
          try rw [e4_9] at hf
          refine va_aldq hx hb hK hP 10 4 rfl rfl hi7 dX5_act_29 ?_
          rw [e4_9]
          refine lv_renV (v := .ref qf4) rfl ?_
          refine kci (Wx := (oTM q0 qn0 qk0 qr0 qc0 qt0 qd0 qs0 qf0 qw0 rowCount anyKept (oPort C qn0 qn1 qn2 qn3 qn4 qn5 qn6 now (oDeed C qd0 qd1 v1 (oShelves C qf0 qf1 qf2 qf3 qf4 shelves []))))) (va_runV (As := [.ref qf4]) (rest := []) ⟨hx, hb, hml, hown, hts⟩ (c_X5_heldBy l E D C q0 qn0 qk0 qr0 qc0 qt0 qd0 qs0 qf0 qw0 qn1 qn2 qn3 qn4 qn5 qn6 qf4 H.size rowCount anyKept now (shelves 3) _ rfl) (cwV 1 hts gX5_act_X5_heldBy rfl rfl rfl hdX5_heldBy ⟨Nat.le_of_ble_eq_true rfl, Nat.le_of_ble_eq_true rfl⟩) (kpreV hP hD hK hS hE hA [0, 1, 2, 3, 4, 5, 6, 7, 14] rfl rfl 0 rfl rfl rfl) rfl rfl hl.1 rfl (lv_room (Nat.le_of_ble_eq_true rfl)) dX5_act_30 ⟨Nat.zero_le _, Nat.zero_le _⟩) hP hD hS hA [0, 1, 2, 3, 4, 5, 6, 7, 14] rfl rfl rfl (fun H locs hP hD hS => ?_)
          refine lv_if_eq (tgt := 38) hx hb dX5_act_33 (by decide) (fun c10 => ?_) (fun c10 => ?_)
          · replace hf := if_te c10 hf
            refine lv_aload_n hx hb dX5_act_38 rfl (lv_at hl 0 rfl) ?_
            refine va_get (D := D) (ci := 5) (v := .ref qf0) (C := RX5) (T := TX5) (N := 11) hx hb hts hi_RX5 hown hK hP 0 rfl rfl 7 (by decide) (hts (.fieldLink RX5 47 "TravelMarks" "shelves" "[LTravelMarks$Shelf;") (List.mem_of_getElem? (i := 2) rfl)) (fun _ h9 => h9) rfl dX5_act_39 ?_
            refine lv_iload_n hx hb dX5_act_42 rfl (lv_at hl 1 rfl) ?_
            obtain ⟨hi11, hf⟩ := ckA_e hf
            obtain ⟨o12, eo12, hf⟩ := lj_e hf
            try rw [e4_9] at eo12
            subst eo12
            try rw [e4_9] at hf
            refine va_aldq hx hb hK hP 10 4 rfl rfl hi11 dX5_act_43 ?_
            rw [e4_9]
            refine lv_renV (v := .ref qf4) rfl ?_
            refine va_get (D := D) (ci := 3) (v := .int (sfNumber (shelves 3))) (C := RX3) (T := TX3) (N := 4) hx hb hts hi_RX3 hown hK hP 14 rfl rfl 1 (by decide) (hts (.fieldLink RX5 282 "TravelMarks$Shelf" "number" "I") (List.mem_of_getElem? (i := 3) rfl)) (fun _ h9 => h9) rfl dX5_act_44 ?_
            obtain ⟨t14, et14, hf⟩ := lj_e hf
            refine lv_ren et14 ?_
            refine lv_istore (lv' := [(4, .int t14), (0, .ref q0), (1, .int x0), (2, .int x1), (3, .int x2)]) hx hb dX5_act_47 hl (by decide) rfl (fun ls hl => ?_)
            refine lv_aload_n hx hb dX5_act_49 rfl (lv_at hl 1 rfl) ?_
            refine va_get (D := D) (ci := 5) (v := .ref qd0) (C := RX5) (T := TX5) (N := 11) hx hb hts hi_RX5 hown hK hP 0 rfl rfl 5 (by decide) (hts (.fieldLink RX5 35 "TravelMarks" "deed" "LTravelMarks$Deed;") (List.mem_of_getElem? (i := 1) rfl)) (fun _ h9 => h9) rfl dX5_act_50 ?_
            refine lv_iload hx hb dX5_act_53 (lv_at hl 0 rfl) ?_
            refine lv_aload_n hx hb dX5_act_55 rfl (lv_at hl 1 rfl) ?_
            refine va_get (D := D) (ci := 5) (v := .ref qn0) (C := RX5) (T := TX5) (N := 11) hx hb hts hi_RX5 hown hK hP 0 rfl rfl 0 (by decide) (hts (.fieldLink RX5 10 "TravelMarks" "now" "LTravelMarks$Port;") (List.mem_of_getElem? (i := 4) rfl)) (fun _ h9 => h9) rfl dX5_act_56 ?_
            refine va_get (D := D) (ci := 1) (v := .ref qn4) (C := RX1) (T := TX1) (N := 10) hx hb hts hi_RX1 hown hK hP 1 rfl rfl 3 (by decide) (hts (.fieldLink RX5 120 "TravelMarks$Port" "on" "[I") (List.mem_of_getElem? (i := 5) rfl)) (fun _ h9 => h9) rfl dX5_act_59 ?_
            refine lv_iload hx hb dX5_act_62 (lv_at hl 0 rfl) ?_
            obtain ⟨y16, ey16, hi15, hf⟩ := rdA_x hf
            refine va_iald hx hb hK hP 5 0 rfl rfl hi15 dX5_act_64 ?_
            refine lv_ren ey16 ?_
            refine lv_aload_n hx hb dX5_act_65 rfl (lv_at hl 1 rfl) ?_
            refine va_get (D := D) (ci := 5) (v := .ref qn0) (C := RX5) (T := TX5) (N := 11) hx hb hts hi_RX5 hown hK hP 0 rfl rfl 0 (by decide) (hts (.fieldLink RX5 10 "TravelMarks" "now" "LTravelMarks$Port;") (List.mem_of_getElem? (i := 4) rfl)) (fun _ h9 => h9) rfl dX5_act_66 ?_
            refine va_get (D := D) (ci := 1) (v := .ref qn2) (C := RX1) (T := TX1) (N := 10) hx hb hts hi_RX1 hown hK hP 1 rfl rfl 1 (by decide) (hts (.fieldLink RX5 114 "TravelMarks$Port" "kind" "[I") (List.mem_of_getElem? (i := 6) rfl)) (fun _ h9 => h9) rfl dX5_act_69 ?_
            refine lv_iload hx hb dX5_act_72 (lv_at hl 0 rfl) ?_
            obtain ⟨y18, ey18, hi17, hf⟩ := rdA_x hf
            refine va_iald hx hb hK hP 3 0 rfl rfl hi17 dX5_act_74 ?_
            refine lv_ren ey18 ?_
            refine lv_iload_n hx hb dX5_act_75 rfl (lv_at hl 3 rfl) ?_
            refine lv_iload_n hx hb dX5_act_76 rfl (lv_at hl 4 rfl) ?_
            obtain ⟨r19, v20, h21, hf⟩ := ob2_e hf
            refine kci (Wx := (oTM q0 qn0 qk0 qr0 qc0 qt0 qd0 qs0 qf0 qw0 rowCount anyKept (oPort C qn0 qn1 qn2 qn3 qn4 qn5 qn6 now (oDeed C qd0 qd1 v20 (oShelves C qf0 qf1 qf2 qf3 qf4 shelves []))))) (va_runV (As := [.int t14, .int y16, .int y18, .int x1, .int x2]) (rest := []) ⟨hx, hb, hml, hown, hts⟩ (c_X0_doAct l E D C qd0 qd1 H.size N v1 t14 y16 y18 x1 x2 r19 v20 h21) (cwV 5 hts gX5_act_X0_doAct rfl rfl rfl hdX0_doAct ⟨Nat.le_of_ble_eq_true rfl, Nat.le_of_ble_eq_true rfl⟩) (kpreV hP hD hK hS hE hA [8, 9] rfl rfl 8 rfl rfl rfl) rfl rfl hl.1 rfl (lv_room (Nat.le_of_ble_eq_true rfl)) dX5_act_77 ⟨Nat.zero_le _, Nat.zero_le _⟩) hP hD hS hA [8, 9] rfl rfl rfl (fun H locs hP hD hS => ?_)
            cases hf
            exact kri hQ hAe hx hb hr hlocks hP hD hK hS dX5_act_80
          · replace hf := if_fe c10 hf
            refine lv_iconst (v := 0) hx hb dX5_act_36 rfl ?_
            cases hf
            exact kri hQ hAe hx hb hr hlocks hP hD hK hS dX5_act_37
  exact main _ _ hP hD hS

def rmX5_trace : Room := { frames := 1, cells := 0, slots := 0, locals := 22 }
theorem hdX5_trace : yX5_trace.cls = RX5 ∧ yX5_trace.cls ≠ "java/lang/invoke/MethodHandle" ∧ yX5_trace.cls ≠ "java/lang/invoke/VarHandle" ∧ (parseMethodDescriptor yX5_trace.desc).map (fun d => d.parameters.length) = some 1 := by decide +kernel
set_option maxHeartbeats 40000000 in
set_option maxRecDepth 100000 in
theorem c_X5_trace (l : Launch) (E : Nat → Nat) (D : va_G) (C : Nat → ClassId) (q0 qn0 qk0 qr0 qc0 qt0 qd0 qs0 qf0 qw0 qd1 : Nat) (sz : Nat) (rowCount : Int32) (anyKept : Int32) (deed : DV) (x0 : Int32) (r : Int32) (hf : f_X5_trace deed x0 = some r) : Met l yX5_trace wsX5_trace rmX5_trace (PC E D C [.ref q0, .int x0] (oTM q0 qn0 qk0 qr0 qc0 qt0 qd0 qs0 qf0 qw0 rowCount anyKept (oDeed C qd0 qd1 deed [])) sz) (QI D C (oTM q0 qn0 qk0 qr0 qc0 qt0 qd0 qs0 qf0 qw0 rowCount anyKept (oDeed C qd0 qd1 deed [])) (oTM q0 qn0 qk0 qr0 qc0 qt0 qd0 qs0 qf0 qw0 rowCount anyKept (oDeed C qd0 qd1 deed [])) sz r) 0 0 (va_A (oTM q0 qn0 qk0 qr0 qc0 qt0 qd0 qs0 qf0 qw0 rowCount anyKept (oDeed C qd0 qd1 deed [])) sz) := by
  refine Met.ofW (cc := cX5_trace) (maxL := 2) (ret := (some .int)) (by decide) rfl ?_
  intro p e s m args below meth c s₁ B hml hv
  obtain ⟨rfl, hsz, hP, hK, hD0, hE⟩ := hv
  have hx := B.exec
  have hb := B.bytes
  have hr := B.returns
  have hts := atoms_spec (ws := wsX5_trace) B.pre
  have hown : s.vm.findClass RX5 = some m.cls := findClass_of_methodNamed B.named
  have hlocks := B.notSynchronized
  subst hsz
  have hi_RX0 : ∀ w ∈ wsX00, w ∈ wsX5_trace := fun _ h => List.mem_cons_of_mem _ (List.mem_append_right _ h)
  have hi_RX5 : ∀ w ∈ wsX50, w ∈ wsX5_trace := fun _ h => List.mem_cons_of_mem _ (List.mem_append_left _ (List.mem_append_right _ h))
  have hD := hD0.self (sz := s.heap.size)
  obtain ⟨A, hAe⟩ := nm_ex (va_A (oTM q0 qn0 qk0 qr0 qc0 qt0 qd0 qs0 qf0 qw0 rowCount anyKept (oDeed C qd0 qd1 deed [])) s.heap.size)
  rw [← hAe] at hD hE ⊢
  have hA : ∀ q : Nat, s.heap.size ≤ q → A q := fun q h => by rw [hAe]; exact Or.inr h
  have hS : va_S A s.heap s.heap [] := va_S.rf
  have hl := lv_entry ([.ref q0, .int x0]) (n := 2) (Nat.le_of_ble_eq_true rfl)
  rw [lg_entry_eq]
  generalize (lg_sl ([.ref q0, .int x0]) ++ List.replicate (2 - (lg_sl ([.ref q0, .int x0])).length) Slot.unset).toArray = ls at hl ⊢
  have hl : lv_has ls 2 [(0, .ref q0), (1, .int x0)] := hl
  obtain ⟨Q, hQ⟩ := nm_ex (MQ below (QI D C (oTM q0 qn0 qk0 qr0 qc0 qt0 qd0 qs0 qf0 qw0 rowCount anyKept (oDeed C qd0 qd1 deed [])) (oTM q0 qn0 qk0 qr0 qc0 qt0 qd0 qs0 qf0 qw0 rowCount anyKept (oDeed C qd0 qd1 deed [])) s.heap.size r) (List.toArray [Value.ref q0, Value.int x0]) s 0 0 A)
  show W p l e (headSpec wsX5_trace (rmX5_trace)).room s m (List.toArray [Value.ref q0, Value.int x0]) below meth c s.heap [] 0 0 (MQ below (QI D C (oTM q0 qn0 qk0 qr0 qc0 qt0 qd0 qs0 qf0 qw0 rowCount anyKept (oDeed C qd0 qd1 deed [])) (oTM q0 qn0 qk0 qr0 qc0 qt0 qd0 qs0 qf0 qw0 rowCount anyKept (oDeed C qd0 qd1 deed [])) s.heap.size r) (List.toArray [Value.ref q0, Value.int x0]) s 0 0 A) _
  rw [← hQ]
  unfold f_X5_trace at hf
  have main : ∀ (H : Heap) (locs : List Loc), va_P D vwCl (oTM q0 qn0 qk0 qr0 qc0 qt0 qd0 qs0 qf0 qw0 rowCount anyKept (oDeed C qd0 qd1 deed [])) H → va_D A (oTM q0 qn0 qk0 qr0 qc0 qt0 qd0 qs0 qf0 qw0 rowCount anyKept (oDeed C qd0 qd1 deed [])) → va_S A s.heap H locs → W p l e (headSpec wsX5_trace (rmX5_trace)).room s m (List.toArray [Value.ref q0, Value.int x0]) below meth c H locs 0 0 Q (F0 m 0 ls []) := by
    intro H locs hP hD hS
    refine lv_iload_n hx hb dX5_trace_0 rfl (lv_at hl 1 rfl) ?_
    refine lv_iconst (v := 0) hx hb dX5_trace_1 rfl ?_
    refine lv_aload_n hx hb dX5_trace_2 rfl (lv_at hl 0 rfl) ?_
    refine va_get (D := D) (ci := 5) (v := .ref qd0) (C := RX5) (T := TX5) (N := 11) hx hb hts hi_RX5 hown hK hP 0 rfl rfl 5 (by decide) (hts (.fieldLink RX5 35 "TravelMarks" "deed" "LTravelMarks$Deed;") (List.mem_of_getElem? (i := 1) rfl)) (fun _ h9 => h9) rfl dX5_trace_3 ?_
    refine va_get (D := D) (ci := 0) (v := .int (ddRan deed)) (C := RX0) (T := TX0) (N := 6) hx hb hts hi_RX0 hown hK hP 1 rfl rfl 1 (by decide) (hts (.fieldLink RX5 295 "TravelMarks$Deed" "ran" "I") (List.mem_of_getElem? (i := 2) rfl)) (fun _ h9 => h9) rfl dX5_trace_6 ?_
    refine lv_iconst (v := 1) hx hb dX5_trace_9 rfl ?_
    refine lv_isub hx hb dX5_trace_10 ?_
    refine kcz (Wx := (oTM q0 qn0 qk0 qr0 qc0 qt0 qd0 qs0 qf0 qw0 rowCount anyKept (oDeed C qd0 qd1 deed []))) (va_runS (As := [.int x0, .int 0, .int ((ddRan deed) - 1)]) (rest := []) ⟨hx, hb, hml, hown, hts⟩ (c_X5_within l E D C H.size x0 0 ((ddRan deed) - 1) _ rfl) (va_cwS 3 hts gX5_trace_X5_within rfl rfl rfl hdX5_within ⟨Nat.le_of_ble_eq_true rfl, Nat.le_of_ble_eq_true rfl⟩) (kpre hP hD hK hS hE hA [] rfl rfl) rfl rfl hl.1 rfl (lv_room (Nat.le_of_ble_eq_true rfl)) dX5_trace_11 ⟨Nat.zero_le _, Nat.zero_le _⟩) hP hD hS hA [] rfl rfl rfl (fun H locs hz1 hP hD hS => ?_)
    refine lv_if_eq (tgt := 29) hx hb dX5_trace_14 (by decide) (fun c2 => ?_) (fun c2 => ?_)
    · replace hf := if_te c2 hf
      refine lv_bipush (v := (-3)) hx hb dX5_trace_29 rfl ?_
      cases hf
      exact kri hQ hAe hx hb hr hlocks hP hD hK hS dX5_trace_31
    · replace hf := if_fe c2 hf
      refine lv_aload_n hx hb dX5_trace_17 rfl (lv_at hl 0 rfl) ?_
      refine va_get (D := D) (ci := 5) (v := .ref qd0) (C := RX5) (T := TX5) (N := 11) hx hb hts hi_RX5 hown hK hP 0 rfl rfl 5 (by decide) (hts (.fieldLink RX5 35 "TravelMarks" "deed" "LTravelMarks$Deed;") (List.mem_of_getElem? (i := 1) rfl)) (fun _ h9 => h9) rfl dX5_trace_18 ?_
      refine va_get (D := D) (ci := 0) (v := .ref qd1) (C := RX0) (T := TX0) (N := 6) hx hb hts hi_RX0 hown hK hP 1 rfl rfl 0 (by decide) (hts (.fieldLink RX5 298 "TravelMarks$Deed" "bodies" "[I") (List.mem_of_getElem? (i := 3) rfl)) (fun _ h9 => h9) rfl dX5_trace_21 ?_
      refine lv_iload_n hx hb dX5_trace_24 rfl (lv_at hl 1 rfl) ?_
      obtain ⟨y4, ey4, hi3, hf⟩ := rdA_x hf
      refine va_iald hx hb hK hP 2 0 rfl rfl hi3 dX5_trace_25 ?_
      refine lv_ren ey4 ?_
      refine lv_goto (tgt := 31) hx hb dX5_trace_26 (by decide) ?_
      cases hf
      exact kri hQ hAe hx hb hr hlocks hP hD hK hS dX5_trace_31
  exact main _ _ hP hD hS

def rmX5_many : Room := { frames := 1, cells := 0, slots := 0, locals := 22 }
theorem hdX5_many : yX5_many.cls = RX5 ∧ yX5_many.cls ≠ "java/lang/invoke/MethodHandle" ∧ yX5_many.cls ≠ "java/lang/invoke/VarHandle" ∧ (parseMethodDescriptor yX5_many.desc).map (fun d => d.parameters.length) = some 1 := by decide +kernel
set_option maxHeartbeats 40000000 in
set_option maxRecDepth 100000 in
theorem c_X5_many (l : Launch) (E : Nat → Nat) (D : va_G) (C : Nat → ClassId) (q0 qn0 qk0 qr0 qc0 qt0 qd0 qs0 qf0 qw0 qn1 qn2 qn3 qn4 qn5 qn6 qt1 qd1 : Nat) (sz : Nat) (N : Nat) (rowCount : Int32) (anyKept : Int32) (now : PV) (tape : TV) (deed : DV) (x0 : Int32) (r : Int32) (hf : f_X5_many N rowCount now tape deed x0 = some r) : Met l yX5_many wsX5_many rmX5_many (PC E D C [.ref q0, .int x0] (oTM q0 qn0 qk0 qr0 qc0 qt0 qd0 qs0 qf0 qw0 rowCount anyKept (oPort C qn0 qn1 qn2 qn3 qn4 qn5 qn6 now (oTape C qt0 qt1 tape (oDeed C qd0 qd1 deed [])))) sz) (QI D C (oTM q0 qn0 qk0 qr0 qc0 qt0 qd0 qs0 qf0 qw0 rowCount anyKept (oPort C qn0 qn1 qn2 qn3 qn4 qn5 qn6 now (oTape C qt0 qt1 tape (oDeed C qd0 qd1 deed [])))) (oTM q0 qn0 qk0 qr0 qc0 qt0 qd0 qs0 qf0 qw0 rowCount anyKept (oPort C qn0 qn1 qn2 qn3 qn4 qn5 qn6 now (oTape C qt0 qt1 tape (oDeed C qd0 qd1 deed [])))) sz r) 0 0 (va_A (oTM q0 qn0 qk0 qr0 qc0 qt0 qd0 qs0 qf0 qw0 rowCount anyKept (oPort C qn0 qn1 qn2 qn3 qn4 qn5 qn6 now (oTape C qt0 qt1 tape (oDeed C qd0 qd1 deed [])))) sz) := by
  refine Met.ofW (cc := cX5_many) (maxL := 2) (ret := (some .int)) (by decide) rfl ?_
  intro p e s m args below meth c s₁ B hml hv
  obtain ⟨rfl, hsz, hP, hK, hD0, hE⟩ := hv
  have hx := B.exec
  have hb := B.bytes
  have hr := B.returns
  have hts := atoms_spec (ws := wsX5_many) B.pre
  have hown : s.vm.findClass RX5 = some m.cls := findClass_of_methodNamed B.named
  have hlocks := B.notSynchronized
  subst hsz
  have hi_RX0 : ∀ w ∈ wsX00, w ∈ wsX5_many := fun _ h => List.mem_cons_of_mem _ (List.mem_append_right _ h)
  have hi_RX1 : ∀ w ∈ wsX10, w ∈ wsX5_many := fun _ h => List.mem_cons_of_mem _ (List.mem_append_left _ (List.mem_append_left _ (List.mem_append_right _ h)))
  have hi_RX4 : ∀ w ∈ wsX40, w ∈ wsX5_many := fun _ h => List.mem_cons_of_mem _ (List.mem_append_left _ (List.mem_append_right _ h))
  have hi_RX5 : ∀ w ∈ wsX50, w ∈ wsX5_many := fun _ h => List.mem_cons_of_mem _ (List.mem_append_left _ (List.mem_append_left _ (List.mem_append_left _ (List.mem_append_right _ h))))
  have hD := hD0.self (sz := s.heap.size)
  obtain ⟨A, hAe⟩ := nm_ex (va_A (oTM q0 qn0 qk0 qr0 qc0 qt0 qd0 qs0 qf0 qw0 rowCount anyKept (oPort C qn0 qn1 qn2 qn3 qn4 qn5 qn6 now (oTape C qt0 qt1 tape (oDeed C qd0 qd1 deed [])))) s.heap.size)
  rw [← hAe] at hD hE ⊢
  have hA : ∀ q : Nat, s.heap.size ≤ q → A q := fun q h => by rw [hAe]; exact Or.inr h
  have hS : va_S A s.heap s.heap [] := va_S.rf
  have hl := lv_entry ([.ref q0, .int x0]) (n := 2) (Nat.le_of_ble_eq_true rfl)
  rw [lg_entry_eq]
  generalize (lg_sl ([.ref q0, .int x0]) ++ List.replicate (2 - (lg_sl ([.ref q0, .int x0])).length) Slot.unset).toArray = ls at hl ⊢
  have hl : lv_has ls 2 [(0, .ref q0), (1, .int x0)] := hl
  obtain ⟨Q, hQ⟩ := nm_ex (MQ below (QI D C (oTM q0 qn0 qk0 qr0 qc0 qt0 qd0 qs0 qf0 qw0 rowCount anyKept (oPort C qn0 qn1 qn2 qn3 qn4 qn5 qn6 now (oTape C qt0 qt1 tape (oDeed C qd0 qd1 deed [])))) (oTM q0 qn0 qk0 qr0 qc0 qt0 qd0 qs0 qf0 qw0 rowCount anyKept (oPort C qn0 qn1 qn2 qn3 qn4 qn5 qn6 now (oTape C qt0 qt1 tape (oDeed C qd0 qd1 deed [])))) s.heap.size r) (List.toArray [Value.ref q0, Value.int x0]) s 0 0 A)
  show W p l e (headSpec wsX5_many (rmX5_many)).room s m (List.toArray [Value.ref q0, Value.int x0]) below meth c s.heap [] 0 0 (MQ below (QI D C (oTM q0 qn0 qk0 qr0 qc0 qt0 qd0 qs0 qf0 qw0 rowCount anyKept (oPort C qn0 qn1 qn2 qn3 qn4 qn5 qn6 now (oTape C qt0 qt1 tape (oDeed C qd0 qd1 deed [])))) (oTM q0 qn0 qk0 qr0 qc0 qt0 qd0 qs0 qf0 qw0 rowCount anyKept (oPort C qn0 qn1 qn2 qn3 qn4 qn5 qn6 now (oTape C qt0 qt1 tape (oDeed C qd0 qd1 deed [])))) s.heap.size r) (List.toArray [Value.ref q0, Value.int x0]) s 0 0 A) _
  rw [← hQ]
  unfold f_X5_many at hf
  have main : ∀ (H : Heap) (locs : List Loc), va_P D vwCl (oTM q0 qn0 qk0 qr0 qc0 qt0 qd0 qs0 qf0 qw0 rowCount anyKept (oPort C qn0 qn1 qn2 qn3 qn4 qn5 qn6 now (oTape C qt0 qt1 tape (oDeed C qd0 qd1 deed [])))) H → va_D A (oTM q0 qn0 qk0 qr0 qc0 qt0 qd0 qs0 qf0 qw0 rowCount anyKept (oPort C qn0 qn1 qn2 qn3 qn4 qn5 qn6 now (oTape C qt0 qt1 tape (oDeed C qd0 qd1 deed [])))) → va_S A s.heap H locs → W p l e (headSpec wsX5_many (rmX5_many)).room s m (List.toArray [Value.ref q0, Value.int x0]) below meth c H locs 0 0 Q (F0 m 0 ls []) := by
    intro H locs hP hD hS
    refine lv_iload_n hx hb dX5_many_0 rfl (lv_at hl 1 rfl) ?_
    by_cases c1 : x0 = 0
    · replace hf := if_te c1 hf
      refine lv_tableIn (x := x0) (tgt := 44) (off := 43) hx hb dX5_many_1 (by rw [c1]; decide) (by rw [c1]; decide) (by rw [c1]; try rfl) (by decide) ?_
      refine lv_aload_n hx hb dX5_many_44 rfl (lv_at hl 0 rfl) ?_
      refine va_get (D := D) (ci := 5) (v := .ref qn0) (C := RX5) (T := TX5) (N := 11) hx hb hts hi_RX5 hown hK hP 0 rfl rfl 0 (by decide) (hts (.fieldLink RX5 10 "TravelMarks" "now" "LTravelMarks$Port;") (List.mem_of_getElem? (i := 1) rfl)) (fun _ h9 => h9) rfl dX5_many_45 ?_
      refine va_get (D := D) (ci := 1) (v := .int (pCount now)) (C := RX1) (T := TX1) (N := 10) hx hb hts hi_RX1 hown hK hP 1 rfl rfl 6 (by decide) (hts (.fieldLink RX5 86 "TravelMarks$Port" "count" "I") (List.mem_of_getElem? (i := 2) rfl)) (fun _ h9 => h9) rfl dX5_many_48 ?_
      obtain ⟨t2, et2, hf⟩ := lj_e hf
      refine lv_ren et2 ?_
      cases hf
      exact kri hQ hAe hx hb hr hlocks hP hD hK hS dX5_many_51
    replace hf := if_fe c1 hf
    by_cases c3 : x0 = 1
    · replace hf := if_te c3 hf
      refine lv_tableIn (x := x0) (tgt := 52) (off := 51) hx hb dX5_many_1 (by rw [c3]; decide) (by rw [c3]; decide) (by rw [c3]; try rfl) (by decide) ?_
      refine lv_aload_n hx hb dX5_many_52 rfl (lv_at hl 0 rfl) ?_
      refine va_get (D := D) (ci := 5) (v := .ref qn0) (C := RX5) (T := TX5) (N := 11) hx hb hts hi_RX5 hown hK hP 0 rfl rfl 0 (by decide) (hts (.fieldLink RX5 10 "TravelMarks" "now" "LTravelMarks$Port;") (List.mem_of_getElem? (i := 1) rfl)) (fun _ h9 => h9) rfl dX5_many_53 ?_
      refine va_get (D := D) (ci := 1) (v := .int (pCount now)) (C := RX1) (T := TX1) (N := 10) hx hb hts hi_RX1 hown hK hP 1 rfl rfl 6 (by decide) (hts (.fieldLink RX5 86 "TravelMarks$Port" "count" "I") (List.mem_of_getElem? (i := 2) rfl)) (fun _ h9 => h9) rfl dX5_many_56 ?_
      refine lv_aload_n hx hb dX5_many_59 rfl (lv_at hl 0 rfl) ?_
      refine va_get (D := D) (ci := 5) (v := .ref qn0) (C := RX5) (T := TX5) (N := 11) hx hb hts hi_RX5 hown hK hP 0 rfl rfl 0 (by decide) (hts (.fieldLink RX5 10 "TravelMarks" "now" "LTravelMarks$Port;") (List.mem_of_getElem? (i := 1) rfl)) (fun _ h9 => h9) rfl dX5_many_60 ?_
      obtain ⟨r4, h5, hf⟩ := ob1_e hf
      refine kci (Wx := (oTM q0 qn0 qk0 qr0 qc0 qt0 qd0 qs0 qf0 qw0 rowCount anyKept (oPort C qn0 qn1 qn2 qn3 qn4 qn5 qn6 now (oTape C qt0 qt1 tape (oDeed C qd0 qd1 deed []))))) (va_runV (As := []) (rest := [.int (pCount now)]) ⟨hx, hb, hml, hown, hts⟩ (c_X1_dried l E D C qn0 qn1 qn2 qn3 qn4 qn5 qn6 H.size N now r4 h5) (cwV 0 hts gX5_many_X1_dried rfl rfl rfl hdX1_dried ⟨Nat.le_of_ble_eq_true rfl, Nat.le_of_ble_eq_true rfl⟩) (kpreV hP hD hK hS hE hA [1, 2, 3, 4, 5, 6, 7] rfl rfl 1 rfl rfl rfl) rfl rfl hl.1 rfl (lv_room (Nat.le_of_ble_eq_true rfl)) dX5_many_63 ⟨Nat.zero_le _, Nat.zero_le _⟩) hP hD hS hA [1, 2, 3, 4, 5, 6, 7] rfl rfl rfl (fun H locs hP hD hS => ?_)
      refine kci (Wx := (oTM q0 qn0 qk0 qr0 qc0 qt0 qd0 qs0 qf0 qw0 rowCount anyKept (oPort C qn0 qn1 qn2 qn3 qn4 qn5 qn6 now (oTape C qt0 qt1 tape (oDeed C qd0 qd1 deed []))))) (va_runS (As := [.int r4]) (rest := [.int (pCount now)]) ⟨hx, hb, hml, hown, hts⟩ (c_J6_bitCount_0f7a4 l E D C H.size r4 _ rfl) (va_cwS 1 hts gX5_many_J6_bitCount_0f7a4 rfl rfl rfl hdJ6_bitCount_0f7a4 ⟨Nat.le_of_ble_eq_true rfl, Nat.le_of_ble_eq_true rfl⟩) (kpre hP hD hK hS hE hA [] rfl rfl) rfl rfl hl.1 rfl (lv_room (Nat.le_of_ble_eq_true rfl)) dX5_many_66 ⟨Nat.zero_le _, Nat.zero_le _⟩) hP hD hS hA [] rfl rfl rfl (fun H locs hP hD hS => ?_)
      refine lv_isub hx hb dX5_many_69 ?_
      obtain ⟨t6, et6, hf⟩ := lj_e hf
      refine lv_ren et6 ?_
      cases hf
      exact kri hQ hAe hx hb hr hlocks hP hD hK hS dX5_many_70
    replace hf := if_fe c3 hf
    by_cases c7 : x0 = 2
    · replace hf := if_te c7 hf
      refine lv_tableIn (x := x0) (tgt := 71) (off := 70) hx hb dX5_many_1 (by rw [c7]; decide) (by rw [c7]; decide) (by rw [c7]; try rfl) (by decide) ?_
      refine lv_aload_n hx hb dX5_many_71 rfl (lv_at hl 0 rfl) ?_
      refine va_get (D := D) (ci := 5) (v := .ref qn0) (C := RX5) (T := TX5) (N := 11) hx hb hts hi_RX5 hown hK hP 0 rfl rfl 0 (by decide) (hts (.fieldLink RX5 10 "TravelMarks" "now" "LTravelMarks$Port;") (List.mem_of_getElem? (i := 1) rfl)) (fun _ h9 => h9) rfl dX5_many_72 ?_
      obtain ⟨r8, h9, hf⟩ := ob1_e hf
      refine kci (Wx := (oTM q0 qn0 qk0 qr0 qc0 qt0 qd0 qs0 qf0 qw0 rowCount anyKept (oPort C qn0 qn1 qn2 qn3 qn4 qn5 qn6 now (oTape C qt0 qt1 tape (oDeed C qd0 qd1 deed []))))) (va_runV (As := []) (rest := []) ⟨hx, hb, hml, hown, hts⟩ (c_X1_marked l E D C qn0 qn1 qn2 qn3 qn4 qn5 qn6 H.size N now r8 h9) (cwV 0 hts gX5_many_X1_marked rfl rfl rfl hdX1_marked ⟨Nat.le_of_ble_eq_true rfl, Nat.le_of_ble_eq_true rfl⟩) (kpreV hP hD hK hS hE hA [1, 2, 3, 4, 5, 6, 7] rfl rfl 1 rfl rfl rfl) rfl rfl hl.1 rfl (lv_room (Nat.le_of_ble_eq_true rfl)) dX5_many_75 ⟨Nat.zero_le _, Nat.zero_le _⟩) hP hD hS hA [1, 2, 3, 4, 5, 6, 7] rfl rfl rfl (fun H locs hP hD hS => ?_)
      refine kci (Wx := (oTM q0 qn0 qk0 qr0 qc0 qt0 qd0 qs0 qf0 qw0 rowCount anyKept (oPort C qn0 qn1 qn2 qn3 qn4 qn5 qn6 now (oTape C qt0 qt1 tape (oDeed C qd0 qd1 deed []))))) (va_runS (As := [.int r8]) (rest := []) ⟨hx, hb, hml, hown, hts⟩ (c_J6_bitCount_0f7a4 l E D C H.size r8 _ rfl) (va_cwS 1 hts gX5_many_J6_bitCount_0f7a4 rfl rfl rfl hdJ6_bitCount_0f7a4 ⟨Nat.le_of_ble_eq_true rfl, Nat.le_of_ble_eq_true rfl⟩) (kpre hP hD hK hS hE hA [] rfl rfl) rfl rfl hl.1 rfl (lv_room (Nat.le_of_ble_eq_true rfl)) dX5_many_78 ⟨Nat.zero_le _, Nat.zero_le _⟩) hP hD hS hA [] rfl rfl rfl (fun H locs hP hD hS => ?_)
      obtain ⟨t10, et10, hf⟩ := lj_e hf
      refine lv_ren et10 ?_
      cases hf
      exact kri hQ hAe hx hb hr hlocks hP hD hK hS dX5_many_81
    replace hf := if_fe c7 hf
    by_cases c11 : x0 = 3
    · replace hf := if_te c11 hf
      refine lv_tableIn (x := x0) (tgt := 82) (off := 81) hx hb dX5_many_1 (by rw [c11]; decide) (by rw [c11]; decide) (by rw [c11]; try rfl) (by decide) ?_
      refine lv_aload_n hx hb dX5_many_82 rfl (lv_at hl 0 rfl) ?_
      refine va_get (D := D) (ci := 5) (v := .ref qn0) (C := RX5) (T := TX5) (N := 11) hx hb hts hi_RX5 hown hK hP 0 rfl rfl 0 (by decide) (hts (.fieldLink RX5 10 "TravelMarks" "now" "LTravelMarks$Port;") (List.mem_of_getElem? (i := 1) rfl)) (fun _ h9 => h9) rfl dX5_many_83 ?_
      obtain ⟨r12, h13, hf⟩ := ob1_e hf
      refine kci (Wx := (oTM q0 qn0 qk0 qr0 qc0 qt0 qd0 qs0 qf0 qw0 rowCount anyKept (oPort C qn0 qn1 qn2 qn3 qn4 qn5 qn6 now (oTape C qt0 qt1 tape (oDeed C qd0 qd1 deed []))))) (va_runV (As := []) (rest := []) ⟨hx, hb, hml, hown, hts⟩ (c_X1_touches l E D C qn0 qn1 qn2 qn3 qn4 qn5 qn6 H.size N now r12 h13) (cwV 0 hts gX5_many_X1_touches rfl rfl rfl hdX1_touches ⟨Nat.le_of_ble_eq_true rfl, Nat.le_of_ble_eq_true rfl⟩) (kpreV hP hD hK hS hE hA [1, 2, 3, 4, 5, 6, 7] rfl rfl 1 rfl rfl rfl) rfl rfl hl.1 rfl (lv_room (Nat.le_of_ble_eq_true rfl)) dX5_many_86 ⟨Nat.zero_le _, Nat.zero_le _⟩) hP hD hS hA [1, 2, 3, 4, 5, 6, 7] rfl rfl rfl (fun H locs hP hD hS => ?_)
      cases hf
      exact kri hQ hAe hx hb hr hlocks hP hD hK hS dX5_many_89
    replace hf := if_fe c11 hf
    by_cases c14 : x0 = 4
    · replace hf := if_te c14 hf
      refine lv_tableIn (x := x0) (tgt := 90) (off := 89) hx hb dX5_many_1 (by rw [c14]; decide) (by rw [c14]; decide) (by rw [c14]; try rfl) (by decide) ?_
      refine lv_aload_n hx hb dX5_many_90 rfl (lv_at hl 0 rfl) ?_
      refine va_get (D := D) (ci := 5) (v := .int rowCount) (C := RX5) (T := TX5) (N := 11) hx hb hts hi_RX5 hown hK hP 0 rfl rfl 9 (by decide) (hts (.fieldLink RX5 83 "TravelMarks" "rowCount" "I") (List.mem_of_getElem? (i := 3) rfl)) (fun _ h9 => h9) rfl dX5_many_91 ?_
      cases hf
      exact kri hQ hAe hx hb hr hlocks hP hD hK hS dX5_many_94
    replace hf := if_fe c14 hf
    by_cases c15 : x0 = 5
    · replace hf := if_te c15 hf
      refine lv_tableIn (x := x0) (tgt := 95) (off := 94) hx hb dX5_many_1 (by rw [c15]; decide) (by rw [c15]; decide) (by rw [c15]; try rfl) (by decide) ?_
      refine lv_aload_n hx hb dX5_many_95 rfl (lv_at hl 0 rfl) ?_
      refine va_get (D := D) (ci := 5) (v := .ref qt0) (C := RX5) (T := TX5) (N := 11) hx hb hts hi_RX5 hown hK hP 0 rfl rfl 4 (by decide) (hts (.fieldLink RX5 28 "TravelMarks" "tape" "LTravelMarks$Tape;") (List.mem_of_getElem? (i := 4) rfl)) (fun _ h9 => h9) rfl dX5_many_96 ?_
      refine va_get (D := D) (ci := 4) (v := .int (tpLength tape)) (C := RX4) (T := TX4) (N := 6) hx hb hts hi_RX4 hown hK hP 8 rfl rfl 1 (by decide) (hts (.fieldLink RX5 76 "TravelMarks$Tape" "length" "I") (List.mem_of_getElem? (i := 5) rfl)) (fun _ h9 => h9) rfl dX5_many_99 ?_
      obtain ⟨t16, et16, hf⟩ := lj_e hf
      refine lv_ren et16 ?_
      cases hf
      exact kri hQ hAe hx hb hr hlocks hP hD hK hS dX5_many_102
    replace hf := if_fe c15 hf
    by_cases c17 : x0 = 6
    · replace hf := if_te c17 hf
      refine lv_tableIn (x := x0) (tgt := 103) (off := 102) hx hb dX5_many_1 (by rw [c17]; decide) (by rw [c17]; decide) (by rw [c17]; try rfl) (by decide) ?_
      refine lv_aload_n hx hb dX5_many_103 rfl (lv_at hl 0 rfl) ?_
      refine va_get (D := D) (ci := 5) (v := .ref qd0) (C := RX5) (T := TX5) (N := 11) hx hb hts hi_RX5 hown hK hP 0 rfl rfl 5 (by decide) (hts (.fieldLink RX5 35 "TravelMarks" "deed" "LTravelMarks$Deed;") (List.mem_of_getElem? (i := 6) rfl)) (fun _ h9 => h9) rfl dX5_many_104 ?_
      refine va_get (D := D) (ci := 0) (v := .int (ddRan deed)) (C := RX0) (T := TX0) (N := 6) hx hb hts hi_RX0 hown hK hP 10 rfl rfl 1 (by decide) (hts (.fieldLink RX5 295 "TravelMarks$Deed" "ran" "I") (List.mem_of_getElem? (i := 7) rfl)) (fun _ h9 => h9) rfl dX5_many_107 ?_
      obtain ⟨t18, et18, hf⟩ := lj_e hf
      refine lv_ren et18 ?_
      cases hf
      exact kri hQ hAe hx hb hr hlocks hP hD hK hS dX5_many_110
    replace hf := if_fe c17 hf
    refine lv_tableOut (x := x0) (tgt := 111) hx hb dX5_many_1 (swo_0_6 c1 c3 c7 c11 c14 c15 c17) (by decide) ?_
    refine lv_iconst (v := (-1)) hx hb dX5_many_111 rfl ?_
    cases hf
    exact kri hQ hAe hx hb hr hlocks hP hD hK hS dX5_many_112
  exact main _ _ hP hD hS

def rmX5_keep : Room := { frames := 2, cells := 0, slots := 0, locals := 81 }
theorem hdX5_keep : yX5_keep.cls = RX5 ∧ yX5_keep.cls ≠ "java/lang/invoke/MethodHandle" ∧ yX5_keep.cls ≠ "java/lang/invoke/VarHandle" ∧ (parseMethodDescriptor yX5_keep.desc).map (fun d => d.parameters.length) = some 0 := by decide +kernel
set_option maxHeartbeats 40000000 in
set_option maxRecDepth 100000 in
theorem c_X5_keep (l : Launch) (E : Nat → Nat) (D : va_G) (C : Nat → ClassId) (q0 qn0 qk0 qr0 qc0 qt0 qd0 qs0 qf0 qw0 qn1 qn2 qn3 qn4 qn5 qn6 qk1 qk2 qk3 qk4 qk5 qk6 : Nat) (sz : Nat) (rowCount : Int32) (anyKept : Int32) (now : PV) (kept : PV)  (r : Int32) (anyKept' : Int32) (kept' : PV) (hf : f_X5_keep anyKept now kept = some (r, anyKept', kept')) : Met l yX5_keep wsX5_keep rmX5_keep (PC E D C [.ref q0] (oTM q0 qn0 qk0 qr0 qc0 qt0 qd0 qs0 qf0 qw0 rowCount anyKept (oPort C qn0 qn1 qn2 qn3 qn4 qn5 qn6 now (oPort C qk0 qk1 qk2 qk3 qk4 qk5 qk6 kept []))) sz) (QI D C (oTM q0 qn0 qk0 qr0 qc0 qt0 qd0 qs0 qf0 qw0 rowCount anyKept (oPort C qn0 qn1 qn2 qn3 qn4 qn5 qn6 now (oPort C qk0 qk1 qk2 qk3 qk4 qk5 qk6 kept []))) (oTM q0 qn0 qk0 qr0 qc0 qt0 qd0 qs0 qf0 qw0 rowCount (anyKept') (oPort C qn0 qn1 qn2 qn3 qn4 qn5 qn6 now (oPort C qk0 qk1 qk2 qk3 qk4 qk5 qk6 (kept') []))) sz r) 0 0 (va_A (oTM q0 qn0 qk0 qr0 qc0 qt0 qd0 qs0 qf0 qw0 rowCount anyKept (oPort C qn0 qn1 qn2 qn3 qn4 qn5 qn6 now (oPort C qk0 qk1 qk2 qk3 qk4 qk5 qk6 kept []))) sz) := by
  refine Met.ofW (cc := cX5_keep) (maxL := 1) (ret := (some .int)) (by decide) rfl ?_
  intro p e s m args below meth c s₁ B hml hv
  obtain ⟨rfl, hsz, hP, hK, hD0, hE⟩ := hv
  have hx := B.exec
  have hb := B.bytes
  have hr := B.returns
  have hts := atoms_spec (ws := wsX5_keep) B.pre
  have hown : s.vm.findClass RX5 = some m.cls := findClass_of_methodNamed B.named
  have hlocks := B.notSynchronized
  subst hsz
  have hi_RX5 : ∀ w ∈ wsX50, w ∈ wsX5_keep := fun _ h => List.mem_cons_of_mem _ (List.mem_append_left _ (List.mem_append_right _ h))
  have hD := hD0.self (sz := s.heap.size)
  obtain ⟨A, hAe⟩ := nm_ex (va_A (oTM q0 qn0 qk0 qr0 qc0 qt0 qd0 qs0 qf0 qw0 rowCount anyKept (oPort C qn0 qn1 qn2 qn3 qn4 qn5 qn6 now (oPort C qk0 qk1 qk2 qk3 qk4 qk5 qk6 kept []))) s.heap.size)
  rw [← hAe] at hD hE ⊢
  have hA : ∀ q : Nat, s.heap.size ≤ q → A q := fun q h => by rw [hAe]; exact Or.inr h
  have hS : va_S A s.heap s.heap [] := va_S.rf
  have hl := lv_entry ([.ref q0]) (n := 1) (Nat.le_of_ble_eq_true rfl)
  rw [lg_entry_eq]
  generalize (lg_sl ([.ref q0]) ++ List.replicate (1 - (lg_sl ([.ref q0])).length) Slot.unset).toArray = ls at hl ⊢
  have hl : lv_has ls 1 [(0, .ref q0)] := hl
  obtain ⟨Q, hQ⟩ := nm_ex (MQ below (QI D C (oTM q0 qn0 qk0 qr0 qc0 qt0 qd0 qs0 qf0 qw0 rowCount anyKept (oPort C qn0 qn1 qn2 qn3 qn4 qn5 qn6 now (oPort C qk0 qk1 qk2 qk3 qk4 qk5 qk6 kept []))) (oTM q0 qn0 qk0 qr0 qc0 qt0 qd0 qs0 qf0 qw0 rowCount (anyKept') (oPort C qn0 qn1 qn2 qn3 qn4 qn5 qn6 now (oPort C qk0 qk1 qk2 qk3 qk4 qk5 qk6 (kept') []))) s.heap.size r) (List.toArray [Value.ref q0]) s 0 0 A)
  show W p l e (headSpec wsX5_keep (rmX5_keep)).room s m (List.toArray [Value.ref q0]) below meth c s.heap [] 0 0 (MQ below (QI D C (oTM q0 qn0 qk0 qr0 qc0 qt0 qd0 qs0 qf0 qw0 rowCount anyKept (oPort C qn0 qn1 qn2 qn3 qn4 qn5 qn6 now (oPort C qk0 qk1 qk2 qk3 qk4 qk5 qk6 kept []))) (oTM q0 qn0 qk0 qr0 qc0 qt0 qd0 qs0 qf0 qw0 rowCount (anyKept') (oPort C qn0 qn1 qn2 qn3 qn4 qn5 qn6 now (oPort C qk0 qk1 qk2 qk3 qk4 qk5 qk6 (kept') []))) s.heap.size r) (List.toArray [Value.ref q0]) s 0 0 A) _
  rw [← hQ]
  unfold f_X5_keep at hf
  have main : ∀ (H : Heap) (locs : List Loc), va_P D vwCl (oTM q0 qn0 qk0 qr0 qc0 qt0 qd0 qs0 qf0 qw0 rowCount anyKept (oPort C qn0 qn1 qn2 qn3 qn4 qn5 qn6 now (oPort C qk0 qk1 qk2 qk3 qk4 qk5 qk6 kept []))) H → va_D A (oTM q0 qn0 qk0 qr0 qc0 qt0 qd0 qs0 qf0 qw0 rowCount anyKept (oPort C qn0 qn1 qn2 qn3 qn4 qn5 qn6 now (oPort C qk0 qk1 qk2 qk3 qk4 qk5 qk6 kept []))) → va_S A s.heap H locs → W p l e (headSpec wsX5_keep (rmX5_keep)).room s m (List.toArray [Value.ref q0]) below meth c H locs 0 0 Q (F0 m 0 ls []) := by
    intro H locs hP hD hS
    refine lv_aload_n hx hb dX5_keep_0 rfl (lv_at hl 0 rfl) ?_
    refine va_get (D := D) (ci := 5) (v := .ref qk0) (C := RX5) (T := TX5) (N := 11) hx hb hts hi_RX5 hown hK hP 0 rfl rfl 1 (by decide) (hts (.fieldLink RX5 16 "TravelMarks" "kept" "LTravelMarks$Port;") (List.mem_of_getElem? (i := 1) rfl)) (fun _ h9 => h9) rfl dX5_keep_1 ?_
    refine lv_aload_n hx hb dX5_keep_4 rfl (lv_at hl 0 rfl) ?_
    refine va_get (D := D) (ci := 5) (v := .ref qn0) (C := RX5) (T := TX5) (N := 11) hx hb hts hi_RX5 hown hK hP 0 rfl rfl 0 (by decide) (hts (.fieldLink RX5 10 "TravelMarks" "now" "LTravelMarks$Port;") (List.mem_of_getElem? (i := 2) rfl)) (fun _ h9 => h9) rfl dX5_keep_5 ?_
    obtain ⟨v1, h2, hf⟩ := ob1_e hf
    refine kcv (Wx := (oTM q0 qn0 qk0 qr0 qc0 qt0 qd0 qs0 qf0 qw0 rowCount anyKept (oPort C qn0 qn1 qn2 qn3 qn4 qn5 qn6 now (oPort C qk0 qk1 qk2 qk3 qk4 qk5 qk6 v1 [])))) (va_runV (As := [.ref qn0]) (rest := []) ⟨hx, hb, hml, hown, hts⟩ (c_X1_become l E D C qk0 qk1 qk2 qk3 qk4 qk5 qk6 qn0 qn1 qn2 qn3 qn4 qn5 qn6 H.size kept now v1 h2) (cwV 1 hts gX5_keep_X1_become rfl rfl rfl hdX1_become ⟨Nat.le_of_ble_eq_true rfl, Nat.le_of_ble_eq_true rfl⟩) (kpreV hP hD hK hS hE hA [8, 9, 10, 11, 12, 13, 14, 1, 2, 3, 4, 5, 6, 7] rfl rfl 8 rfl rfl rfl) rfl rfl hl.1 rfl (lv_room (Nat.le_of_ble_eq_true rfl)) dX5_keep_8 ⟨Nat.zero_le _, Nat.zero_le _⟩) hP hD hS hA [8, 9, 10, 11, 12, 13, 14, 1, 2, 3, 4, 5, 6, 7] rfl rfl rfl (fun H locs hP hD hS => ?_)
    refine lv_aload_n hx hb dX5_keep_11 rfl (lv_at hl 0 rfl) ?_
    refine lv_iconst (v := 1) hx hb dX5_keep_12 rfl ?_
    refine va_put (D := D) (ci := 5) (v := .int 1) (ty := .boolean) (C := RX5) (T := TX5) (N := 11) hx hb hts hi_RX5 tyX5 tyX5_ok nmX5 hown hK hP hD hS 0 rfl rfl 10 (by decide) (hts (.fieldLink RX5 304 "TravelMarks" "anyKept" "Z") (List.mem_of_getElem? (i := 3) rfl)) (fun _ h9 => h9) rfl (tyX5_ok 10 (by decide)) zb_1.1 zb_1.2 (Nat.le_of_ble_eq_true rfl) dX5_keep_13 (fun H locs hP hD hS => ?_)
    have hP : va_P D vwCl (oTM q0 qn0 qk0 qr0 qc0 qt0 qd0 qs0 qf0 qw0 rowCount 1 (oPort C qn0 qn1 qn2 qn3 qn4 qn5 qn6 now (oPort C qk0 qk1 qk2 qk3 qk4 qk5 qk6 v1 []))) H := hP
    have hD : va_D A (oTM q0 qn0 qk0 qr0 qc0 qt0 qd0 qs0 qf0 qw0 rowCount 1 (oPort C qn0 qn1 qn2 qn3 qn4 qn5 qn6 now (oPort C qk0 qk1 qk2 qk3 qk4 qk5 qk6 v1 []))) := hD
    refine lv_iconst (v := 1) hx hb dX5_keep_16 rfl ?_
    cases hf
    exact kri hQ hAe hx hb hr hlocks hP hD hK hS dX5_keep_17
  exact main _ _ hP hD hS

def rmX5_again : Room := { frames := 2, cells := 0, slots := 0, locals := 81 }
theorem hdX5_again : yX5_again.cls = RX5 ∧ yX5_again.cls ≠ "java/lang/invoke/MethodHandle" ∧ yX5_again.cls ≠ "java/lang/invoke/VarHandle" ∧ (parseMethodDescriptor yX5_again.desc).map (fun d => d.parameters.length) = some 0 := by decide +kernel
set_option maxHeartbeats 40000000 in
set_option maxRecDepth 100000 in
theorem c_X5_again (l : Launch) (E : Nat → Nat) (D : va_G) (C : Nat → ClassId) (q0 qn0 qk0 qr0 qc0 qt0 qd0 qs0 qf0 qw0 qn1 qn2 qn3 qn4 qn5 qn6 qk1 qk2 qk3 qk4 qk5 qk6 : Nat) (sz : Nat) (rowCount : Int32) (anyKept : Int32) (now : PV) (kept : PV)  (r : Int32) (now' : PV) (hf : f_X5_again anyKept now kept = some (r, now')) : Met l yX5_again wsX5_again rmX5_again (PC E D C [.ref q0] (oTM q0 qn0 qk0 qr0 qc0 qt0 qd0 qs0 qf0 qw0 rowCount anyKept (oPort C qn0 qn1 qn2 qn3 qn4 qn5 qn6 now (oPort C qk0 qk1 qk2 qk3 qk4 qk5 qk6 kept []))) sz) (QI D C (oTM q0 qn0 qk0 qr0 qc0 qt0 qd0 qs0 qf0 qw0 rowCount anyKept (oPort C qn0 qn1 qn2 qn3 qn4 qn5 qn6 now (oPort C qk0 qk1 qk2 qk3 qk4 qk5 qk6 kept []))) (oTM q0 qn0 qk0 qr0 qc0 qt0 qd0 qs0 qf0 qw0 rowCount anyKept (oPort C qn0 qn1 qn2 qn3 qn4 qn5 qn6 (now') (oPort C qk0 qk1 qk2 qk3 qk4 qk5 qk6 kept []))) sz r) 0 0 (va_A (oTM q0 qn0 qk0 qr0 qc0 qt0 qd0 qs0 qf0 qw0 rowCount anyKept (oPort C qn0 qn1 qn2 qn3 qn4 qn5 qn6 now (oPort C qk0 qk1 qk2 qk3 qk4 qk5 qk6 kept []))) sz) := by
  refine Met.ofW (cc := cX5_again) (maxL := 1) (ret := (some .int)) (by decide) rfl ?_
  intro p e s m args below meth c s₁ B hml hv
  obtain ⟨rfl, hsz, hP, hK, hD0, hE⟩ := hv
  have hx := B.exec
  have hb := B.bytes
  have hr := B.returns
  have hts := atoms_spec (ws := wsX5_again) B.pre
  have hown : s.vm.findClass RX5 = some m.cls := findClass_of_methodNamed B.named
  have hlocks := B.notSynchronized
  subst hsz
  have hi_RX1 : ∀ w ∈ wsX10, w ∈ wsX5_again := fun _ h => List.mem_cons_of_mem _ (List.mem_append_right _ h)
  have hi_RX5 : ∀ w ∈ wsX50, w ∈ wsX5_again := fun _ h => List.mem_cons_of_mem _ (List.mem_append_left _ (List.mem_append_right _ h))
  have hD := hD0.self (sz := s.heap.size)
  obtain ⟨A, hAe⟩ := nm_ex (va_A (oTM q0 qn0 qk0 qr0 qc0 qt0 qd0 qs0 qf0 qw0 rowCount anyKept (oPort C qn0 qn1 qn2 qn3 qn4 qn5 qn6 now (oPort C qk0 qk1 qk2 qk3 qk4 qk5 qk6 kept []))) s.heap.size)
  rw [← hAe] at hD hE ⊢
  have hA : ∀ q : Nat, s.heap.size ≤ q → A q := fun q h => by rw [hAe]; exact Or.inr h
  have hS : va_S A s.heap s.heap [] := va_S.rf
  have hl := lv_entry ([.ref q0]) (n := 1) (Nat.le_of_ble_eq_true rfl)
  rw [lg_entry_eq]
  generalize (lg_sl ([.ref q0]) ++ List.replicate (1 - (lg_sl ([.ref q0])).length) Slot.unset).toArray = ls at hl ⊢
  have hl : lv_has ls 1 [(0, .ref q0)] := hl
  obtain ⟨Q, hQ⟩ := nm_ex (MQ below (QI D C (oTM q0 qn0 qk0 qr0 qc0 qt0 qd0 qs0 qf0 qw0 rowCount anyKept (oPort C qn0 qn1 qn2 qn3 qn4 qn5 qn6 now (oPort C qk0 qk1 qk2 qk3 qk4 qk5 qk6 kept []))) (oTM q0 qn0 qk0 qr0 qc0 qt0 qd0 qs0 qf0 qw0 rowCount anyKept (oPort C qn0 qn1 qn2 qn3 qn4 qn5 qn6 (now') (oPort C qk0 qk1 qk2 qk3 qk4 qk5 qk6 kept []))) s.heap.size r) (List.toArray [Value.ref q0]) s 0 0 A)
  show W p l e (headSpec wsX5_again (rmX5_again)).room s m (List.toArray [Value.ref q0]) below meth c s.heap [] 0 0 (MQ below (QI D C (oTM q0 qn0 qk0 qr0 qc0 qt0 qd0 qs0 qf0 qw0 rowCount anyKept (oPort C qn0 qn1 qn2 qn3 qn4 qn5 qn6 now (oPort C qk0 qk1 qk2 qk3 qk4 qk5 qk6 kept []))) (oTM q0 qn0 qk0 qr0 qc0 qt0 qd0 qs0 qf0 qw0 rowCount anyKept (oPort C qn0 qn1 qn2 qn3 qn4 qn5 qn6 (now') (oPort C qk0 qk1 qk2 qk3 qk4 qk5 qk6 kept []))) s.heap.size r) (List.toArray [Value.ref q0]) s 0 0 A) _
  rw [← hQ]
  unfold f_X5_again at hf
  have main : ∀ (H : Heap) (locs : List Loc), va_P D vwCl (oTM q0 qn0 qk0 qr0 qc0 qt0 qd0 qs0 qf0 qw0 rowCount anyKept (oPort C qn0 qn1 qn2 qn3 qn4 qn5 qn6 now (oPort C qk0 qk1 qk2 qk3 qk4 qk5 qk6 kept []))) H → va_D A (oTM q0 qn0 qk0 qr0 qc0 qt0 qd0 qs0 qf0 qw0 rowCount anyKept (oPort C qn0 qn1 qn2 qn3 qn4 qn5 qn6 now (oPort C qk0 qk1 qk2 qk3 qk4 qk5 qk6 kept []))) → va_S A s.heap H locs → W p l e (headSpec wsX5_again (rmX5_again)).room s m (List.toArray [Value.ref q0]) below meth c H locs 0 0 Q (F0 m 0 ls []) := by
    intro H locs hP hD hS
    refine lv_aload_n hx hb dX5_again_0 rfl (lv_at hl 0 rfl) ?_
    refine va_get (D := D) (ci := 5) (v := .int anyKept) (C := RX5) (T := TX5) (N := 11) hx hb hts hi_RX5 hown hK hP 0 rfl rfl 10 (by decide) (hts (.fieldLink RX5 304 "TravelMarks" "anyKept" "Z") (List.mem_of_getElem? (i := 1) rfl)) (fun _ h9 => h9) rfl dX5_again_1 ?_
    refine lv_if_ne (tgt := 10) hx hb dX5_again_4 (by decide) (fun c1 => ?_) (fun c1 => ?_)
    · replace hf := if_fe c1 hf
      refine lv_aload_n hx hb dX5_again_10 rfl (lv_at hl 0 rfl) ?_
      refine va_get (D := D) (ci := 5) (v := .ref qn0) (C := RX5) (T := TX5) (N := 11) hx hb hts hi_RX5 hown hK hP 0 rfl rfl 0 (by decide) (hts (.fieldLink RX5 10 "TravelMarks" "now" "LTravelMarks$Port;") (List.mem_of_getElem? (i := 2) rfl)) (fun _ h9 => h9) rfl dX5_again_11 ?_
      refine lv_aload_n hx hb dX5_again_14 rfl (lv_at hl 0 rfl) ?_
      refine va_get (D := D) (ci := 5) (v := .ref qk0) (C := RX5) (T := TX5) (N := 11) hx hb hts hi_RX5 hown hK hP 0 rfl rfl 1 (by decide) (hts (.fieldLink RX5 16 "TravelMarks" "kept" "LTravelMarks$Port;") (List.mem_of_getElem? (i := 3) rfl)) (fun _ h9 => h9) rfl dX5_again_15 ?_
      obtain ⟨v2, h3, hf⟩ := ob1_e hf
      refine kcv (Wx := (oTM q0 qn0 qk0 qr0 qc0 qt0 qd0 qs0 qf0 qw0 rowCount anyKept (oPort C qn0 qn1 qn2 qn3 qn4 qn5 qn6 v2 (oPort C qk0 qk1 qk2 qk3 qk4 qk5 qk6 kept [])))) (va_runV (As := [.ref qk0]) (rest := []) ⟨hx, hb, hml, hown, hts⟩ (c_X1_become l E D C qn0 qn1 qn2 qn3 qn4 qn5 qn6 qk0 qk1 qk2 qk3 qk4 qk5 qk6 H.size now kept v2 h3) (cwV 1 hts gX5_again_X1_become rfl rfl rfl hdX1_become ⟨Nat.le_of_ble_eq_true rfl, Nat.le_of_ble_eq_true rfl⟩) (kpreV hP hD hK hS hE hA [1, 2, 3, 4, 5, 6, 7, 8, 9, 10, 11, 12, 13, 14] rfl rfl 1 rfl rfl rfl) rfl rfl hl.1 rfl (lv_room (Nat.le_of_ble_eq_true rfl)) dX5_again_18 ⟨Nat.zero_le _, Nat.zero_le _⟩) hP hD hS hA [1, 2, 3, 4, 5, 6, 7, 8, 9, 10, 11, 12, 13, 14] rfl rfl rfl (fun H locs hP hD hS => ?_)
      refine lv_aload_n hx hb dX5_again_21 rfl (lv_at hl 0 rfl) ?_
      refine va_get (D := D) (ci := 5) (v := .ref qn0) (C := RX5) (T := TX5) (N := 11) hx hb hts hi_RX5 hown hK hP 0 rfl rfl 0 (by decide) (hts (.fieldLink RX5 10 "TravelMarks" "now" "LTravelMarks$Port;") (List.mem_of_getElem? (i := 2) rfl)) (fun _ h9 => h9) rfl dX5_again_22 ?_
      refine va_get (D := D) (ci := 1) (v := .int (pCount v2)) (C := RX1) (T := TX1) (N := 10) hx hb hts hi_RX1 hown hK hP 1 rfl rfl 6 (by decide) (hts (.fieldLink RX5 86 "TravelMarks$Port" "count" "I") (List.mem_of_getElem? (i := 4) rfl)) (fun _ h9 => h9) rfl dX5_again_25 ?_
      obtain ⟨t4, et4, hf⟩ := lj_e hf
      refine lv_ren et4 ?_
      cases hf
      exact kri hQ hAe hx hb hr hlocks hP hD hK hS dX5_again_28
    · replace hf := if_te c1 hf
      refine lv_bipush (v := (-3)) hx hb dX5_again_7 rfl ?_
      cases hf
      exact kri hQ hAe hx hb hr hlocks hP hD hK hS dX5_again_9
  exact main _ _ hP hD hS

