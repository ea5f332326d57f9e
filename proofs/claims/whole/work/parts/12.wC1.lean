def rmX5_feed : Room := { frames := 1, cells := 0, slots := 0, locals := 24 }
theorem hdX5_feed : yX5_feed.cls = RX5 ∧ yX5_feed.cls ≠ "java/lang/invoke/MethodHandle" ∧ yX5_feed.cls ≠ "java/lang/invoke/VarHandle" ∧ (parseMethodDescriptor yX5_feed.desc).map (fun d => d.parameters.length) = some 2 := by decide +kernel
set_option maxHeartbeats 40000000 in
set_option maxRecDepth 100000 in
theorem c_X5_feed (l : Launch) (E : Nat → Nat) (D : va_G) (C : Nat → ClassId) (q0 qn0 qk0 qr0 qc0 qt0 qd0 qs0 qf0 qw0 qt1 : Nat) (sz : Nat) (N : Nat) (rowCount : Int32) (anyKept : Int32) (tape : TV) (x0 : Int64) (x1 : Int32) (r : Int32) (tape' : TV) (hf : f_X5_feed N tape x0 x1 = some (r, tape')) : Met l yX5_feed wsX5_feed rmX5_feed (PC E D C [.ref q0, .long x0, .int x1] (oTM q0 qn0 qk0 qr0 qc0 qt0 qd0 qs0 qf0 qw0 rowCount anyKept (oTape C qt0 qt1 tape [])) sz) (QI D C (oTM q0 qn0 qk0 qr0 qc0 qt0 qd0 qs0 qf0 qw0 rowCount anyKept (oTape C qt0 qt1 tape [])) (oTM q0 qn0 qk0 qr0 qc0 qt0 qd0 qs0 qf0 qw0 rowCount anyKept (oTape C qt0 qt1 (tape') [])) sz r) 0 0 (va_A (oTM q0 qn0 qk0 qr0 qc0 qt0 qd0 qs0 qf0 qw0 rowCount anyKept (oTape C qt0 qt1 tape [])) sz) := by
  refine Met.ofW (cc := cX5_feed) (maxL := 4) (ret := (some .int)) (by decide) rfl ?_
  intro p e s m args below meth c s₁ B hml hv
  obtain ⟨rfl, hsz, hP, hK, hD0, hE⟩ := hv
  have hx := B.exec
  have hb := B.bytes
  have hr := B.returns
  have hts := atoms_spec (ws := wsX5_feed) B.pre
  have hown : s.vm.findClass RX5 = some m.cls := findClass_of_methodNamed B.named
  have hlocks := B.notSynchronized
  subst hsz
  have hi_RX5 : ∀ w ∈ wsX50, w ∈ wsX5_feed := fun _ h => List.mem_cons_of_mem _ (List.mem_append_left _ (List.mem_append_right _ h))
  have hD := hD0.self (sz := s.heap.size)
  obtain ⟨A, hAe⟩ := nm_ex (va_A (oTM q0 qn0 qk0 qr0 qc0 qt0 qd0 qs0 qf0 qw0 rowCount anyKept (oTape C qt0 qt1 tape [])) s.heap.size)
  rw [← hAe] at hD hE ⊢
  have hA : ∀ q : Nat, s.heap.size ≤ q → A q := fun q h => by rw [hAe]; exact Or.inr h
  have hS : va_S A s.heap s.heap [] := va_S.rf
  have hl := lv_entry ([.ref q0, .long x0, .int x1]) (n := 4) (Nat.le_of_ble_eq_true rfl)
  rw [lg_entry_eq]
  generalize (lg_sl ([.ref q0, .long x0, .int x1]) ++ List.replicate (4 - (lg_sl ([.ref q0, .long x0, .int x1])).length) Slot.unset).toArray = ls at hl ⊢
  have hl : lv_has ls 4 [(0, .ref q0), (1, .long x0), (3, .int x1)] := hl
  obtain ⟨Q, hQ⟩ := nm_ex (MQ below (QI D C (oTM q0 qn0 qk0 qr0 qc0 qt0 qd0 qs0 qf0 qw0 rowCount anyKept (oTape C qt0 qt1 tape [])) (oTM q0 qn0 qk0 qr0 qc0 qt0 qd0 qs0 qf0 qw0 rowCount anyKept (oTape C qt0 qt1 (tape') [])) s.heap.size r) (List.toArray [Value.ref q0, Value.long x0, Value.int x1]) s 0 0 A)
  show W p l e (headSpec wsX5_feed (rmX5_feed)).room s m (List.toArray [Value.ref q0, Value.long x0, Value.int x1]) below meth c s.heap [] 0 0 (MQ below (QI D C (oTM q0 qn0 qk0 qr0 qc0 qt0 qd0 qs0 qf0 qw0 rowCount anyKept (oTape C qt0 qt1 tape [])) (oTM q0 qn0 qk0 qr0 qc0 qt0 qd0 qs0 qf0 qw0 rowCount anyKept (oTape C qt0 qt1 (tape') [])) s.heap.size r) (List.toArray [Value.ref q0, Value.long x0, Value.int x1]) s 0 0 A) _
  rw [← hQ]
  unfold f_X5_feed at hf
  have main : ∀ (H : Heap) (locs : List Loc), va_P D vwCl (oTM q0 qn0 qk0 qr0 qc0 qt0 qd0 qs0 qf0 qw0 rowCount anyKept (oTape C qt0 qt1 tape [])) H → va_D A (oTM q0 qn0 qk0 qr0 qc0 qt0 qd0 qs0 qf0 qw0 rowCount anyKept (oTape C qt0 qt1 tape [])) → va_S A s.heap H locs → W p l e (headSpec wsX5_feed (rmX5_feed)).room s m (List.toArray [Value.ref q0, Value.long x0, Value.int x1]) below meth c H locs 0 0 Q (F0 m 0 ls []) := by
    intro H locs hP hD hS
    refine lv_iload_n hx hb dX5_feed_0 rfl (lv_at hl 2 rfl) ?_
    refine lv_iconst (v := 1) hx hb dX5_feed_1 rfl ?_
    refine lv_bipush (v := 8) hx hb dX5_feed_2 rfl ?_
    refine kcz (Wx := (oTM q0 qn0 qk0 qr0 qc0 qt0 qd0 qs0 qf0 qw0 rowCount anyKept (oTape C qt0 qt1 tape []))) (va_runS (As := [.int x1, .int 1, .int 8]) (rest := []) ⟨hx, hb, hml, hown, hts⟩ (c_X5_within l E D C H.size x1 1 8 _ rfl) (va_cwS 3 hts gX5_feed_X5_within rfl rfl rfl hdX5_within ⟨Nat.le_of_ble_eq_true rfl, Nat.le_of_ble_eq_true rfl⟩) (kpre hP hD hK hS hE hA [] rfl rfl) rfl rfl hl.1 rfl (lv_room (Nat.le_of_ble_eq_true rfl)) dX5_feed_4 ⟨Nat.zero_le _, Nat.zero_le _⟩) hP hD hS hA [] rfl rfl rfl (fun H locs hz1 hP hD hS => ?_)
    refine lv_if_eq (tgt := 22) hx hb dX5_feed_7 (by decide) (fun c2 => ?_) (fun c2 => ?_)
    · replace hf := if_te c2 hf
      refine lv_iconst (v := (-1)) hx hb dX5_feed_22 rfl ?_
      cases hf
      exact kri hQ hAe hx hb hr hlocks hP hD hK hS dX5_feed_23
    · replace hf := if_fe c2 hf
      refine lv_aload_n hx hb dX5_feed_10 rfl (lv_at hl 0 rfl) ?_
      refine va_get (D := D) (ci := 5) (v := .ref qt0) (C := RX5) (T := TX5) (N := 11) hx hb hts hi_RX5 hown hK hP 0 rfl rfl 4 (by decide) (hts (.fieldLink RX5 28 "TravelMarks" "tape" "LTravelMarks$Tape;") (List.mem_of_getElem? (i := 1) rfl)) (fun _ h9 => h9) rfl dX5_feed_11 ?_
      refine lv_lload_n hx hb dX5_feed_14 rfl (lv_at hl 1 rfl) ?_
      refine lv_iload_n hx hb dX5_feed_15 rfl (lv_at hl 2 rfl) ?_
      obtain ⟨r3, v4, h5, hf⟩ := ob2_e hf
      refine kci (Wx := (oTM q0 qn0 qk0 qr0 qc0 qt0 qd0 qs0 qf0 qw0 rowCount anyKept (oTape C qt0 qt1 v4 []))) (va_runV (As := [.long x0, .int x1]) (rest := []) ⟨hx, hb, hml, hown, hts⟩ (c_X4_take l E D C qt0 qt1 H.size N tape x0 x1 r3 v4 h5) (cwV 2 hts gX5_feed_X4_take rfl rfl rfl hdX4_take ⟨Nat.le_of_ble_eq_true rfl, Nat.le_of_ble_eq_true rfl⟩) (kpreV hP hD hK hS hE hA [1, 2] rfl rfl 1 rfl rfl rfl) rfl rfl hl.1 rfl (lv_room (Nat.le_of_ble_eq_true rfl)) dX5_feed_16 ⟨Nat.zero_le _, Nat.zero_le _⟩) hP hD hS hA [1, 2] rfl rfl rfl (fun H locs hP hD hS => ?_)
      refine lv_goto (tgt := 23) hx hb dX5_feed_19 (by decide) ?_
      cases hf
      exact kri hQ hAe hx hb hr hlocks hP hD hK hS dX5_feed_23
  exact main _ _ hP hD hS

def rmX5_set : Room := { frames := 1, cells := 0, slots := 0, locals := 22 }
theorem hdX5_set : yX5_set.cls = RX5 ∧ yX5_set.cls ≠ "java/lang/invoke/MethodHandle" ∧ yX5_set.cls ≠ "java/lang/invoke/VarHandle" ∧ (parseMethodDescriptor yX5_set.desc).map (fun d => d.parameters.length) = some 2 := by decide +kernel
set_option maxHeartbeats 40000000 in
set_option maxRecDepth 100000 in
theorem c_X5_set (l : Launch) (E : Nat → Nat) (D : va_G) (C : Nat → ClassId) (q0 qn0 qk0 qr0 qc0 qt0 qd0 qs0 qf0 qw0 qn1 qn2 qn3 qn4 qn5 qn6 : Nat) (sz : Nat) (rowCount : Int32) (anyKept : Int32) (now : PV) (x0 : Int32) (x1 : Int32) (r : Int32) (now' : PV) (hf : f_X5_set now x0 x1 = some (r, now')) : Met l yX5_set wsX5_set rmX5_set (PC E D C [.ref q0, .int x0, .int x1] (oTM q0 qn0 qk0 qr0 qc0 qt0 qd0 qs0 qf0 qw0 rowCount anyKept (oPort C qn0 qn1 qn2 qn3 qn4 qn5 qn6 now [])) sz) (QI D C (oTM q0 qn0 qk0 qr0 qc0 qt0 qd0 qs0 qf0 qw0 rowCount anyKept (oPort C qn0 qn1 qn2 qn3 qn4 qn5 qn6 now [])) (oTM q0 qn0 qk0 qr0 qc0 qt0 qd0 qs0 qf0 qw0 rowCount anyKept (oPort C qn0 qn1 qn2 qn3 qn4 qn5 qn6 (now') [])) sz r) 0 0 (va_A (oTM q0 qn0 qk0 qr0 qc0 qt0 qd0 qs0 qf0 qw0 rowCount anyKept (oPort C qn0 qn1 qn2 qn3 qn4 qn5 qn6 now [])) sz) := by
  refine Met.ofW (cc := cX5_set) (maxL := 4) (ret := (some .int)) (by decide) rfl ?_
  intro p e s m args below meth c s₁ B hml hv
  obtain ⟨rfl, hsz, hP, hK, hD0, hE⟩ := hv
  have hx := B.exec
  have hb := B.bytes
  have hr := B.returns
  have hts := atoms_spec (ws := wsX5_set) B.pre
  have hown : s.vm.findClass RX5 = some m.cls := findClass_of_methodNamed B.named
  have hlocks := B.notSynchronized
  subst hsz
  have hi_RX1 : ∀ w ∈ wsX10, w ∈ wsX5_set := fun _ h => List.mem_cons_of_mem _ (List.mem_append_right _ h)
  have hi_RX5 : ∀ w ∈ wsX50, w ∈ wsX5_set := fun _ h => List.mem_cons_of_mem _ (List.mem_append_left _ (List.mem_append_right _ h))
  have hD := hD0.self (sz := s.heap.size)
  obtain ⟨A, hAe⟩ := nm_ex (va_A (oTM q0 qn0 qk0 qr0 qc0 qt0 qd0 qs0 qf0 qw0 rowCount anyKept (oPort C qn0 qn1 qn2 qn3 qn4 qn5 qn6 now [])) s.heap.size)
  rw [← hAe] at hD hE ⊢
  have hA : ∀ q : Nat, s.heap.size ≤ q → A q := fun q h => by rw [hAe]; exact Or.inr h
  have hS : va_S A s.heap s.heap [] := va_S.rf
  have hl := lv_entry ([.ref q0, .int x0, .int x1]) (n := 4) (Nat.le_of_ble_eq_true rfl)
  rw [lg_entry_eq]
  generalize (lg_sl ([.ref q0, .int x0, .int x1]) ++ List.replicate (4 - (lg_sl ([.ref q0, .int x0, .int x1])).length) Slot.unset).toArray = ls at hl ⊢
  have hl : lv_has ls 4 [(0, .ref q0), (1, .int x0), (2, .int x1)] := hl
  obtain ⟨Q, hQ⟩ := nm_ex (MQ below (QI D C (oTM q0 qn0 qk0 qr0 qc0 qt0 qd0 qs0 qf0 qw0 rowCount anyKept (oPort C qn0 qn1 qn2 qn3 qn4 qn5 qn6 now [])) (oTM q0 qn0 qk0 qr0 qc0 qt0 qd0 qs0 qf0 qw0 rowCount anyKept (oPort C qn0 qn1 qn2 qn3 qn4 qn5 qn6 (now') [])) s.heap.size r) (List.toArray [Value.ref q0, Value.int x0, Value.int x1]) s 0 0 A)
  show W p l e (headSpec wsX5_set (rmX5_set)).room s m (List.toArray [Value.ref q0, Value.int x0, Value.int x1]) below meth c s.heap [] 0 0 (MQ below (QI D C (oTM q0 qn0 qk0 qr0 qc0 qt0 qd0 qs0 qf0 qw0 rowCount anyKept (oPort C qn0 qn1 qn2 qn3 qn4 qn5 qn6 now [])) (oTM q0 qn0 qk0 qr0 qc0 qt0 qd0 qs0 qf0 qw0 rowCount anyKept (oPort C qn0 qn1 qn2 qn3 qn4 qn5 qn6 (now') [])) s.heap.size r) (List.toArray [Value.ref q0, Value.int x0, Value.int x1]) s 0 0 A) _
  rw [← hQ]
  unfold f_X5_set at hf
  have main : ∀ (H : Heap) (locs : List Loc), va_P D vwCl (oTM q0 qn0 qk0 qr0 qc0 qt0 qd0 qs0 qf0 qw0 rowCount anyKept (oPort C qn0 qn1 qn2 qn3 qn4 qn5 qn6 now [])) H → va_D A (oTM q0 qn0 qk0 qr0 qc0 qt0 qd0 qs0 qf0 qw0 rowCount anyKept (oPort C qn0 qn1 qn2 qn3 qn4 qn5 qn6 now [])) → va_S A s.heap H locs → W p l e (headSpec wsX5_set (rmX5_set)).room s m (List.toArray [Value.ref q0, Value.int x0, Value.int x1]) below meth c H locs 0 0 Q (F0 m 0 ls []) := by
    intro H locs hP hD hS
    refine lv_iload_n hx hb dX5_set_0 rfl (lv_at hl 1 rfl) ?_
    refine lv_iconst (v := 0) hx hb dX5_set_1 rfl ?_
    refine lv_iconst (v := 3) hx hb dX5_set_2 rfl ?_
    refine kcz (Wx := (oTM q0 qn0 qk0 qr0 qc0 qt0 qd0 qs0 qf0 qw0 rowCount anyKept (oPort C qn0 qn1 qn2 qn3 qn4 qn5 qn6 now []))) (va_runS (As := [.int x0, .int 0, .int 3]) (rest := []) ⟨hx, hb, hml, hown, hts⟩ (c_X5_within l E D C H.size x0 0 3 _ rfl) (va_cwS 3 hts gX5_set_X5_within rfl rfl rfl hdX5_within ⟨Nat.le_of_ble_eq_true rfl, Nat.le_of_ble_eq_true rfl⟩) (kpre hP hD hK hS hE hA [] rfl rfl) rfl rfl hl.1 rfl (lv_room (Nat.le_of_ble_eq_true rfl)) dX5_set_3 ⟨Nat.zero_le _, Nat.zero_le _⟩) hP hD hS hA [] rfl rfl rfl (fun H locs hz1 hP hD hS => ?_)
    refine lv_if_eq (tgt := 26) hx hb dX5_set_6 (by decide) (fun c2 => ?_) (fun c2 => ?_)
    · replace hf := if_te c2 hf
      refine lv_iconst (v := (-1)) hx hb dX5_set_26 rfl ?_
      cases hf
      exact kri hQ hAe hx hb hr hlocks hP hD hK hS dX5_set_27
    · replace hf := if_fe c2 hf
      refine lv_iload_n hx hb dX5_set_9 rfl (lv_at hl 2 rfl) ?_
      refine va_gets hx hb (tZ0 hE) hS hown (hts (.fieldLink RX5 89 "TravelMarks" "LAW_LEAST" "[I") (List.mem_of_getElem? (i := 1) rfl)) (fun _ h9 => h9) dX5_set_10 ?_
      refine lv_iload_n hx hb dX5_set_13 rfl (lv_at hl 1 rfl) ?_
      obtain ⟨y4, ey4, hi3, hf⟩ := rdA_x hf
      refine va_ti hx hb (tT0 hE) hS hi3 (v := .int (tbLeast (x0).toNatClampNeg)) rfl dX5_set_14 ?_
      refine lv_ren ey4 ?_
      refine va_gets hx hb (tZ1 hE) hS hown (hts (.fieldLink RX5 92 "TravelMarks" "LAW_MOST" "[I") (List.mem_of_getElem? (i := 2) rfl)) (fun _ h9 => h9) dX5_set_15 ?_
      refine lv_iload_n hx hb dX5_set_18 rfl (lv_at hl 1 rfl) ?_
      obtain ⟨y6, ey6, hi5, hf⟩ := rdA_x hf
      refine va_ti hx hb (tT1 hE) hS hi5 (v := .int (tbMost (x0).toNatClampNeg)) rfl dX5_set_19 ?_
      refine lv_ren ey6 ?_
      refine kcz (Wx := (oTM q0 qn0 qk0 qr0 qc0 qt0 qd0 qs0 qf0 qw0 rowCount anyKept (oPort C qn0 qn1 qn2 qn3 qn4 qn5 qn6 now []))) (va_runS (As := [.int x1, .int y4, .int y6]) (rest := []) ⟨hx, hb, hml, hown, hts⟩ (c_X5_within l E D C H.size x1 y4 y6 _ rfl) (va_cwS 3 hts gX5_set_X5_within rfl rfl rfl hdX5_within ⟨Nat.le_of_ble_eq_true rfl, Nat.le_of_ble_eq_true rfl⟩) (kpre hP hD hK hS hE hA [] rfl rfl) rfl rfl hl.1 rfl (lv_room (Nat.le_of_ble_eq_true rfl)) dX5_set_20 ⟨Nat.zero_le _, Nat.zero_le _⟩) hP hD hS hA [] rfl rfl rfl (fun H locs hz7 hP hD hS => ?_)
      refine lv_if_ne (tgt := 28) hx hb dX5_set_23 (by decide) (fun c8 => ?_) (fun c8 => ?_)
      · replace hf := if_fe c8 hf
        refine lv_aload_n hx hb dX5_set_28 rfl (lv_at hl 0 rfl) ?_
        refine va_get (D := D) (ci := 5) (v := .ref qn0) (C := RX5) (T := TX5) (N := 11) hx hb hts hi_RX5 hown hK hP 0 rfl rfl 0 (by decide) (hts (.fieldLink RX5 10 "TravelMarks" "now" "LTravelMarks$Port;") (List.mem_of_getElem? (i := 3) rfl)) (fun _ h9 => h9) rfl dX5_set_29 ?_
        refine va_get (D := D) (ci := 1) (v := .ref qn1) (C := RX1) (T := TX1) (N := 10) hx hb hts hi_RX1 hown hK hP 1 rfl rfl 0 (by decide) (hts (.fieldLink RX5 95 "TravelMarks$Port" "laws" "[I") (List.mem_of_getElem? (i := 4) rfl)) (fun _ h9 => h9) rfl dX5_set_32 ?_
        refine lv_iload_n hx hb dX5_set_35 rfl (lv_at hl 1 rfl) ?_
        obtain ⟨y10, ey10, hi9, hf⟩ := rdA_x hf
        refine va_iald hx hb hK hP 2 0 rfl rfl hi9 dX5_set_36 ?_
        refine lv_ren ey10 ?_
        refine lv_istore_n (lv' := [(3, .int y10), (0, .ref q0), (1, .int x0), (2, .int x1)]) hx hb dX5_set_37 rfl hl (by decide) rfl (fun ls hl => ?_)
        refine lv_aload_n hx hb dX5_set_38 rfl (lv_at hl 1 rfl) ?_
        refine va_get (D := D) (ci := 5) (v := .ref qn0) (C := RX5) (T := TX5) (N := 11) hx hb hts hi_RX5 hown hK hP 0 rfl rfl 0 (by decide) (hts (.fieldLink RX5 10 "TravelMarks" "now" "LTravelMarks$Port;") (List.mem_of_getElem? (i := 3) rfl)) (fun _ h9 => h9) rfl dX5_set_39 ?_
        refine va_get (D := D) (ci := 1) (v := .ref qn1) (C := RX1) (T := TX1) (N := 10) hx hb hts hi_RX1 hown hK hP 1 rfl rfl 0 (by decide) (hts (.fieldLink RX5 95 "TravelMarks$Port" "laws" "[I") (List.mem_of_getElem? (i := 4) rfl)) (fun _ h9 => h9) rfl dX5_set_42 ?_
        refine lv_iload_n hx hb dX5_set_45 rfl (lv_at hl 2 rfl) ?_
        refine lv_iload_n hx hb dX5_set_46 rfl (lv_at hl 3 rfl) ?_
        obtain ⟨hi11, hf⟩ := ckA_e hf
        refine va_iast hx hb hK hP hD hS 2 0 rfl rfl hi11 dX5_set_47 (fun H locs hP hD hS => ?_)
        obtain ⟨v12, ev12, hf⟩ := lj_e hf
        have hP : va_P D vwCl (oTM q0 qn0 qk0 qr0 qc0 qt0 qd0 qs0 qf0 qw0 rowCount anyKept (oPort C qn0 qn1 qn2 qn3 qn4 qn5 qn6 v12 [])) H := by rw [ev12]; exact hP
        have hD : va_D A (oTM q0 qn0 qk0 qr0 qc0 qt0 qd0 qs0 qf0 qw0 rowCount anyKept (oPort C qn0 qn1 qn2 qn3 qn4 qn5 qn6 v12 [])) := by rw [ev12]; exact hD
        refine lv_iload_n hx hb dX5_set_48 rfl (lv_at hl 0 rfl) ?_
        cases hf
        exact kri hQ hAe hx hb hr hlocks hP hD hK hS dX5_set_49
      · replace hf := if_te c8 hf
        refine lv_iconst (v := (-1)) hx hb dX5_set_26 rfl ?_
        cases hf
        exact kri hQ hAe hx hb hr hlocks hP hD hK hS dX5_set_27
  exact main _ _ hP hD hS

def rmX5_lawOf : Room := { frames := 1, cells := 0, slots := 0, locals := 22 }
theorem hdX5_lawOf : yX5_lawOf.cls = RX5 ∧ yX5_lawOf.cls ≠ "java/lang/invoke/MethodHandle" ∧ yX5_lawOf.cls ≠ "java/lang/invoke/VarHandle" ∧ (parseMethodDescriptor yX5_lawOf.desc).map (fun d => d.parameters.length) = some 1 := by decide +kernel
set_option maxHeartbeats 40000000 in
set_option maxRecDepth 100000 in
theorem c_X5_lawOf (l : Launch) (E : Nat → Nat) (D : va_G) (C : Nat → ClassId) (q0 qn0 qk0 qr0 qc0 qt0 qd0 qs0 qf0 qw0 qn1 qn2 qn3 qn4 qn5 qn6 : Nat) (sz : Nat) (rowCount : Int32) (anyKept : Int32) (now : PV) (x0 : Int32) (r : Int32) (hf : f_X5_lawOf now x0 = some r) : Met l yX5_lawOf wsX5_lawOf rmX5_lawOf (PC E D C [.ref q0, .int x0] (oTM q0 qn0 qk0 qr0 qc0 qt0 qd0 qs0 qf0 qw0 rowCount anyKept (oPort C qn0 qn1 qn2 qn3 qn4 qn5 qn6 now [])) sz) (QI D C (oTM q0 qn0 qk0 qr0 qc0 qt0 qd0 qs0 qf0 qw0 rowCount anyKept (oPort C qn0 qn1 qn2 qn3 qn4 qn5 qn6 now [])) (oTM q0 qn0 qk0 qr0 qc0 qt0 qd0 qs0 qf0 qw0 rowCount anyKept (oPort C qn0 qn1 qn2 qn3 qn4 qn5 qn6 now [])) sz r) 0 0 (va_A (oTM q0 qn0 qk0 qr0 qc0 qt0 qd0 qs0 qf0 qw0 rowCount anyKept (oPort C qn0 qn1 qn2 qn3 qn4 qn5 qn6 now [])) sz) := by
  refine Met.ofW (cc := cX5_lawOf) (maxL := 2) (ret := (some .int)) (by decide) rfl ?_
  intro p e s m args below meth c s₁ B hml hv
  obtain ⟨rfl, hsz, hP, hK, hD0, hE⟩ := hv
  have hx := B.exec
  have hb := B.bytes
  have hr := B.returns
  have hts := atoms_spec (ws := wsX5_lawOf) B.pre
  have hown : s.vm.findClass RX5 = some m.cls := findClass_of_methodNamed B.named
  have hlocks := B.notSynchronized
  subst hsz
  have hi_RX1 : ∀ w ∈ wsX10, w ∈ wsX5_lawOf := fun _ h => List.mem_cons_of_mem _ (List.mem_append_right _ h)
  have hi_RX5 : ∀ w ∈ wsX50, w ∈ wsX5_lawOf := fun _ h => List.mem_cons_of_mem _ (List.mem_append_left _ (List.mem_append_right _ h))
  have hD := hD0.self (sz := s.heap.size)
  obtain ⟨A, hAe⟩ := nm_ex (va_A (oTM q0 qn0 qk0 qr0 qc0 qt0 qd0 qs0 qf0 qw0 rowCount anyKept (oPort C qn0 qn1 qn2 qn3 qn4 qn5 qn6 now [])) s.heap.size)
  rw [← hAe] at hD hE ⊢
  have hA : ∀ q : Nat, s.heap.size ≤ q → A q := fun q h => by rw [hAe]; exact Or.inr h
  have hS : va_S A s.heap s.heap [] := va_S.rf
  have hl := lv_entry ([.ref q0, .int x0]) (n := 2) (Nat.le_of_ble_eq_true rfl)
  rw [lg_entry_eq]
  generalize (lg_sl ([.ref q0, .int x0]) ++ List.replicate (2 - (lg_sl ([.ref q0, .int x0])).length) Slot.unset).toArray = ls at hl ⊢
  have hl : lv_has ls 2 [(0, .ref q0), (1, .int x0)] := hl
  obtain ⟨Q, hQ⟩ := nm_ex (MQ below (QI D C (oTM q0 qn0 qk0 qr0 qc0 qt0 qd0 qs0 qf0 qw0 rowCount anyKept (oPort C qn0 qn1 qn2 qn3 qn4 qn5 qn6 now [])) (oTM q0 qn0 qk0 qr0 qc0 qt0 qd0 qs0 qf0 qw0 rowCount anyKept (oPort C qn0 qn1 qn2 qn3 qn4 qn5 qn6 now [])) s.heap.size r) (List.toArray [Value.ref q0, Value.int x0]) s 0 0 A)
  show W p l e (headSpec wsX5_lawOf (rmX5_lawOf)).room s m (List.toArray [Value.ref q0, Value.int x0]) below meth c s.heap [] 0 0 (MQ below (QI D C (oTM q0 qn0 qk0 qr0 qc0 qt0 qd0 qs0 qf0 qw0 rowCount anyKept (oPort C qn0 qn1 qn2 qn3 qn4 qn5 qn6 now [])) (oTM q0 qn0 qk0 qr0 qc0 qt0 qd0 qs0 qf0 qw0 rowCount anyKept (oPort C qn0 qn1 qn2 qn3 qn4 qn5 qn6 now [])) s.heap.size r) (List.toArray [Value.ref q0, Value.int x0]) s 0 0 A) _
  rw [← hQ]
  unfold f_X5_lawOf at hf
  have main : ∀ (H : Heap) (locs : List Loc), va_P D vwCl (oTM q0 qn0 qk0 qr0 qc0 qt0 qd0 qs0 qf0 qw0 rowCount anyKept (oPort C qn0 qn1 qn2 qn3 qn4 qn5 qn6 now [])) H → va_D A (oTM q0 qn0 qk0 qr0 qc0 qt0 qd0 qs0 qf0 qw0 rowCount anyKept (oPort C qn0 qn1 qn2 qn3 qn4 qn5 qn6 now [])) → va_S A s.heap H locs → W p l e (headSpec wsX5_lawOf (rmX5_lawOf)).room s m (List.toArray [Value.ref q0, Value.int x0]) below meth c H locs 0 0 Q (F0 m 0 ls []) := by
    intro H locs hP hD hS
    refine lv_iload_n hx hb dX5_lawOf_0 rfl (lv_at hl 1 rfl) ?_
    refine lv_iconst (v := 0) hx hb dX5_lawOf_1 rfl ?_
    refine lv_iconst (v := 3) hx hb dX5_lawOf_2 rfl ?_
    refine kcz (Wx := (oTM q0 qn0 qk0 qr0 qc0 qt0 qd0 qs0 qf0 qw0 rowCount anyKept (oPort C qn0 qn1 qn2 qn3 qn4 qn5 qn6 now []))) (va_runS (As := [.int x0, .int 0, .int 3]) (rest := []) ⟨hx, hb, hml, hown, hts⟩ (c_X5_within l E D C H.size x0 0 3 _ rfl) (va_cwS 3 hts gX5_lawOf_X5_within rfl rfl rfl hdX5_within ⟨Nat.le_of_ble_eq_true rfl, Nat.le_of_ble_eq_true rfl⟩) (kpre hP hD hK hS hE hA [] rfl rfl) rfl rfl hl.1 rfl (lv_room (Nat.le_of_ble_eq_true rfl)) dX5_lawOf_3 ⟨Nat.zero_le _, Nat.zero_le _⟩) hP hD hS hA [] rfl rfl rfl (fun H locs hz1 hP hD hS => ?_)
    refine lv_if_eq (tgt := 21) hx hb dX5_lawOf_6 (by decide) (fun c2 => ?_) (fun c2 => ?_)
    · replace hf := if_te c2 hf
      refine lv_iconst (v := (-1)) hx hb dX5_lawOf_21 rfl ?_
      cases hf
      exact kri hQ hAe hx hb hr hlocks hP hD hK hS dX5_lawOf_22
    · replace hf := if_fe c2 hf
      refine lv_aload_n hx hb dX5_lawOf_9 rfl (lv_at hl 0 rfl) ?_
      refine va_get (D := D) (ci := 5) (v := .ref qn0) (C := RX5) (T := TX5) (N := 11) hx hb hts hi_RX5 hown hK hP 0 rfl rfl 0 (by decide) (hts (.fieldLink RX5 10 "TravelMarks" "now" "LTravelMarks$Port;") (List.mem_of_getElem? (i := 1) rfl)) (fun _ h9 => h9) rfl dX5_lawOf_10 ?_
      refine va_get (D := D) (ci := 1) (v := .ref qn1) (C := RX1) (T := TX1) (N := 10) hx hb hts hi_RX1 hown hK hP 1 rfl rfl 0 (by decide) (hts (.fieldLink RX5 95 "TravelMarks$Port" "laws" "[I") (List.mem_of_getElem? (i := 2) rfl)) (fun _ h9 => h9) rfl dX5_lawOf_13 ?_
      refine lv_iload_n hx hb dX5_lawOf_16 rfl (lv_at hl 1 rfl) ?_
      obtain ⟨y4, ey4, hi3, hf⟩ := rdA_x hf
      refine va_iald hx hb hK hP 2 0 rfl rfl hi3 dX5_lawOf_17 ?_
      refine lv_ren ey4 ?_
      refine lv_goto (tgt := 22) hx hb dX5_lawOf_18 (by decide) ?_
      cases hf
      exact kri hQ hAe hx hb hr hlocks hP hD hK hS dX5_lawOf_22
  exact main _ _ hP hD hS

def rmX5_mark : Room := { frames := 2, cells := 0, slots := 0, locals := 42 }
theorem hdX5_mark : yX5_mark.cls = RX5 ∧ yX5_mark.cls ≠ "java/lang/invoke/MethodHandle" ∧ yX5_mark.cls ≠ "java/lang/invoke/VarHandle" ∧ (parseMethodDescriptor yX5_mark.desc).map (fun d => d.parameters.length) = some 3 := by decide +kernel
set_option maxHeartbeats 40000000 in
set_option maxRecDepth 100000 in
theorem c_X5_mark (l : Launch) (E : Nat → Nat) (D : va_G) (C : Nat → ClassId) (q0 qn0 qk0 qr0 qc0 qt0 qd0 qs0 qf0 qw0 qn1 qn2 qn3 qn4 qn5 qn6 : Nat) (sz : Nat) (rowCount : Int32) (anyKept : Int32) (now : PV) (x0 : Int32) (x1 : Int32) (x2 : Int32) (r : Int32) (now' : PV) (hf : f_X5_mark now x0 x1 x2 = some (r, now')) : Met l yX5_mark wsX5_mark rmX5_mark (PC E D C [.ref q0, .int x0, .int x1, .int x2] (oTM q0 qn0 qk0 qr0 qc0 qt0 qd0 qs0 qf0 qw0 rowCount anyKept (oPort C qn0 qn1 qn2 qn3 qn4 qn5 qn6 now [])) sz) (QI D C (oTM q0 qn0 qk0 qr0 qc0 qt0 qd0 qs0 qf0 qw0 rowCount anyKept (oPort C qn0 qn1 qn2 qn3 qn4 qn5 qn6 now [])) (oTM q0 qn0 qk0 qr0 qc0 qt0 qd0 qs0 qf0 qw0 rowCount anyKept (oPort C qn0 qn1 qn2 qn3 qn4 qn5 qn6 (now') [])) sz r) 0 0 (va_A (oTM q0 qn0 qk0 qr0 qc0 qt0 qd0 qs0 qf0 qw0 rowCount anyKept (oPort C qn0 qn1 qn2 qn3 qn4 qn5 qn6 now [])) sz) := by
  refine Met.ofW (cc := cX5_mark) (maxL := 4) (ret := (some .int)) (by decide) rfl ?_
  intro p e s m args below meth c s₁ B hml hv
  obtain ⟨rfl, hsz, hP, hK, hD0, hE⟩ := hv
  have hx := B.exec
  have hb := B.bytes
  have hr := B.returns
  have hts := atoms_spec (ws := wsX5_mark) B.pre
  have hown : s.vm.findClass RX5 = some m.cls := findClass_of_methodNamed B.named
  have hlocks := B.notSynchronized
  subst hsz
  have hi_RX1 : ∀ w ∈ wsX10, w ∈ wsX5_mark := fun _ h => List.mem_cons_of_mem _ (List.mem_append_right _ h)
  have hi_RX5 : ∀ w ∈ wsX50, w ∈ wsX5_mark := fun _ h => List.mem_cons_of_mem _ (List.mem_append_left _ (List.mem_append_right _ h))
  have hD := hD0.self (sz := s.heap.size)
  obtain ⟨A, hAe⟩ := nm_ex (va_A (oTM q0 qn0 qk0 qr0 qc0 qt0 qd0 qs0 qf0 qw0 rowCount anyKept (oPort C qn0 qn1 qn2 qn3 qn4 qn5 qn6 now [])) s.heap.size)
  rw [← hAe] at hD hE ⊢
  have hA : ∀ q : Nat, s.heap.size ≤ q → A q := fun q h => by rw [hAe]; exact Or.inr h
  have hS : va_S A s.heap s.heap [] := va_S.rf
  have hl := lv_entry ([.ref q0, .int x0, .int x1, .int x2]) (n := 4) (Nat.le_of_ble_eq_true rfl)
  rw [lg_entry_eq]
  generalize (lg_sl ([.ref q0, .int x0, .int x1, .int x2]) ++ List.replicate (4 - (lg_sl ([.ref q0, .int x0, .int x1, .int x2])).length) Slot.unset).toArray = ls at hl ⊢
  have hl : lv_has ls 4 [(0, .ref q0), (1, .int x0), (2, .int x1), (3, .int x2)] := hl
  obtain ⟨Q, hQ⟩ := nm_ex (MQ below (QI D C (oTM q0 qn0 qk0 qr0 qc0 qt0 qd0 qs0 qf0 qw0 rowCount anyKept (oPort C qn0 qn1 qn2 qn3 qn4 qn5 qn6 now [])) (oTM q0 qn0 qk0 qr0 qc0 qt0 qd0 qs0 qf0 qw0 rowCount anyKept (oPort C qn0 qn1 qn2 qn3 qn4 qn5 qn6 (now') [])) s.heap.size r) (List.toArray [Value.ref q0, Value.int x0, Value.int x1, Value.int x2]) s 0 0 A)
  show W p l e (headSpec wsX5_mark (rmX5_mark)).room s m (List.toArray [Value.ref q0, Value.int x0, Value.int x1, Value.int x2]) below meth c s.heap [] 0 0 (MQ below (QI D C (oTM q0 qn0 qk0 qr0 qc0 qt0 qd0 qs0 qf0 qw0 rowCount anyKept (oPort C qn0 qn1 qn2 qn3 qn4 qn5 qn6 now [])) (oTM q0 qn0 qk0 qr0 qc0 qt0 qd0 qs0 qf0 qw0 rowCount anyKept (oPort C qn0 qn1 qn2 qn3 qn4 qn5 qn6 (now') [])) s.heap.size r) (List.toArray [Value.ref q0, Value.int x0, Value.int x1, Value.int x2]) s 0 0 A) _
  rw [← hQ]
  unfold f_X5_mark at hf
  have main : ∀ (H : Heap) (locs : List Loc), va_P D vwCl (oTM q0 qn0 qk0 qr0 qc0 qt0 qd0 qs0 qf0 qw0 rowCount anyKept (oPort C qn0 qn1 qn2 qn3 qn4 qn5 qn6 now [])) H → va_D A (oTM q0 qn0 qk0 qr0 qc0 qt0 qd0 qs0 qf0 qw0 rowCount anyKept (oPort C qn0 qn1 qn2 qn3 qn4 qn5 qn6 now [])) → va_S A s.heap H locs → W p l e (headSpec wsX5_mark (rmX5_mark)).room s m (List.toArray [Value.ref q0, Value.int x0, Value.int x1, Value.int x2]) below meth c H locs 0 0 Q (F0 m 0 ls []) := by
    intro H locs hP hD hS
    refine lv_iload_n hx hb dX5_mark_0 rfl (lv_at hl 1 rfl) ?_
    refine kcz (Wx := (oTM q0 qn0 qk0 qr0 qc0 qt0 qd0 qs0 qf0 qw0 rowCount anyKept (oPort C qn0 qn1 qn2 qn3 qn4 qn5 qn6 now []))) (va_runS (As := [.int x0]) (rest := []) ⟨hx, hb, hml, hown, hts⟩ (c_X5_isKind l E D C H.size x0 _ rfl) (va_cwS 1 hts gX5_mark_X5_isKind rfl rfl rfl hdX5_isKind ⟨Nat.le_of_ble_eq_true rfl, Nat.le_of_ble_eq_true rfl⟩) (kpre hP hD hK hS hE hA [] rfl rfl) rfl rfl hl.1 rfl (lv_room (Nat.le_of_ble_eq_true rfl)) dX5_mark_1 ⟨Nat.zero_le _, Nat.zero_le _⟩) hP hD hS hA [] rfl rfl rfl (fun H locs hz1 hP hD hS => ?_)
    refine lv_if_eq (tgt := 21) hx hb dX5_mark_4 (by decide) (fun c2 => ?_) (fun c2 => ?_)
    · replace hf := if_te c2 hf
      refine lv_iconst (v := (-1)) hx hb dX5_mark_21 rfl ?_
      cases hf
      exact kri hQ hAe hx hb hr hlocks hP hD hK hS dX5_mark_22
    · replace hf := if_fe c2 hf
      refine lv_iload_n hx hb dX5_mark_7 rfl (lv_at hl 2 rfl) ?_
      refine kcz (Wx := (oTM q0 qn0 qk0 qr0 qc0 qt0 qd0 qs0 qf0 qw0 rowCount anyKept (oPort C qn0 qn1 qn2 qn3 qn4 qn5 qn6 now []))) (va_runS (As := [.int x1]) (rest := []) ⟨hx, hb, hml, hown, hts⟩ (c_X5_isInk l E D C H.size x1 _ rfl) (va_cwS 1 hts gX5_mark_X5_isInk rfl rfl rfl hdX5_isInk ⟨Nat.le_of_ble_eq_true rfl, Nat.le_of_ble_eq_true rfl⟩) (kpre hP hD hK hS hE hA [] rfl rfl) rfl rfl hl.1 rfl (lv_room (Nat.le_of_ble_eq_true rfl)) dX5_mark_8 ⟨Nat.zero_le _, Nat.zero_le _⟩) hP hD hS hA [] rfl rfl rfl (fun H locs hz3 hP hD hS => ?_)
      refine lv_if_eq (tgt := 21) hx hb dX5_mark_11 (by decide) (fun c4 => ?_) (fun c4 => ?_)
      · replace hf := if_te c4 hf
        refine lv_iconst (v := (-1)) hx hb dX5_mark_21 rfl ?_
        cases hf
        exact kri hQ hAe hx hb hr hlocks hP hD hK hS dX5_mark_22
      · replace hf := if_fe c4 hf
        refine lv_iload_n hx hb dX5_mark_14 rfl (lv_at hl 3 rfl) ?_
        refine kcz (Wx := (oTM q0 qn0 qk0 qr0 qc0 qt0 qd0 qs0 qf0 qw0 rowCount anyKept (oPort C qn0 qn1 qn2 qn3 qn4 qn5 qn6 now []))) (va_runS (As := [.int x2]) (rest := []) ⟨hx, hb, hml, hown, hts⟩ (c_X5_isOne l E D C H.size x2 _ rfl) (va_cwS 1 hts gX5_mark_X5_isOne rfl rfl rfl hdX5_isOne ⟨Nat.le_of_ble_eq_true rfl, Nat.le_of_ble_eq_true rfl⟩) (kpre hP hD hK hS hE hA [] rfl rfl) rfl rfl hl.1 rfl (lv_room (Nat.le_of_ble_eq_true rfl)) dX5_mark_15 ⟨Nat.zero_le _, Nat.zero_le _⟩) hP hD hS hA [] rfl rfl rfl (fun H locs hz5 hP hD hS => ?_)
        refine lv_if_ne (tgt := 23) hx hb dX5_mark_18 (by decide) (fun c6 => ?_) (fun c6 => ?_)
        · replace hf := if_fe c6 hf
          refine lv_aload_n hx hb dX5_mark_23 rfl (lv_at hl 0 rfl) ?_
          refine va_get (D := D) (ci := 5) (v := .ref qn0) (C := RX5) (T := TX5) (N := 11) hx hb hts hi_RX5 hown hK hP 0 rfl rfl 0 (by decide) (hts (.fieldLink RX5 10 "TravelMarks" "now" "LTravelMarks$Port;") (List.mem_of_getElem? (i := 1) rfl)) (fun _ h9 => h9) rfl dX5_mark_24 ?_
          refine lv_iload_n hx hb dX5_mark_27 rfl (lv_at hl 1 rfl) ?_
          refine lv_iload_n hx hb dX5_mark_28 rfl (lv_at hl 2 rfl) ?_
          refine lv_iload_n hx hb dX5_mark_29 rfl (lv_at hl 3 rfl) ?_
          obtain ⟨r7, v8, h9, hf⟩ := ob2_e hf
          refine kcz (Wx := (oTM q0 qn0 qk0 qr0 qc0 qt0 qd0 qs0 qf0 qw0 rowCount anyKept (oPort C qn0 qn1 qn2 qn3 qn4 qn5 qn6 v8 []))) (va_runV (As := [.int x0, .int x1, .int x2]) (rest := []) ⟨hx, hb, hml, hown, hts⟩ (c_X1_add l E D C qn0 qn1 qn2 qn3 qn4 qn5 qn6 H.size now x0 x1 x2 r7 v8 h9) (cwV 3 hts gX5_mark_X1_add rfl rfl rfl hdX1_add ⟨Nat.le_of_ble_eq_true rfl, Nat.le_of_ble_eq_true rfl⟩) (kpreV hP hD hK hS hE hA [1, 2, 3, 4, 5, 6, 7] rfl rfl 1 rfl rfl rfl) rfl rfl hl.1 rfl (lv_room (Nat.le_of_ble_eq_true rfl)) dX5_mark_30 ⟨Nat.zero_le _, Nat.zero_le _⟩) hP hD hS hA [1, 2, 3, 4, 5, 6, 7] rfl rfl rfl (fun H locs hz10 hP hD hS => ?_)
          refine lv_if_eq (tgt := 48) hx hb dX5_mark_33 (by decide) (fun c11 => ?_) (fun c11 => ?_)
          · replace hf := if_te c11 hf
            refine lv_bipush (v := (-2)) hx hb dX5_mark_48 rfl ?_
            cases hf
            exact kri hQ hAe hx hb hr hlocks hP hD hK hS dX5_mark_50
          · replace hf := if_fe c11 hf
            refine lv_aload_n hx hb dX5_mark_36 rfl (lv_at hl 0 rfl) ?_
            refine va_get (D := D) (ci := 5) (v := .ref qn0) (C := RX5) (T := TX5) (N := 11) hx hb hts hi_RX5 hown hK hP 0 rfl rfl 0 (by decide) (hts (.fieldLink RX5 10 "TravelMarks" "now" "LTravelMarks$Port;") (List.mem_of_getElem? (i := 1) rfl)) (fun _ h9 => h9) rfl dX5_mark_37 ?_
            refine va_get (D := D) (ci := 1) (v := .int (pCount v8)) (C := RX1) (T := TX1) (N := 10) hx hb hts hi_RX1 hown hK hP 1 rfl rfl 6 (by decide) (hts (.fieldLink RX5 86 "TravelMarks$Port" "count" "I") (List.mem_of_getElem? (i := 2) rfl)) (fun _ h9 => h9) rfl dX5_mark_40 ?_
            refine lv_iconst (v := 1) hx hb dX5_mark_43 rfl ?_
            refine lv_isub hx hb dX5_mark_44 ?_
            refine lv_goto (tgt := 50) hx hb dX5_mark_45 (by decide) ?_
            obtain ⟨t12, et12, hf⟩ := lj_e hf
            refine lv_ren et12 ?_
            cases hf
            exact kri hQ hAe hx hb hr hlocks hP hD hK hS dX5_mark_50
        · replace hf := if_te c6 hf
          refine lv_iconst (v := (-1)) hx hb dX5_mark_21 rfl ?_
          cases hf
          exact kri hQ hAe hx hb hr hlocks hP hD hK hS dX5_mark_22
  exact main _ _ hP hD hS

def rmX5_isMark : Room := { frames := 1, cells := 0, slots := 0, locals := 22 }
theorem hdX5_isMark : yX5_isMark.cls = RX5 ∧ yX5_isMark.cls ≠ "java/lang/invoke/MethodHandle" ∧ yX5_isMark.cls ≠ "java/lang/invoke/VarHandle" ∧ (parseMethodDescriptor yX5_isMark.desc).map (fun d => d.parameters.length) = some 1 := by decide +kernel
set_option maxHeartbeats 40000000 in
set_option maxRecDepth 100000 in
theorem c_X5_isMark (l : Launch) (E : Nat → Nat) (D : va_G) (C : Nat → ClassId) (q0 qn0 qk0 qr0 qc0 qt0 qd0 qs0 qf0 qw0 qn1 qn2 qn3 qn4 qn5 qn6 : Nat) (sz : Nat) (rowCount : Int32) (anyKept : Int32) (now : PV) (x0 : Int32) (r : Int32) (hf : f_X5_isMark now x0 = r) : Met l yX5_isMark wsX5_isMark rmX5_isMark (PC E D C [.ref q0, .int x0] (oTM q0 qn0 qk0 qr0 qc0 qt0 qd0 qs0 qf0 qw0 rowCount anyKept (oPort C qn0 qn1 qn2 qn3 qn4 qn5 qn6 now [])) sz) (QZ D C (oTM q0 qn0 qk0 qr0 qc0 qt0 qd0 qs0 qf0 qw0 rowCount anyKept (oPort C qn0 qn1 qn2 qn3 qn4 qn5 qn6 now [])) (oTM q0 qn0 qk0 qr0 qc0 qt0 qd0 qs0 qf0 qw0 rowCount anyKept (oPort C qn0 qn1 qn2 qn3 qn4 qn5 qn6 now [])) sz r) 0 0 (va_A (oTM q0 qn0 qk0 qr0 qc0 qt0 qd0 qs0 qf0 qw0 rowCount anyKept (oPort C qn0 qn1 qn2 qn3 qn4 qn5 qn6 now [])) sz) := by
  refine Met.ofW (cc := cX5_isMark) (maxL := 2) (ret := (some .boolean)) (by decide) rfl ?_
  intro p e s m args below meth c s₁ B hml hv
  obtain ⟨rfl, hsz, hP, hK, hD0, hE⟩ := hv
  have hx := B.exec
  have hb := B.bytes
  have hr := B.returns
  have hts := atoms_spec (ws := wsX5_isMark) B.pre
  have hown : s.vm.findClass RX5 = some m.cls := findClass_of_methodNamed B.named
  have hlocks := B.notSynchronized
  subst hsz
  have hi_RX1 : ∀ w ∈ wsX10, w ∈ wsX5_isMark := fun _ h => List.mem_cons_of_mem _ (List.mem_append_right _ h)
  have hi_RX5 : ∀ w ∈ wsX50, w ∈ wsX5_isMark := fun _ h => List.mem_cons_of_mem _ (List.mem_append_left _ (List.mem_append_right _ h))
  have hD := hD0.self (sz := s.heap.size)
  obtain ⟨A, hAe⟩ := nm_ex (va_A (oTM q0 qn0 qk0 qr0 qc0 qt0 qd0 qs0 qf0 qw0 rowCount anyKept (oPort C qn0 qn1 qn2 qn3 qn4 qn5 qn6 now [])) s.heap.size)
  rw [← hAe] at hD hE ⊢
  have hA : ∀ q : Nat, s.heap.size ≤ q → A q := fun q h => by rw [hAe]; exact Or.inr h
  have hS : va_S A s.heap s.heap [] := va_S.rf
  have hl := lv_entry ([.ref q0, .int x0]) (n := 2) (Nat.le_of_ble_eq_true rfl)
  rw [lg_entry_eq]
  generalize (lg_sl ([.ref q0, .int x0]) ++ List.replicate (2 - (lg_sl ([.ref q0, .int x0])).length) Slot.unset).toArray = ls at hl ⊢
  have hl : lv_has ls 2 [(0, .ref q0), (1, .int x0)] := hl
  obtain ⟨Q, hQ⟩ := nm_ex (MQ below (QZ D C (oTM q0 qn0 qk0 qr0 qc0 qt0 qd0 qs0 qf0 qw0 rowCount anyKept (oPort C qn0 qn1 qn2 qn3 qn4 qn5 qn6 now [])) (oTM q0 qn0 qk0 qr0 qc0 qt0 qd0 qs0 qf0 qw0 rowCount anyKept (oPort C qn0 qn1 qn2 qn3 qn4 qn5 qn6 now [])) s.heap.size r) (List.toArray [Value.ref q0, Value.int x0]) s 0 0 A)
  show W p l e (headSpec wsX5_isMark (rmX5_isMark)).room s m (List.toArray [Value.ref q0, Value.int x0]) below meth c s.heap [] 0 0 (MQ below (QZ D C (oTM q0 qn0 qk0 qr0 qc0 qt0 qd0 qs0 qf0 qw0 rowCount anyKept (oPort C qn0 qn1 qn2 qn3 qn4 qn5 qn6 now [])) (oTM q0 qn0 qk0 qr0 qc0 qt0 qd0 qs0 qf0 qw0 rowCount anyKept (oPort C qn0 qn1 qn2 qn3 qn4 qn5 qn6 now [])) s.heap.size r) (List.toArray [Value.ref q0, Value.int x0]) s 0 0 A) _
  rw [← hQ]
  unfold f_X5_isMark at hf
  have main : ∀ (H : Heap) (locs : List Loc), va_P D vwCl (oTM q0 qn0 qk0 qr0 qc0 qt0 qd0 qs0 qf0 qw0 rowCount anyKept (oPort C qn0 qn1 qn2 qn3 qn4 qn5 qn6 now [])) H → va_D A (oTM q0 qn0 qk0 qr0 qc0 qt0 qd0 qs0 qf0 qw0 rowCount anyKept (oPort C qn0 qn1 qn2 qn3 qn4 qn5 qn6 now [])) → va_S A s.heap H locs → W p l e (headSpec wsX5_isMark (rmX5_isMark)).room s m (List.toArray [Value.ref q0, Value.int x0]) below meth c H locs 0 0 Q (F0 m 0 ls []) := by
    intro H locs hP hD hS
    refine lv_iload_n hx hb dX5_isMark_0 rfl (lv_at hl 1 rfl) ?_
    refine lv_iconst (v := 0) hx hb dX5_isMark_1 rfl ?_
    refine lv_aload_n hx hb dX5_isMark_2 rfl (lv_at hl 0 rfl) ?_
    refine va_get (D := D) (ci := 5) (v := .ref qn0) (C := RX5) (T := TX5) (N := 11) hx hb hts hi_RX5 hown hK hP 0 rfl rfl 0 (by decide) (hts (.fieldLink RX5 10 "TravelMarks" "now" "LTravelMarks$Port;") (List.mem_of_getElem? (i := 1) rfl)) (fun _ h9 => h9) rfl dX5_isMark_3 ?_
    refine va_get (D := D) (ci := 1) (v := .int (pCount now)) (C := RX1) (T := TX1) (N := 10) hx hb hts hi_RX1 hown hK hP 1 rfl rfl 6 (by decide) (hts (.fieldLink RX5 86 "TravelMarks$Port" "count" "I") (List.mem_of_getElem? (i := 2) rfl)) (fun _ h9 => h9) rfl dX5_isMark_6 ?_
    refine lv_iconst (v := 1) hx hb dX5_isMark_9 rfl ?_
    refine lv_isub hx hb dX5_isMark_10 ?_
    refine kcz (Wx := (oTM q0 qn0 qk0 qr0 qc0 qt0 qd0 qs0 qf0 qw0 rowCount anyKept (oPort C qn0 qn1 qn2 qn3 qn4 qn5 qn6 now []))) (va_runS (As := [.int x0, .int 0, .int ((pCount now) - 1)]) (rest := []) ⟨hx, hb, hml, hown, hts⟩ (c_X5_within l E D C H.size x0 0 ((pCount now) - 1) _ rfl) (va_cwS 3 hts gX5_isMark_X5_within rfl rfl rfl hdX5_within ⟨Nat.le_of_ble_eq_true rfl, Nat.le_of_ble_eq_true rfl⟩) (kpre hP hD hK hS hE hA [] rfl rfl) rfl rfl hl.1 rfl (lv_room (Nat.le_of_ble_eq_true rfl)) dX5_isMark_11 ⟨Nat.zero_le _, Nat.zero_le _⟩) hP hD hS hA [] rfl rfl rfl (fun H locs hz1 hP hD hS => ?_)
    cases hf
    exact krz hQ hAe hx hb hr hlocks hz1 hP hD hK hS dX5_isMark_14
  exact main _ _ hP hD hS

def rmX5_of : Room := { frames := 3, cells := 0, slots := 0, locals := 69 }
theorem hdX5_of : yX5_of.cls = RX5 ∧ yX5_of.cls ≠ "java/lang/invoke/MethodHandle" ∧ yX5_of.cls ≠ "java/lang/invoke/VarHandle" ∧ (parseMethodDescriptor yX5_of.desc).map (fun d => d.parameters.length) = some 2 := by decide +kernel
set_option maxHeartbeats 40000000 in
set_option maxRecDepth 100000 in
theorem c_X5_of (l : Launch) (E : Nat → Nat) (D : va_G) (C : Nat → ClassId) (q0 qn0 qk0 qr0 qc0 qt0 qd0 qs0 qf0 qw0 qn1 qn2 qn3 qn4 qn5 qn6 : Nat) (sz : Nat) (N : Nat) (rowCount : Int32) (anyKept : Int32) (now : PV) (x0 : Int32) (x1 : Int32) (r : Int32) (hf : f_X5_of N now x0 x1 = some r) : Met l yX5_of wsX5_of rmX5_of (PC E D C [.ref q0, .int x0, .int x1] (oTM q0 qn0 qk0 qr0 qc0 qt0 qd0 qs0 qf0 qw0 rowCount anyKept (oPort C qn0 qn1 qn2 qn3 qn4 qn5 qn6 now [])) sz) (QI D C (oTM q0 qn0 qk0 qr0 qc0 qt0 qd0 qs0 qf0 qw0 rowCount anyKept (oPort C qn0 qn1 qn2 qn3 qn4 qn5 qn6 now [])) (oTM q0 qn0 qk0 qr0 qc0 qt0 qd0 qs0 qf0 qw0 rowCount anyKept (oPort C qn0 qn1 qn2 qn3 qn4 qn5 qn6 now [])) sz r) 0 0 (va_A (oTM q0 qn0 qk0 qr0 qc0 qt0 qd0 qs0 qf0 qw0 rowCount anyKept (oPort C qn0 qn1 qn2 qn3 qn4 qn5 qn6 now [])) sz) := by
  refine Met.ofW (cc := cX5_of) (maxL := 3) (ret := (some .int)) (by decide) rfl ?_
  intro p e s m args below meth c s₁ B hml hv
  obtain ⟨rfl, hsz, hP, hK, hD0, hE⟩ := hv
  have hx := B.exec
  have hb := B.bytes
  have hr := B.returns
  have hts := atoms_spec (ws := wsX5_of) B.pre
  have hown : s.vm.findClass RX5 = some m.cls := findClass_of_methodNamed B.named
  have hlocks := B.notSynchronized
  subst hsz
  have hi_RX1 : ∀ w ∈ wsX10, w ∈ wsX5_of := fun _ h => List.mem_cons_of_mem _ (List.mem_append_right _ h)
  have hi_RX5 : ∀ w ∈ wsX50, w ∈ wsX5_of := fun _ h => List.mem_cons_of_mem _ (List.mem_append_left _ (List.mem_append_right _ h))
  have hD := hD0.self (sz := s.heap.size)
  obtain ⟨A, hAe⟩ := nm_ex (va_A (oTM q0 qn0 qk0 qr0 qc0 qt0 qd0 qs0 qf0 qw0 rowCount anyKept (oPort C qn0 qn1 qn2 qn3 qn4 qn5 qn6 now [])) s.heap.size)
  rw [← hAe] at hD hE ⊢
  have hA : ∀ q : Nat, s.heap.size ≤ q → A q := fun q h => by rw [hAe]; exact Or.inr h
  have hS : va_S A s.heap s.heap [] := va_S.rf
  have hl := lv_entry ([.ref q0, .int x0, .int x1]) (n := 3) (Nat.le_of_ble_eq_true rfl)
  rw [lg_entry_eq]
  generalize (lg_sl ([.ref q0, .int x0, .int x1]) ++ List.replicate (3 - (lg_sl ([.ref q0, .int x0, .int x1])).length) Slot.unset).toArray = ls at hl ⊢
  have hl : lv_has ls 3 [(0, .ref q0), (1, .int x0), (2, .int x1)] := hl
  obtain ⟨Q, hQ⟩ := nm_ex (MQ below (QI D C (oTM q0 qn0 qk0 qr0 qc0 qt0 qd0 qs0 qf0 qw0 rowCount anyKept (oPort C qn0 qn1 qn2 qn3 qn4 qn5 qn6 now [])) (oTM q0 qn0 qk0 qr0 qc0 qt0 qd0 qs0 qf0 qw0 rowCount anyKept (oPort C qn0 qn1 qn2 qn3 qn4 qn5 qn6 now [])) s.heap.size r) (List.toArray [Value.ref q0, Value.int x0, Value.int x1]) s 0 0 A)
  show W p l e (headSpec wsX5_of (rmX5_of)).room s m (List.toArray [Value.ref q0, Value.int x0, Value.int x1]) below meth c s.heap [] 0 0 (MQ below (QI D C (oTM q0 qn0 qk0 qr0 qc0 qt0 qd0 qs0 qf0 qw0 rowCount anyKept (oPort C qn0 qn1 qn2 qn3 qn4 qn5 qn6 now [])) (oTM q0 qn0 qk0 qr0 qc0 qt0 qd0 qs0 qf0 qw0 rowCount anyKept (oPort C qn0 qn1 qn2 qn3 qn4 qn5 qn6 now [])) s.heap.size r) (List.toArray [Value.ref q0, Value.int x0, Value.int x1]) s 0 0 A) _
  rw [← hQ]
  unfold f_X5_of at hf
  have main : ∀ (H : Heap) (locs : List Loc), va_P D vwCl (oTM q0 qn0 qk0 qr0 qc0 qt0 qd0 qs0 qf0 qw0 rowCount anyKept (oPort C qn0 qn1 qn2 qn3 qn4 qn5 qn6 now [])) H → va_D A (oTM q0 qn0 qk0 qr0 qc0 qt0 qd0 qs0 qf0 qw0 rowCount anyKept (oPort C qn0 qn1 qn2 qn3 qn4 qn5 qn6 now [])) → va_S A s.heap H locs → W p l e (headSpec wsX5_of (rmX5_of)).room s m (List.toArray [Value.ref q0, Value.int x0, Value.int x1]) below meth c H locs 0 0 Q (F0 m 0 ls []) := by
    intro H locs hP hD hS
    refine lv_aload_n hx hb dX5_of_0 rfl (lv_at hl 0 rfl) ?_
    refine lv_iload_n hx hb dX5_of_1 rfl (lv_at hl 1 rfl) ?_
    refine kcz (Wx := (oTM q0 qn0 qk0 qr0 qc0 qt0 qd0 qs0 qf0 qw0 rowCount anyKept (oPort C qn0 qn1 qn2 qn3 qn4 qn5 qn6 now []))) (va_runV (As := [.int x0]) (rest := []) ⟨hx, hb, hml, hown, hts⟩ (c_X5_isMark l E D C q0 qn0 qk0 qr0 qc0 qt0 qd0 qs0 qf0 qw0 qn1 qn2 qn3 qn4 qn5 qn6 H.size rowCount anyKept now x0 _ rfl) (cwV 1 hts gX5_of_X5_isMark rfl rfl rfl hdX5_isMark ⟨Nat.le_of_ble_eq_true rfl, Nat.le_of_ble_eq_true rfl⟩) (kpreV hP hD hK hS hE hA [0, 1, 2, 3, 4, 5, 6, 7] rfl rfl 0 rfl rfl rfl) rfl rfl hl.1 rfl (lv_room (Nat.le_of_ble_eq_true rfl)) dX5_of_2 ⟨Nat.zero_le _, Nat.zero_le _⟩) hP hD hS hA [0, 1, 2, 3, 4, 5, 6, 7] rfl rfl rfl (fun H locs hz1 hP hD hS => ?_)
    refine lv_if_ne (tgt := 10) hx hb dX5_of_5 (by decide) (fun c2 => ?_) (fun c2 => ?_)
    · replace hf := if_fe c2 hf
      refine lv_iload_n hx hb dX5_of_10 rfl (lv_at hl 2 rfl) ?_
      by_cases c3 : x1 = 0
      · replace hf := if_te c3 hf
        refine lv_tableIn (x := x1) (tgt := 44) (off := 33) hx hb dX5_of_11 (by rw [c3]; decide) (by rw [c3]; decide) (by rw [c3]; try rfl) (by decide) ?_
        refine lv_aload_n hx hb dX5_of_44 rfl (lv_at hl 0 rfl) ?_
        refine va_get (D := D) (ci := 5) (v := .ref qn0) (C := RX5) (T := TX5) (N := 11) hx hb hts hi_RX5 hown hK hP 0 rfl rfl 0 (by decide) (hts (.fieldLink RX5 10 "TravelMarks" "now" "LTravelMarks$Port;") (List.mem_of_getElem? (i := 1) rfl)) (fun _ h9 => h9) rfl dX5_of_45 ?_
        refine va_get (D := D) (ci := 1) (v := .ref qn2) (C := RX1) (T := TX1) (N := 10) hx hb hts hi_RX1 hown hK hP 1 rfl rfl 1 (by decide) (hts (.fieldLink RX5 114 "TravelMarks$Port" "kind" "[I") (List.mem_of_getElem? (i := 2) rfl)) (fun _ h9 => h9) rfl dX5_of_48 ?_
        refine lv_iload_n hx hb dX5_of_51 rfl (lv_at hl 1 rfl) ?_
        obtain ⟨y5, ey5, hi4, hf⟩ := rdA_x hf
        refine va_iald hx hb hK hP 3 0 rfl rfl hi4 dX5_of_52 ?_
        refine lv_ren ey5 ?_
        cases hf
        exact kri hQ hAe hx hb hr hlocks hP hD hK hS dX5_of_53
      replace hf := if_fe c3 hf
      by_cases c6 : x1 = 1
      · replace hf := if_te c6 hf
        refine lv_tableIn (x := x1) (tgt := 54) (off := 43) hx hb dX5_of_11 (by rw [c6]; decide) (by rw [c6]; decide) (by rw [c6]; try rfl) (by decide) ?_
        refine lv_aload_n hx hb dX5_of_54 rfl (lv_at hl 0 rfl) ?_
        refine va_get (D := D) (ci := 5) (v := .ref qn0) (C := RX5) (T := TX5) (N := 11) hx hb hts hi_RX5 hown hK hP 0 rfl rfl 0 (by decide) (hts (.fieldLink RX5 10 "TravelMarks" "now" "LTravelMarks$Port;") (List.mem_of_getElem? (i := 1) rfl)) (fun _ h9 => h9) rfl dX5_of_55 ?_
        refine va_get (D := D) (ci := 1) (v := .ref qn3) (C := RX1) (T := TX1) (N := 10) hx hb hts hi_RX1 hown hK hP 1 rfl rfl 2 (by decide) (hts (.fieldLink RX5 117 "TravelMarks$Port" "ink" "[I") (List.mem_of_getElem? (i := 3) rfl)) (fun _ h9 => h9) rfl dX5_of_58 ?_
        refine lv_iload_n hx hb dX5_of_61 rfl (lv_at hl 1 rfl) ?_
        obtain ⟨y8, ey8, hi7, hf⟩ := rdA_x hf
        refine va_iald hx hb hK hP 4 0 rfl rfl hi7 dX5_of_62 ?_
        refine lv_ren ey8 ?_
        cases hf
        exact kri hQ hAe hx hb hr hlocks hP hD hK hS dX5_of_63
      replace hf := if_fe c6 hf
      by_cases c9 : x1 = 2
      · replace hf := if_te c9 hf
        refine lv_tableIn (x := x1) (tgt := 64) (off := 53) hx hb dX5_of_11 (by rw [c9]; decide) (by rw [c9]; decide) (by rw [c9]; try rfl) (by decide) ?_
        refine lv_aload_n hx hb dX5_of_64 rfl (lv_at hl 0 rfl) ?_
        refine va_get (D := D) (ci := 5) (v := .ref qn0) (C := RX5) (T := TX5) (N := 11) hx hb hts hi_RX5 hown hK hP 0 rfl rfl 0 (by decide) (hts (.fieldLink RX5 10 "TravelMarks" "now" "LTravelMarks$Port;") (List.mem_of_getElem? (i := 1) rfl)) (fun _ h9 => h9) rfl dX5_of_65 ?_
        refine va_get (D := D) (ci := 1) (v := .ref qn4) (C := RX1) (T := TX1) (N := 10) hx hb hts hi_RX1 hown hK hP 1 rfl rfl 3 (by decide) (hts (.fieldLink RX5 120 "TravelMarks$Port" "on" "[I") (List.mem_of_getElem? (i := 4) rfl)) (fun _ h9 => h9) rfl dX5_of_68 ?_
        refine lv_iload_n hx hb dX5_of_71 rfl (lv_at hl 1 rfl) ?_
        obtain ⟨y11, ey11, hi10, hf⟩ := rdA_x hf
        refine va_iald hx hb hK hP 5 0 rfl rfl hi10 dX5_of_72 ?_
        refine lv_ren ey11 ?_
        cases hf
        exact kri hQ hAe hx hb hr hlocks hP hD hK hS dX5_of_73
      replace hf := if_fe c9 hf
      by_cases c12 : x1 = 3
      · replace hf := if_te c12 hf
        refine lv_tableIn (x := x1) (tgt := 74) (off := 63) hx hb dX5_of_11 (by rw [c12]; decide) (by rw [c12]; decide) (by rw [c12]; try rfl) (by decide) ?_
        refine lv_aload_n hx hb dX5_of_74 rfl (lv_at hl 0 rfl) ?_
        refine va_get (D := D) (ci := 5) (v := .ref qn0) (C := RX5) (T := TX5) (N := 11) hx hb hts hi_RX5 hown hK hP 0 rfl rfl 0 (by decide) (hts (.fieldLink RX5 10 "TravelMarks" "now" "LTravelMarks$Port;") (List.mem_of_getElem? (i := 1) rfl)) (fun _ h9 => h9) rfl dX5_of_75 ?_
        refine lv_iload_n hx hb dX5_of_78 rfl (lv_at hl 1 rfl) ?_
        obtain ⟨r13, h14, hf⟩ := ob1_e hf
        refine kci (Wx := (oTM q0 qn0 qk0 qr0 qc0 qt0 qd0 qs0 qf0 qw0 rowCount anyKept (oPort C qn0 qn1 qn2 qn3 qn4 qn5 qn6 now []))) (va_runV (As := [.int x0]) (rest := []) ⟨hx, hb, hml, hown, hts⟩ (c_X1_fading l E D C qn0 qn1 qn2 qn3 qn4 qn5 qn6 H.size now x0 r13 h14) (cwV 1 hts gX5_of_X1_fading rfl rfl rfl hdX1_fading ⟨Nat.le_of_ble_eq_true rfl, Nat.le_of_ble_eq_true rfl⟩) (kpreV hP hD hK hS hE hA [1, 2, 3, 4, 5, 6, 7] rfl rfl 1 rfl rfl rfl) rfl rfl hl.1 rfl (lv_room (Nat.le_of_ble_eq_true rfl)) dX5_of_79 ⟨Nat.zero_le _, Nat.zero_le _⟩) hP hD hS hA [1, 2, 3, 4, 5, 6, 7] rfl rfl rfl (fun H locs hP hD hS => ?_)
        refine lv_sipush (v := 1000) hx hb dX5_of_82 rfl ?_
        refine lv_iadd hx hb dX5_of_85 ?_
        obtain ⟨t15, et15, hf⟩ := lj_e hf
        refine lv_ren et15 ?_
        cases hf
        exact kri hQ hAe hx hb hr hlocks hP hD hK hS dX5_of_86
      replace hf := if_fe c12 hf
      by_cases c16 : x1 = 4
      · replace hf := if_te c16 hf
        refine lv_tableIn (x := x1) (tgt := 87) (off := 76) hx hb dX5_of_11 (by rw [c16]; decide) (by rw [c16]; decide) (by rw [c16]; try rfl) (by decide) ?_
        refine lv_aload_n hx hb dX5_of_87 rfl (lv_at hl 0 rfl) ?_
        refine va_get (D := D) (ci := 5) (v := .ref qn0) (C := RX5) (T := TX5) (N := 11) hx hb hts hi_RX5 hown hK hP 0 rfl rfl 0 (by decide) (hts (.fieldLink RX5 10 "TravelMarks" "now" "LTravelMarks$Port;") (List.mem_of_getElem? (i := 1) rfl)) (fun _ h9 => h9) rfl dX5_of_88 ?_
        refine lv_iload_n hx hb dX5_of_91 rfl (lv_at hl 1 rfl) ?_
        obtain ⟨r17, h18, hf⟩ := ob1_e hf
        refine kcz (Wx := (oTM q0 qn0 qk0 qr0 qc0 qt0 qd0 qs0 qf0 qw0 rowCount anyKept (oPort C qn0 qn1 qn2 qn3 qn4 qn5 qn6 now []))) (va_runV (As := [.int x0]) (rest := []) ⟨hx, hb, hml, hown, hts⟩ (c_X1_goesNow l E D C qn0 qn1 qn2 qn3 qn4 qn5 qn6 H.size N now x0 r17 h18) (cwV 1 hts gX5_of_X1_goesNow rfl rfl rfl hdX1_goesNow ⟨Nat.le_of_ble_eq_true rfl, Nat.le_of_ble_eq_true rfl⟩) (kpreV hP hD hK hS hE hA [1, 2, 3, 4, 5, 6, 7] rfl rfl 1 rfl rfl rfl) rfl rfl hl.1 rfl (lv_room (Nat.le_of_ble_eq_true rfl)) dX5_of_92 ⟨Nat.zero_le _, Nat.zero_le _⟩) hP hD hS hA [1, 2, 3, 4, 5, 6, 7] rfl rfl rfl (fun H locs hz19 hP hD hS => ?_)
        refine lv_if_eq (tgt := 102) hx hb dX5_of_95 (by decide) (fun c20 => ?_) (fun c20 => ?_)
        · replace hf := if_te c20 hf
          refine lv_iconst (v := 0) hx hb dX5_of_102 rfl ?_
          cases hf
          exact kri hQ hAe hx hb hr hlocks hP hD hK hS dX5_of_103
        · replace hf := if_fe c20 hf
          refine lv_iconst (v := 1) hx hb dX5_of_98 rfl ?_
          refine lv_goto (tgt := 103) hx hb dX5_of_99 (by decide) ?_
          cases hf
          exact kri hQ hAe hx hb hr hlocks hP hD hK hS dX5_of_103
      replace hf := if_fe c16 hf
      refine lv_tableOut (x := x1) (tgt := 104) hx hb dX5_of_11 (swo_0_4 c3 c6 c9 c12 c16) (by decide) ?_
      refine lv_iconst (v := (-1)) hx hb dX5_of_104 rfl ?_
      cases hf
      exact kri hQ hAe hx hb hr hlocks hP hD hK hS dX5_of_105
    · replace hf := if_te c2 hf
      refine lv_iconst (v := (-1)) hx hb dX5_of_8 rfl ?_
      cases hf
      exact kri hQ hAe hx hb hr hlocks hP hD hK hS dX5_of_9
  exact main _ _ hP hD hS

def rmX5_mind : Room := { frames := 2, cells := 0, slots := 0, locals := 43 }
theorem hdX5_mind : yX5_mind.cls = RX5 ∧ yX5_mind.cls ≠ "java/lang/invoke/MethodHandle" ∧ yX5_mind.cls ≠ "java/lang/invoke/VarHandle" ∧ (parseMethodDescriptor yX5_mind.desc).map (fun d => d.parameters.length) = some 3 := by decide +kernel
set_option maxHeartbeats 40000000 in
set_option maxRecDepth 100000 in
theorem c_X5_mind (l : Launch) (E : Nat → Nat) (D : va_G) (C : Nat → ClassId) (q0 qn0 qk0 qr0 qc0 qt0 qd0 qs0 qf0 qw0 qn1 qn2 qn3 qn4 qn5 qn6 : Nat) (sz : Nat) (rowCount : Int32) (anyKept : Int32) (now : PV) (x0 : Int32) (x1 : Int32) (x2 : Int32) (r : Int32) (now' : PV) (hf : f_X5_mind now x0 x1 x2 = some (r, now')) : Met l yX5_mind wsX5_mind rmX5_mind (PC E D C [.ref q0, .int x0, .int x1, .int x2] (oTM q0 qn0 qk0 qr0 qc0 qt0 qd0 qs0 qf0 qw0 rowCount anyKept (oPort C qn0 qn1 qn2 qn3 qn4 qn5 qn6 now [])) sz) (QI D C (oTM q0 qn0 qk0 qr0 qc0 qt0 qd0 qs0 qf0 qw0 rowCount anyKept (oPort C qn0 qn1 qn2 qn3 qn4 qn5 qn6 now [])) (oTM q0 qn0 qk0 qr0 qc0 qt0 qd0 qs0 qf0 qw0 rowCount anyKept (oPort C qn0 qn1 qn2 qn3 qn4 qn5 qn6 (now') [])) sz r) 0 0 (va_A (oTM q0 qn0 qk0 qr0 qc0 qt0 qd0 qs0 qf0 qw0 rowCount anyKept (oPort C qn0 qn1 qn2 qn3 qn4 qn5 qn6 now [])) sz) := by
  refine Met.ofW (cc := cX5_mind) (maxL := 5) (ret := (some .int)) (by decide) rfl ?_
  intro p e s m args below meth c s₁ B hml hv
  obtain ⟨rfl, hsz, hP, hK, hD0, hE⟩ := hv
  have hx := B.exec
  have hb := B.bytes
  have hr := B.returns
  have hts := atoms_spec (ws := wsX5_mind) B.pre
  have hown : s.vm.findClass RX5 = some m.cls := findClass_of_methodNamed B.named
  have hlocks := B.notSynchronized
  subst hsz
  have hi_RX1 : ∀ w ∈ wsX10, w ∈ wsX5_mind := fun _ h => List.mem_cons_of_mem _ (List.mem_append_right _ h)
  have hi_RX5 : ∀ w ∈ wsX50, w ∈ wsX5_mind := fun _ h => List.mem_cons_of_mem _ (List.mem_append_left _ (List.mem_append_right _ h))
  have hD := hD0.self (sz := s.heap.size)
  obtain ⟨A, hAe⟩ := nm_ex (va_A (oTM q0 qn0 qk0 qr0 qc0 qt0 qd0 qs0 qf0 qw0 rowCount anyKept (oPort C qn0 qn1 qn2 qn3 qn4 qn5 qn6 now [])) s.heap.size)
  rw [← hAe] at hD hE ⊢
  have hA : ∀ q : Nat, s.heap.size ≤ q → A q := fun q h => by rw [hAe]; exact Or.inr h
  have hS : va_S A s.heap s.heap [] := va_S.rf
  have hl := lv_entry ([.ref q0, .int x0, .int x1, .int x2]) (n := 5) (Nat.le_of_ble_eq_true rfl)
  rw [lg_entry_eq]
  generalize (lg_sl ([.ref q0, .int x0, .int x1, .int x2]) ++ List.replicate (5 - (lg_sl ([.ref q0, .int x0, .int x1, .int x2])).length) Slot.unset).toArray = ls at hl ⊢
  have hl : lv_has ls 5 [(0, .ref q0), (1, .int x0), (2, .int x1), (3, .int x2)] := hl
  obtain ⟨Q, hQ⟩ := nm_ex (MQ below (QI D C (oTM q0 qn0 qk0 qr0 qc0 qt0 qd0 qs0 qf0 qw0 rowCount anyKept (oPort C qn0 qn1 qn2 qn3 qn4 qn5 qn6 now [])) (oTM q0 qn0 qk0 qr0 qc0 qt0 qd0 qs0 qf0 qw0 rowCount anyKept (oPort C qn0 qn1 qn2 qn3 qn4 qn5 qn6 (now') [])) s.heap.size r) (List.toArray [Value.ref q0, Value.int x0, Value.int x1, Value.int x2]) s 0 0 A)
  show W p l e (headSpec wsX5_mind (rmX5_mind)).room s m (List.toArray [Value.ref q0, Value.int x0, Value.int x1, Value.int x2]) below meth c s.heap [] 0 0 (MQ below (QI D C (oTM q0 qn0 qk0 qr0 qc0 qt0 qd0 qs0 qf0 qw0 rowCount anyKept (oPort C qn0 qn1 qn2 qn3 qn4 qn5 qn6 now [])) (oTM q0 qn0 qk0 qr0 qc0 qt0 qd0 qs0 qf0 qw0 rowCount anyKept (oPort C qn0 qn1 qn2 qn3 qn4 qn5 qn6 (now') [])) s.heap.size r) (List.toArray [Value.ref q0, Value.int x0, Value.int x1, Value.int x2]) s 0 0 A) _
  rw [← hQ]
  unfold f_X5_mind at hf
  have main : ∀ (H : Heap) (locs : List Loc), va_P D vwCl (oTM q0 qn0 qk0 qr0 qc0 qt0 qd0 qs0 qf0 qw0 rowCount anyKept (oPort C qn0 qn1 qn2 qn3 qn4 qn5 qn6 now [])) H → va_D A (oTM q0 qn0 qk0 qr0 qc0 qt0 qd0 qs0 qf0 qw0 rowCount anyKept (oPort C qn0 qn1 qn2 qn3 qn4 qn5 qn6 now [])) → va_S A s.heap H locs → W p l e (headSpec wsX5_mind (rmX5_mind)).room s m (List.toArray [Value.ref q0, Value.int x0, Value.int x1, Value.int x2]) below meth c H locs 0 0 Q (F0 m 0 ls []) := by
    intro H locs hP hD hS
    refine lv_aload_n hx hb dX5_mind_0 rfl (lv_at hl 0 rfl) ?_
    refine lv_iload_n hx hb dX5_mind_1 rfl (lv_at hl 1 rfl) ?_
    refine kcz (Wx := (oTM q0 qn0 qk0 qr0 qc0 qt0 qd0 qs0 qf0 qw0 rowCount anyKept (oPort C qn0 qn1 qn2 qn3 qn4 qn5 qn6 now []))) (va_runV (As := [.int x0]) (rest := []) ⟨hx, hb, hml, hown, hts⟩ (c_X5_isMark l E D C q0 qn0 qk0 qr0 qc0 qt0 qd0 qs0 qf0 qw0 qn1 qn2 qn3 qn4 qn5 qn6 H.size rowCount anyKept now x0 _ rfl) (cwV 1 hts gX5_mind_X5_isMark rfl rfl rfl hdX5_isMark ⟨Nat.le_of_ble_eq_true rfl, Nat.le_of_ble_eq_true rfl⟩) (kpreV hP hD hK hS hE hA [0, 1, 2, 3, 4, 5, 6, 7] rfl rfl 0 rfl rfl rfl) rfl rfl hl.1 rfl (lv_room (Nat.le_of_ble_eq_true rfl)) dX5_mind_2 ⟨Nat.zero_le _, Nat.zero_le _⟩) hP hD hS hA [0, 1, 2, 3, 4, 5, 6, 7] rfl rfl rfl (fun H locs hz1 hP hD hS => ?_)
    refine lv_if_eq (tgt := 22) hx hb dX5_mind_5 (by decide) (fun c2 => ?_) (fun c2 => ?_)
    · replace hf := if_te c2 hf
      refine lv_iconst (v := (-1)) hx hb dX5_mind_22 rfl ?_
      cases hf
      exact kri hQ hAe hx hb hr hlocks hP hD hK hS dX5_mind_23
    · replace hf := if_fe c2 hf
      refine lv_iload_n hx hb dX5_mind_8 rfl (lv_at hl 2 rfl) ?_
      refine kcz (Wx := (oTM q0 qn0 qk0 qr0 qc0 qt0 qd0 qs0 qf0 qw0 rowCount anyKept (oPort C qn0 qn1 qn2 qn3 qn4 qn5 qn6 now []))) (va_runS (As := [.int x1]) (rest := []) ⟨hx, hb, hml, hown, hts⟩ (c_X5_isKind l E D C H.size x1 _ rfl) (va_cwS 1 hts gX5_mind_X5_isKind rfl rfl rfl hdX5_isKind ⟨Nat.le_of_ble_eq_true rfl, Nat.le_of_ble_eq_true rfl⟩) (kpre hP hD hK hS hE hA [] rfl rfl) rfl rfl hl.1 rfl (lv_room (Nat.le_of_ble_eq_true rfl)) dX5_mind_9 ⟨Nat.zero_le _, Nat.zero_le _⟩) hP hD hS hA [] rfl rfl rfl (fun H locs hz3 hP hD hS => ?_)
      refine lv_if_eq (tgt := 22) hx hb dX5_mind_12 (by decide) (fun c4 => ?_) (fun c4 => ?_)
      · replace hf := if_te c4 hf
        refine lv_iconst (v := (-1)) hx hb dX5_mind_22 rfl ?_
        cases hf
        exact kri hQ hAe hx hb hr hlocks hP hD hK hS dX5_mind_23
      · replace hf := if_fe c4 hf
        refine lv_iload_n hx hb dX5_mind_15 rfl (lv_at hl 3 rfl) ?_
        refine kcz (Wx := (oTM q0 qn0 qk0 qr0 qc0 qt0 qd0 qs0 qf0 qw0 rowCount anyKept (oPort C qn0 qn1 qn2 qn3 qn4 qn5 qn6 now []))) (va_runS (As := [.int x2]) (rest := []) ⟨hx, hb, hml, hown, hts⟩ (c_X5_isInk l E D C H.size x2 _ rfl) (va_cwS 1 hts gX5_mind_X5_isInk rfl rfl rfl hdX5_isInk ⟨Nat.le_of_ble_eq_true rfl, Nat.le_of_ble_eq_true rfl⟩) (kpre hP hD hK hS hE hA [] rfl rfl) rfl rfl hl.1 rfl (lv_room (Nat.le_of_ble_eq_true rfl)) dX5_mind_16 ⟨Nat.zero_le _, Nat.zero_le _⟩) hP hD hS hA [] rfl rfl rfl (fun H locs hz5 hP hD hS => ?_)
        refine lv_if_ne (tgt := 24) hx hb dX5_mind_19 (by decide) (fun c6 => ?_) (fun c6 => ?_)
        · replace hf := if_fe c6 hf
          refine lv_aload_n hx hb dX5_mind_24 rfl (lv_at hl 0 rfl) ?_
          refine va_get (D := D) (ci := 5) (v := .ref qn0) (C := RX5) (T := TX5) (N := 11) hx hb hts hi_RX5 hown hK hP 0 rfl rfl 0 (by decide) (hts (.fieldLink RX5 10 "TravelMarks" "now" "LTravelMarks$Port;") (List.mem_of_getElem? (i := 1) rfl)) (fun _ h9 => h9) rfl dX5_mind_25 ?_
          refine va_get (D := D) (ci := 1) (v := .ref qn2) (C := RX1) (T := TX1) (N := 10) hx hb hts hi_RX1 hown hK hP 1 rfl rfl 1 (by decide) (hts (.fieldLink RX5 114 "TravelMarks$Port" "kind" "[I") (List.mem_of_getElem? (i := 2) rfl)) (fun _ h9 => h9) rfl dX5_mind_28 ?_
          refine lv_iload_n hx hb dX5_mind_31 rfl (lv_at hl 1 rfl) ?_
          obtain ⟨y8, ey8, hi7, hf⟩ := rdA_x hf
          refine va_iald hx hb hK hP 3 0 rfl rfl hi7 dX5_mind_32 ?_
          refine lv_ren ey8 ?_
          refine lv_istore (lv' := [(4, .int y8), (0, .ref q0), (1, .int x0), (2, .int x1), (3, .int x2)]) hx hb dX5_mind_33 hl (by decide) rfl (fun ls hl => ?_)
          refine lv_aload_n hx hb dX5_mind_35 rfl (lv_at hl 1 rfl) ?_
          refine va_get (D := D) (ci := 5) (v := .ref qn0) (C := RX5) (T := TX5) (N := 11) hx hb hts hi_RX5 hown hK hP 0 rfl rfl 0 (by decide) (hts (.fieldLink RX5 10 "TravelMarks" "now" "LTravelMarks$Port;") (List.mem_of_getElem? (i := 1) rfl)) (fun _ h9 => h9) rfl dX5_mind_36 ?_
          refine va_get (D := D) (ci := 1) (v := .ref qn2) (C := RX1) (T := TX1) (N := 10) hx hb hts hi_RX1 hown hK hP 1 rfl rfl 1 (by decide) (hts (.fieldLink RX5 114 "TravelMarks$Port" "kind" "[I") (List.mem_of_getElem? (i := 2) rfl)) (fun _ h9 => h9) rfl dX5_mind_39 ?_
          refine lv_iload_n hx hb dX5_mind_42 rfl (lv_at hl 2 rfl) ?_
          refine lv_iload_n hx hb dX5_mind_43 rfl (lv_at hl 3 rfl) ?_
          obtain ⟨hi9, hf⟩ := ckA_e hf
          refine va_iast hx hb hK hP hD hS 3 0 rfl rfl hi9 dX5_mind_44 (fun H locs hP hD hS => ?_)
          obtain ⟨v10, ev10, hf⟩ := lj_e hf
          have hP : va_P D vwCl (oTM q0 qn0 qk0 qr0 qc0 qt0 qd0 qs0 qf0 qw0 rowCount anyKept (oPort C qn0 qn1 qn2 qn3 qn4 qn5 qn6 v10 [])) H := by rw [ev10]; exact hP
          have hD : va_D A (oTM q0 qn0 qk0 qr0 qc0 qt0 qd0 qs0 qf0 qw0 rowCount anyKept (oPort C qn0 qn1 qn2 qn3 qn4 qn5 qn6 v10 [])) := by rw [ev10]; exact hD
          refine lv_aload_n hx hb dX5_mind_45 rfl (lv_at hl 1 rfl) ?_
          refine va_get (D := D) (ci := 5) (v := .ref qn0) (C := RX5) (T := TX5) (N := 11) hx hb hts hi_RX5 hown hK hP 0 rfl rfl 0 (by decide) (hts (.fieldLink RX5 10 "TravelMarks" "now" "LTravelMarks$Port;") (List.mem_of_getElem? (i := 1) rfl)) (fun _ h9 => h9) rfl dX5_mind_46 ?_
          refine va_get (D := D) (ci := 1) (v := .ref qn3) (C := RX1) (T := TX1) (N := 10) hx hb hts hi_RX1 hown hK hP 1 rfl rfl 2 (by decide) (hts (.fieldLink RX5 117 "TravelMarks$Port" "ink" "[I") (List.mem_of_getElem? (i := 3) rfl)) (fun _ h9 => h9) rfl dX5_mind_49 ?_
          refine lv_iload_n hx hb dX5_mind_52 rfl (lv_at hl 2 rfl) ?_
          refine lv_iload_n hx hb dX5_mind_53 rfl (lv_at hl 4 rfl) ?_
          obtain ⟨hi11, hf⟩ := ckA_e hf
          refine va_iast hx hb hK hP hD hS 4 0 rfl rfl hi11 dX5_mind_54 (fun H locs hP hD hS => ?_)
          obtain ⟨v12, ev12, hf⟩ := lj_e hf
          have hP : va_P D vwCl (oTM q0 qn0 qk0 qr0 qc0 qt0 qd0 qs0 qf0 qw0 rowCount anyKept (oPort C qn0 qn1 qn2 qn3 qn4 qn5 qn6 v12 [])) H := by rw [ev12]; exact hP
          have hD : va_D A (oTM q0 qn0 qk0 qr0 qc0 qt0 qd0 qs0 qf0 qw0 rowCount anyKept (oPort C qn0 qn1 qn2 qn3 qn4 qn5 qn6 v12 [])) := by rw [ev12]; exact hD
          refine lv_iload hx hb dX5_mind_55 (lv_at hl 0 rfl) ?_
          cases hf
          exact kri hQ hAe hx hb hr hlocks hP hD hK hS dX5_mind_57
        · replace hf := if_te c6 hf
          refine lv_iconst (v := (-1)) hx hb dX5_mind_22 rfl ?_
          cases hf
          exact kri hQ hAe hx hb hr hlocks hP hD hK hS dX5_mind_23
  exact main _ _ hP hD hS

def rmX5_move : Room := { frames := 2, cells := 0, slots := 0, locals := 43 }
theorem hdX5_move : yX5_move.cls = RX5 ∧ yX5_move.cls ≠ "java/lang/invoke/MethodHandle" ∧ yX5_move.cls ≠ "java/lang/invoke/VarHandle" ∧ (parseMethodDescriptor yX5_move.desc).map (fun d => d.parameters.length) = some 2 := by decide +kernel
set_option maxHeartbeats 40000000 in
set_option maxRecDepth 100000 in
theorem c_X5_move (l : Launch) (E : Nat → Nat) (D : va_G) (C : Nat → ClassId) (q0 qn0 qk0 qr0 qc0 qt0 qd0 qs0 qf0 qw0 qn1 qn2 qn3 qn4 qn5 qn6 : Nat) (sz : Nat) (rowCount : Int32) (anyKept : Int32) (now : PV) (x0 : Int32) (x1 : Int32) (r : Int32) (now' : PV) (hf : f_X5_move now x0 x1 = some (r, now')) : Met l yX5_move wsX5_move rmX5_move (PC E D C [.ref q0, .int x0, .int x1] (oTM q0 qn0 qk0 qr0 qc0 qt0 qd0 qs0 qf0 qw0 rowCount anyKept (oPort C qn0 qn1 qn2 qn3 qn4 qn5 qn6 now [])) sz) (QI D C (oTM q0 qn0 qk0 qr0 qc0 qt0 qd0 qs0 qf0 qw0 rowCount anyKept (oPort C qn0 qn1 qn2 qn3 qn4 qn5 qn6 now [])) (oTM q0 qn0 qk0 qr0 qc0 qt0 qd0 qs0 qf0 qw0 rowCount anyKept (oPort C qn0 qn1 qn2 qn3 qn4 qn5 qn6 (now') [])) sz r) 0 0 (va_A (oTM q0 qn0 qk0 qr0 qc0 qt0 qd0 qs0 qf0 qw0 rowCount anyKept (oPort C qn0 qn1 qn2 qn3 qn4 qn5 qn6 now [])) sz) := by
  refine Met.ofW (cc := cX5_move) (maxL := 4) (ret := (some .int)) (by decide) rfl ?_
  intro p e s m args below meth c s₁ B hml hv
  obtain ⟨rfl, hsz, hP, hK, hD0, hE⟩ := hv
  have hx := B.exec
  have hb := B.bytes
  have hr := B.returns
  have hts := atoms_spec (ws := wsX5_move) B.pre
  have hown : s.vm.findClass RX5 = some m.cls := findClass_of_methodNamed B.named
  have hlocks := B.notSynchronized
  subst hsz
  have hi_RX1 : ∀ w ∈ wsX10, w ∈ wsX5_move := fun _ h => List.mem_cons_of_mem _ (List.mem_append_right _ h)
  have hi_RX5 : ∀ w ∈ wsX50, w ∈ wsX5_move := fun _ h => List.mem_cons_of_mem _ (List.mem_append_left _ (List.mem_append_right _ h))
  have hD := hD0.self (sz := s.heap.size)
  obtain ⟨A, hAe⟩ := nm_ex (va_A (oTM q0 qn0 qk0 qr0 qc0 qt0 qd0 qs0 qf0 qw0 rowCount anyKept (oPort C qn0 qn1 qn2 qn3 qn4 qn5 qn6 now [])) s.heap.size)
  rw [← hAe] at hD hE ⊢
  have hA : ∀ q : Nat, s.heap.size ≤ q → A q := fun q h => by rw [hAe]; exact Or.inr h
  have hS : va_S A s.heap s.heap [] := va_S.rf
  have hl := lv_entry ([.ref q0, .int x0, .int x1]) (n := 4) (Nat.le_of_ble_eq_true rfl)
  rw [lg_entry_eq]
  generalize (lg_sl ([.ref q0, .int x0, .int x1]) ++ List.replicate (4 - (lg_sl ([.ref q0, .int x0, .int x1])).length) Slot.unset).toArray = ls at hl ⊢
  have hl : lv_has ls 4 [(0, .ref q0), (1, .int x0), (2, .int x1)] := hl
  obtain ⟨Q, hQ⟩ := nm_ex (MQ below (QI D C (oTM q0 qn0 qk0 qr0 qc0 qt0 qd0 qs0 qf0 qw0 rowCount anyKept (oPort C qn0 qn1 qn2 qn3 qn4 qn5 qn6 now [])) (oTM q0 qn0 qk0 qr0 qc0 qt0 qd0 qs0 qf0 qw0 rowCount anyKept (oPort C qn0 qn1 qn2 qn3 qn4 qn5 qn6 (now') [])) s.heap.size r) (List.toArray [Value.ref q0, Value.int x0, Value.int x1]) s 0 0 A)
  show W p l e (headSpec wsX5_move (rmX5_move)).room s m (List.toArray [Value.ref q0, Value.int x0, Value.int x1]) below meth c s.heap [] 0 0 (MQ below (QI D C (oTM q0 qn0 qk0 qr0 qc0 qt0 qd0 qs0 qf0 qw0 rowCount anyKept (oPort C qn0 qn1 qn2 qn3 qn4 qn5 qn6 now [])) (oTM q0 qn0 qk0 qr0 qc0 qt0 qd0 qs0 qf0 qw0 rowCount anyKept (oPort C qn0 qn1 qn2 qn3 qn4 qn5 qn6 (now') [])) s.heap.size r) (List.toArray [Value.ref q0, Value.int x0, Value.int x1]) s 0 0 A) _
  rw [← hQ]
  unfold f_X5_move at hf
  have main : ∀ (H : Heap) (locs : List Loc), va_P D vwCl (oTM q0 qn0 qk0 qr0 qc0 qt0 qd0 qs0 qf0 qw0 rowCount anyKept (oPort C qn0 qn1 qn2 qn3 qn4 qn5 qn6 now [])) H → va_D A (oTM q0 qn0 qk0 qr0 qc0 qt0 qd0 qs0 qf0 qw0 rowCount anyKept (oPort C qn0 qn1 qn2 qn3 qn4 qn5 qn6 now [])) → va_S A s.heap H locs → W p l e (headSpec wsX5_move (rmX5_move)).room s m (List.toArray [Value.ref q0, Value.int x0, Value.int x1]) below meth c H locs 0 0 Q (F0 m 0 ls []) := by
    intro H locs hP hD hS
    refine lv_aload_n hx hb dX5_move_0 rfl (lv_at hl 0 rfl) ?_
    refine lv_iload_n hx hb dX5_move_1 rfl (lv_at hl 1 rfl) ?_
    refine kcz (Wx := (oTM q0 qn0 qk0 qr0 qc0 qt0 qd0 qs0 qf0 qw0 rowCount anyKept (oPort C qn0 qn1 qn2 qn3 qn4 qn5 qn6 now []))) (va_runV (As := [.int x0]) (rest := []) ⟨hx, hb, hml, hown, hts⟩ (c_X5_isMark l E D C q0 qn0 qk0 qr0 qc0 qt0 qd0 qs0 qf0 qw0 qn1 qn2 qn3 qn4 qn5 qn6 H.size rowCount anyKept now x0 _ rfl) (cwV 1 hts gX5_move_X5_isMark rfl rfl rfl hdX5_isMark ⟨Nat.le_of_ble_eq_true rfl, Nat.le_of_ble_eq_true rfl⟩) (kpreV hP hD hK hS hE hA [0, 1, 2, 3, 4, 5, 6, 7] rfl rfl 0 rfl rfl rfl) rfl rfl hl.1 rfl (lv_room (Nat.le_of_ble_eq_true rfl)) dX5_move_2 ⟨Nat.zero_le _, Nat.zero_le _⟩) hP hD hS hA [0, 1, 2, 3, 4, 5, 6, 7] rfl rfl rfl (fun H locs hz1 hP hD hS => ?_)
    refine lv_if_eq (tgt := 15) hx hb dX5_move_5 (by decide) (fun c2 => ?_) (fun c2 => ?_)
    · replace hf := if_te c2 hf
      refine lv_iconst (v := (-1)) hx hb dX5_move_15 rfl ?_
      cases hf
      exact kri hQ hAe hx hb hr hlocks hP hD hK hS dX5_move_16
    · replace hf := if_fe c2 hf
      refine lv_iload_n hx hb dX5_move_8 rfl (lv_at hl 2 rfl) ?_
      refine kcz (Wx := (oTM q0 qn0 qk0 qr0 qc0 qt0 qd0 qs0 qf0 qw0 rowCount anyKept (oPort C qn0 qn1 qn2 qn3 qn4 qn5 qn6 now []))) (va_runS (As := [.int x1]) (rest := []) ⟨hx, hb, hml, hown, hts⟩ (c_X5_isOne l E D C H.size x1 _ rfl) (va_cwS 1 hts gX5_move_X5_isOne rfl rfl rfl hdX5_isOne ⟨Nat.le_of_ble_eq_true rfl, Nat.le_of_ble_eq_true rfl⟩) (kpre hP hD hK hS hE hA [] rfl rfl) rfl rfl hl.1 rfl (lv_room (Nat.le_of_ble_eq_true rfl)) dX5_move_9 ⟨Nat.zero_le _, Nat.zero_le _⟩) hP hD hS hA [] rfl rfl rfl (fun H locs hz3 hP hD hS => ?_)
      refine lv_if_ne (tgt := 17) hx hb dX5_move_12 (by decide) (fun c4 => ?_) (fun c4 => ?_)
      · replace hf := if_fe c4 hf
        refine lv_aload_n hx hb dX5_move_17 rfl (lv_at hl 0 rfl) ?_
        refine va_get (D := D) (ci := 5) (v := .ref qn0) (C := RX5) (T := TX5) (N := 11) hx hb hts hi_RX5 hown hK hP 0 rfl rfl 0 (by decide) (hts (.fieldLink RX5 10 "TravelMarks" "now" "LTravelMarks$Port;") (List.mem_of_getElem? (i := 1) rfl)) (fun _ h9 => h9) rfl dX5_move_18 ?_
        refine va_get (D := D) (ci := 1) (v := .ref qn4) (C := RX1) (T := TX1) (N := 10) hx hb hts hi_RX1 hown hK hP 1 rfl rfl 3 (by decide) (hts (.fieldLink RX5 120 "TravelMarks$Port" "on" "[I") (List.mem_of_getElem? (i := 2) rfl)) (fun _ h9 => h9) rfl dX5_move_21 ?_
        refine lv_iload_n hx hb dX5_move_24 rfl (lv_at hl 1 rfl) ?_
        obtain ⟨y6, ey6, hi5, hf⟩ := rdA_x hf
        refine va_iald hx hb hK hP 5 0 rfl rfl hi5 dX5_move_25 ?_
        refine lv_ren ey6 ?_
        refine lv_istore_n (lv' := [(3, .int y6), (0, .ref q0), (1, .int x0), (2, .int x1)]) hx hb dX5_move_26 rfl hl (by decide) rfl (fun ls hl => ?_)
        refine lv_aload_n hx hb dX5_move_27 rfl (lv_at hl 1 rfl) ?_
        refine va_get (D := D) (ci := 5) (v := .ref qn0) (C := RX5) (T := TX5) (N := 11) hx hb hts hi_RX5 hown hK hP 0 rfl rfl 0 (by decide) (hts (.fieldLink RX5 10 "TravelMarks" "now" "LTravelMarks$Port;") (List.mem_of_getElem? (i := 1) rfl)) (fun _ h9 => h9) rfl dX5_move_28 ?_
        refine va_get (D := D) (ci := 1) (v := .ref qn4) (C := RX1) (T := TX1) (N := 10) hx hb hts hi_RX1 hown hK hP 1 rfl rfl 3 (by decide) (hts (.fieldLink RX5 120 "TravelMarks$Port" "on" "[I") (List.mem_of_getElem? (i := 2) rfl)) (fun _ h9 => h9) rfl dX5_move_31 ?_
        refine lv_iload_n hx hb dX5_move_34 rfl (lv_at hl 2 rfl) ?_
        refine lv_iload_n hx hb dX5_move_35 rfl (lv_at hl 3 rfl) ?_
        obtain ⟨hi7, hf⟩ := ckA_e hf
        refine va_iast hx hb hK hP hD hS 5 0 rfl rfl hi7 dX5_move_36 (fun H locs hP hD hS => ?_)
        obtain ⟨v8, ev8, hf⟩ := lj_e hf
        have hP : va_P D vwCl (oTM q0 qn0 qk0 qr0 qc0 qt0 qd0 qs0 qf0 qw0 rowCount anyKept (oPort C qn0 qn1 qn2 qn3 qn4 qn5 qn6 v8 [])) H := by rw [ev8]; exact hP
        have hD : va_D A (oTM q0 qn0 qk0 qr0 qc0 qt0 qd0 qs0 qf0 qw0 rowCount anyKept (oPort C qn0 qn1 qn2 qn3 qn4 qn5 qn6 v8 [])) := by rw [ev8]; exact hD
        refine lv_iload_n hx hb dX5_move_37 rfl (lv_at hl 0 rfl) ?_
        cases hf
        exact kri hQ hAe hx hb hr hlocks hP hD hK hS dX5_move_38
      · replace hf := if_te c4 hf
        refine lv_iconst (v := (-1)) hx hb dX5_move_15 rfl ?_
        cases hf
        exact kri hQ hAe hx hb hr hlocks hP hD hK hS dX5_move_16
  exact main _ _ hP hD hS

def rmX5_touch : Room := { frames := 2, cells := 0, slots := 0, locals := 42 }
theorem hdX5_touch : yX5_touch.cls = RX5 ∧ yX5_touch.cls ≠ "java/lang/invoke/MethodHandle" ∧ yX5_touch.cls ≠ "java/lang/invoke/VarHandle" ∧ (parseMethodDescriptor yX5_touch.desc).map (fun d => d.parameters.length) = some 3 := by decide +kernel
set_option maxHeartbeats 40000000 in
set_option maxRecDepth 100000 in
theorem c_X5_touch (l : Launch) (E : Nat → Nat) (D : va_G) (C : Nat → ClassId) (q0 qn0 qk0 qr0 qc0 qt0 qd0 qs0 qf0 qw0 qn1 qn2 qn3 qn4 qn5 qn6 : Nat) (sz : Nat) (rowCount : Int32) (anyKept : Int32) (now : PV) (x0 : Int32) (x1 : Int32) (x2 : Int32) (r : Int32) (now' : PV) (hf : f_X5_touch now x0 x1 x2 = some (r, now')) : Met l yX5_touch wsX5_touch rmX5_touch (PC E D C [.ref q0, .int x0, .int x1, .int x2] (oTM q0 qn0 qk0 qr0 qc0 qt0 qd0 qs0 qf0 qw0 rowCount anyKept (oPort C qn0 qn1 qn2 qn3 qn4 qn5 qn6 now [])) sz) (QI D C (oTM q0 qn0 qk0 qr0 qc0 qt0 qd0 qs0 qf0 qw0 rowCount anyKept (oPort C qn0 qn1 qn2 qn3 qn4 qn5 qn6 now [])) (oTM q0 qn0 qk0 qr0 qc0 qt0 qd0 qs0 qf0 qw0 rowCount anyKept (oPort C qn0 qn1 qn2 qn3 qn4 qn5 qn6 (now') [])) sz r) 0 0 (va_A (oTM q0 qn0 qk0 qr0 qc0 qt0 qd0 qs0 qf0 qw0 rowCount anyKept (oPort C qn0 qn1 qn2 qn3 qn4 qn5 qn6 now [])) sz) := by
  refine Met.ofW (cc := cX5_touch) (maxL := 4) (ret := (some .int)) (by decide) rfl ?_
  intro p e s m args below meth c s₁ B hml hv
  obtain ⟨rfl, hsz, hP, hK, hD0, hE⟩ := hv
  have hx := B.exec
  have hb := B.bytes
  have hr := B.returns
  have hts := atoms_spec (ws := wsX5_touch) B.pre
  have hown : s.vm.findClass RX5 = some m.cls := findClass_of_methodNamed B.named
  have hlocks := B.notSynchronized
  subst hsz
  have hi_RX5 : ∀ w ∈ wsX50, w ∈ wsX5_touch := fun _ h => List.mem_cons_of_mem _ (List.mem_append_left _ (List.mem_append_right _ h))
  have hD := hD0.self (sz := s.heap.size)
  obtain ⟨A, hAe⟩ := nm_ex (va_A (oTM q0 qn0 qk0 qr0 qc0 qt0 qd0 qs0 qf0 qw0 rowCount anyKept (oPort C qn0 qn1 qn2 qn3 qn4 qn5 qn6 now [])) s.heap.size)
  rw [← hAe] at hD hE ⊢
  have hA : ∀ q : Nat, s.heap.size ≤ q → A q := fun q h => by rw [hAe]; exact Or.inr h
  have hS : va_S A s.heap s.heap [] := va_S.rf
  have hl := lv_entry ([.ref q0, .int x0, .int x1, .int x2]) (n := 4) (Nat.le_of_ble_eq_true rfl)
  rw [lg_entry_eq]
  generalize (lg_sl ([.ref q0, .int x0, .int x1, .int x2]) ++ List.replicate (4 - (lg_sl ([.ref q0, .int x0, .int x1, .int x2])).length) Slot.unset).toArray = ls at hl ⊢
  have hl : lv_has ls 4 [(0, .ref q0), (1, .int x0), (2, .int x1), (3, .int x2)] := hl
  obtain ⟨Q, hQ⟩ := nm_ex (MQ below (QI D C (oTM q0 qn0 qk0 qr0 qc0 qt0 qd0 qs0 qf0 qw0 rowCount anyKept (oPort C qn0 qn1 qn2 qn3 qn4 qn5 qn6 now [])) (oTM q0 qn0 qk0 qr0 qc0 qt0 qd0 qs0 qf0 qw0 rowCount anyKept (oPort C qn0 qn1 qn2 qn3 qn4 qn5 qn6 (now') [])) s.heap.size r) (List.toArray [Value.ref q0, Value.int x0, Value.int x1, Value.int x2]) s 0 0 A)
  show W p l e (headSpec wsX5_touch (rmX5_touch)).room s m (List.toArray [Value.ref q0, Value.int x0, Value.int x1, Value.int x2]) below meth c s.heap [] 0 0 (MQ below (QI D C (oTM q0 qn0 qk0 qr0 qc0 qt0 qd0 qs0 qf0 qw0 rowCount anyKept (oPort C qn0 qn1 qn2 qn3 qn4 qn5 qn6 now [])) (oTM q0 qn0 qk0 qr0 qc0 qt0 qd0 qs0 qf0 qw0 rowCount anyKept (oPort C qn0 qn1 qn2 qn3 qn4 qn5 qn6 (now') [])) s.heap.size r) (List.toArray [Value.ref q0, Value.int x0, Value.int x1, Value.int x2]) s 0 0 A) _
  rw [← hQ]
  unfold f_X5_touch at hf
  have main : ∀ (H : Heap) (locs : List Loc), va_P D vwCl (oTM q0 qn0 qk0 qr0 qc0 qt0 qd0 qs0 qf0 qw0 rowCount anyKept (oPort C qn0 qn1 qn2 qn3 qn4 qn5 qn6 now [])) H → va_D A (oTM q0 qn0 qk0 qr0 qc0 qt0 qd0 qs0 qf0 qw0 rowCount anyKept (oPort C qn0 qn1 qn2 qn3 qn4 qn5 qn6 now [])) → va_S A s.heap H locs → W p l e (headSpec wsX5_touch (rmX5_touch)).room s m (List.toArray [Value.ref q0, Value.int x0, Value.int x1, Value.int x2]) below meth c H locs 0 0 Q (F0 m 0 ls []) := by
    intro H locs hP hD hS
    refine lv_iload_n hx hb dX5_touch_0 rfl (lv_at hl 1 rfl) ?_
    refine kcz (Wx := (oTM q0 qn0 qk0 qr0 qc0 qt0 qd0 qs0 qf0 qw0 rowCount anyKept (oPort C qn0 qn1 qn2 qn3 qn4 qn5 qn6 now []))) (va_runS (As := [.int x0]) (rest := []) ⟨hx, hb, hml, hown, hts⟩ (c_X5_isRest l E D C H.size x0 _ rfl) (va_cwS 1 hts gX5_touch_X5_isRest rfl rfl rfl hdX5_isRest ⟨Nat.le_of_ble_eq_true rfl, Nat.le_of_ble_eq_true rfl⟩) (kpre hP hD hK hS hE hA [] rfl rfl) rfl rfl hl.1 rfl (lv_room (Nat.le_of_ble_eq_true rfl)) dX5_touch_1 ⟨Nat.zero_le _, Nat.zero_le _⟩) hP hD hS hA [] rfl rfl rfl (fun H locs hz1 hP hD hS => ?_)
    refine lv_if_eq (tgt := 26) hx hb dX5_touch_4 (by decide) (fun c2 => ?_) (fun c2 => ?_)
    · replace hf := if_te c2 hf
      refine lv_iconst (v := (-1)) hx hb dX5_touch_26 rfl ?_
      cases hf
      exact kri hQ hAe hx hb hr hlocks hP hD hK hS dX5_touch_27
    · replace hf := if_fe c2 hf
      refine lv_iload_n hx hb dX5_touch_7 rfl (lv_at hl 2 rfl) ?_
      refine kcz (Wx := (oTM q0 qn0 qk0 qr0 qc0 qt0 qd0 qs0 qf0 qw0 rowCount anyKept (oPort C qn0 qn1 qn2 qn3 qn4 qn5 qn6 now []))) (va_runS (As := [.int x1]) (rest := []) ⟨hx, hb, hml, hown, hts⟩ (c_X5_isOne l E D C H.size x1 _ rfl) (va_cwS 1 hts gX5_touch_X5_isOne rfl rfl rfl hdX5_isOne ⟨Nat.le_of_ble_eq_true rfl, Nat.le_of_ble_eq_true rfl⟩) (kpre hP hD hK hS hE hA [] rfl rfl) rfl rfl hl.1 rfl (lv_room (Nat.le_of_ble_eq_true rfl)) dX5_touch_8 ⟨Nat.zero_le _, Nat.zero_le _⟩) hP hD hS hA [] rfl rfl rfl (fun H locs hz3 hP hD hS => ?_)
      refine lv_if_eq (tgt := 26) hx hb dX5_touch_11 (by decide) (fun c4 => ?_) (fun c4 => ?_)
      · replace hf := if_te c4 hf
        refine lv_iconst (v := (-1)) hx hb dX5_touch_26 rfl ?_
        cases hf
        exact kri hQ hAe hx hb hr hlocks hP hD hK hS dX5_touch_27
      · replace hf := if_fe c4 hf
        refine lv_iload_n hx hb dX5_touch_14 rfl (lv_at hl 3 rfl) ?_
        refine kcz (Wx := (oTM q0 qn0 qk0 qr0 qc0 qt0 qd0 qs0 qf0 qw0 rowCount anyKept (oPort C qn0 qn1 qn2 qn3 qn4 qn5 qn6 now []))) (va_runS (As := [.int x2]) (rest := []) ⟨hx, hb, hml, hown, hts⟩ (c_X5_isOne l E D C H.size x2 _ rfl) (va_cwS 1 hts gX5_touch_X5_isOne rfl rfl rfl hdX5_isOne ⟨Nat.le_of_ble_eq_true rfl, Nat.le_of_ble_eq_true rfl⟩) (kpre hP hD hK hS hE hA [] rfl rfl) rfl rfl hl.1 rfl (lv_room (Nat.le_of_ble_eq_true rfl)) dX5_touch_15 ⟨Nat.zero_le _, Nat.zero_le _⟩) hP hD hS hA [] rfl rfl rfl (fun H locs hz5 hP hD hS => ?_)
        refine lv_if_eq (tgt := 26) hx hb dX5_touch_18 (by decide) (fun c6 => ?_) (fun c6 => ?_)
        · replace hf := if_te c6 hf
          refine lv_iconst (v := (-1)) hx hb dX5_touch_26 rfl ?_
          cases hf
          exact kri hQ hAe hx hb hr hlocks hP hD hK hS dX5_touch_27
        · replace hf := if_fe c6 hf
          refine lv_iload_n hx hb dX5_touch_21 rfl (lv_at hl 2 rfl) ?_
          refine lv_iload_n hx hb dX5_touch_22 rfl (lv_at hl 3 rfl) ?_
          refine lv_icmp_ne (tgt := 28) hx hb dX5_touch_23 (by decide) (fun c7 => ?_) (fun c7 => ?_)
          · replace hf := if_fe c7 hf
            refine lv_aload_n hx hb dX5_touch_28 rfl (lv_at hl 0 rfl) ?_
            refine va_get (D := D) (ci := 5) (v := .ref qn0) (C := RX5) (T := TX5) (N := 11) hx hb hts hi_RX5 hown hK hP 0 rfl rfl 0 (by decide) (hts (.fieldLink RX5 10 "TravelMarks" "now" "LTravelMarks$Port;") (List.mem_of_getElem? (i := 1) rfl)) (fun _ h9 => h9) rfl dX5_touch_29 ?_
            refine lv_iload_n hx hb dX5_touch_32 rfl (lv_at hl 1 rfl) ?_
            refine lv_iload_n hx hb dX5_touch_33 rfl (lv_at hl 2 rfl) ?_
            refine lv_iload_n hx hb dX5_touch_34 rfl (lv_at hl 3 rfl) ?_
            obtain ⟨v8, h9, hf⟩ := ob1_e hf
            refine kcv (Wx := (oTM q0 qn0 qk0 qr0 qc0 qt0 qd0 qs0 qf0 qw0 rowCount anyKept (oPort C qn0 qn1 qn2 qn3 qn4 qn5 qn6 v8 []))) (va_runV (As := [.int x0, .int x1, .int x2]) (rest := []) ⟨hx, hb, hml, hown, hts⟩ (c_X1_join l E D C qn0 qn1 qn2 qn3 qn4 qn5 qn6 H.size now x0 x1 x2 v8 h9) (cwV 3 hts gX5_touch_X1_join rfl rfl rfl hdX1_join ⟨Nat.le_of_ble_eq_true rfl, Nat.le_of_ble_eq_true rfl⟩) (kpreV hP hD hK hS hE hA [1, 2, 3, 4, 5, 6, 7] rfl rfl 1 rfl rfl rfl) rfl rfl hl.1 rfl (lv_room (Nat.le_of_ble_eq_true rfl)) dX5_touch_35 ⟨Nat.zero_le _, Nat.zero_le _⟩) hP hD hS hA [1, 2, 3, 4, 5, 6, 7] rfl rfl rfl (fun H locs hP hD hS => ?_)
            refine lv_iconst (v := 1) hx hb dX5_touch_38 rfl ?_
            cases hf
            exact kri hQ hAe hx hb hr hlocks hP hD hK hS dX5_touch_39
          · replace hf := if_te c7 hf
            refine lv_iconst (v := (-1)) hx hb dX5_touch_26 rfl ?_
            cases hf
            exact kri hQ hAe hx hb hr hlocks hP hD hK hS dX5_touch_27
  exact main _ _ hP hD hS

def rmX5_part : Room := { frames := 2, cells := 0, slots := 0, locals := 42 }
theorem hdX5_part : yX5_part.cls = RX5 ∧ yX5_part.cls ≠ "java/lang/invoke/MethodHandle" ∧ yX5_part.cls ≠ "java/lang/invoke/VarHandle" ∧ (parseMethodDescriptor yX5_part.desc).map (fun d => d.parameters.length) = some 1 := by decide +kernel
set_option maxHeartbeats 40000000 in
set_option maxRecDepth 100000 in
theorem c_X5_part (l : Launch) (E : Nat → Nat) (D : va_G) (C : Nat → ClassId) (q0 qn0 qk0 qr0 qc0 qt0 qd0 qs0 qf0 qw0 qn1 qn2 qn3 qn4 qn5 qn6 : Nat) (sz : Nat) (rowCount : Int32) (anyKept : Int32) (now : PV) (x0 : Int32) (r : Int32) (now' : PV) (hf : f_X5_part now x0 = some (r, now')) : Met l yX5_part wsX5_part rmX5_part (PC E D C [.ref q0, .int x0] (oTM q0 qn0 qk0 qr0 qc0 qt0 qd0 qs0 qf0 qw0 rowCount anyKept (oPort C qn0 qn1 qn2 qn3 qn4 qn5 qn6 now [])) sz) (QI D C (oTM q0 qn0 qk0 qr0 qc0 qt0 qd0 qs0 qf0 qw0 rowCount anyKept (oPort C qn0 qn1 qn2 qn3 qn4 qn5 qn6 now [])) (oTM q0 qn0 qk0 qr0 qc0 qt0 qd0 qs0 qf0 qw0 rowCount anyKept (oPort C qn0 qn1 qn2 qn3 qn4 qn5 qn6 (now') [])) sz r) 0 0 (va_A (oTM q0 qn0 qk0 qr0 qc0 qt0 qd0 qs0 qf0 qw0 rowCount anyKept (oPort C qn0 qn1 qn2 qn3 qn4 qn5 qn6 now [])) sz) := by
  refine Met.ofW (cc := cX5_part) (maxL := 3) (ret := (some .int)) (by decide) rfl ?_
  intro p e s m args below meth c s₁ B hml hv
  obtain ⟨rfl, hsz, hP, hK, hD0, hE⟩ := hv
  have hx := B.exec
  have hb := B.bytes
  have hr := B.returns
  have hts := atoms_spec (ws := wsX5_part) B.pre
  have hown : s.vm.findClass RX5 = some m.cls := findClass_of_methodNamed B.named
  have hlocks := B.notSynchronized
  subst hsz
  have hi_RX1 : ∀ w ∈ wsX10, w ∈ wsX5_part := fun _ h => List.mem_cons_of_mem _ (List.mem_append_right _ h)
  have hi_RX5 : ∀ w ∈ wsX50, w ∈ wsX5_part := fun _ h => List.mem_cons_of_mem _ (List.mem_append_left _ (List.mem_append_right _ h))
  have hD := hD0.self (sz := s.heap.size)
  obtain ⟨A, hAe⟩ := nm_ex (va_A (oTM q0 qn0 qk0 qr0 qc0 qt0 qd0 qs0 qf0 qw0 rowCount anyKept (oPort C qn0 qn1 qn2 qn3 qn4 qn5 qn6 now [])) s.heap.size)
  rw [← hAe] at hD hE ⊢
  have hA : ∀ q : Nat, s.heap.size ≤ q → A q := fun q h => by rw [hAe]; exact Or.inr h
  have hS : va_S A s.heap s.heap [] := va_S.rf
  have hl := lv_entry ([.ref q0, .int x0]) (n := 3) (Nat.le_of_ble_eq_true rfl)
  rw [lg_entry_eq]
  generalize (lg_sl ([.ref q0, .int x0]) ++ List.replicate (3 - (lg_sl ([.ref q0, .int x0])).length) Slot.unset).toArray = ls at hl ⊢
  have hl : lv_has ls 3 [(0, .ref q0), (1, .int x0)] := hl
  obtain ⟨Q, hQ⟩ := nm_ex (MQ below (QI D C (oTM q0 qn0 qk0 qr0 qc0 qt0 qd0 qs0 qf0 qw0 rowCount anyKept (oPort C qn0 qn1 qn2 qn3 qn4 qn5 qn6 now [])) (oTM q0 qn0 qk0 qr0 qc0 qt0 qd0 qs0 qf0 qw0 rowCount anyKept (oPort C qn0 qn1 qn2 qn3 qn4 qn5 qn6 (now') [])) s.heap.size r) (List.toArray [Value.ref q0, Value.int x0]) s 0 0 A)
  show W p l e (headSpec wsX5_part (rmX5_part)).room s m (List.toArray [Value.ref q0, Value.int x0]) below meth c s.heap [] 0 0 (MQ below (QI D C (oTM q0 qn0 qk0 qr0 qc0 qt0 qd0 qs0 qf0 qw0 rowCount anyKept (oPort C qn0 qn1 qn2 qn3 qn4 qn5 qn6 now [])) (oTM q0 qn0 qk0 qr0 qc0 qt0 qd0 qs0 qf0 qw0 rowCount anyKept (oPort C qn0 qn1 qn2 qn3 qn4 qn5 qn6 (now') [])) s.heap.size r) (List.toArray [Value.ref q0, Value.int x0]) s 0 0 A) _
  rw [← hQ]
  unfold f_X5_part at hf
  have main : ∀ (H : Heap) (locs : List Loc), va_P D vwCl (oTM q0 qn0 qk0 qr0 qc0 qt0 qd0 qs0 qf0 qw0 rowCount anyKept (oPort C qn0 qn1 qn2 qn3 qn4 qn5 qn6 now [])) H → va_D A (oTM q0 qn0 qk0 qr0 qc0 qt0 qd0 qs0 qf0 qw0 rowCount anyKept (oPort C qn0 qn1 qn2 qn3 qn4 qn5 qn6 now [])) → va_S A s.heap H locs → W p l e (headSpec wsX5_part (rmX5_part)).room s m (List.toArray [Value.ref q0, Value.int x0]) below meth c H locs 0 0 Q (F0 m 0 ls []) := by
    intro H locs hP hD hS
    refine lv_iload_n hx hb dX5_part_0 rfl (lv_at hl 1 rfl) ?_
    refine kcz (Wx := (oTM q0 qn0 qk0 qr0 qc0 qt0 qd0 qs0 qf0 qw0 rowCount anyKept (oPort C qn0 qn1 qn2 qn3 qn4 qn5 qn6 now []))) (va_runS (As := [.int x0]) (rest := []) ⟨hx, hb, hml, hown, hts⟩ (c_X5_isRest l E D C H.size x0 _ rfl) (va_cwS 1 hts gX5_part_X5_isRest rfl rfl rfl hdX5_isRest ⟨Nat.le_of_ble_eq_true rfl, Nat.le_of_ble_eq_true rfl⟩) (kpre hP hD hK hS hE hA [] rfl rfl) rfl rfl hl.1 rfl (lv_room (Nat.le_of_ble_eq_true rfl)) dX5_part_1 ⟨Nat.zero_le _, Nat.zero_le _⟩) hP hD hS hA [] rfl rfl rfl (fun H locs hz1 hP hD hS => ?_)
    refine lv_if_ne (tgt := 9) hx hb dX5_part_4 (by decide) (fun c2 => ?_) (fun c2 => ?_)
    · replace hf := if_fe c2 hf
      refine lv_aload_n hx hb dX5_part_9 rfl (lv_at hl 0 rfl) ?_
      refine va_get (D := D) (ci := 5) (v := .ref qn0) (C := RX5) (T := TX5) (N := 11) hx hb hts hi_RX5 hown hK hP 0 rfl rfl 0 (by decide) (hts (.fieldLink RX5 10 "TravelMarks" "now" "LTravelMarks$Port;") (List.mem_of_getElem? (i := 1) rfl)) (fun _ h9 => h9) rfl dX5_part_10 ?_
      refine va_get (D := D) (ci := 1) (v := .ref qn5) (C := RX1) (T := TX1) (N := 10) hx hb hts hi_RX1 hown hK hP 1 rfl rfl 4 (by decide) (hts (.fieldLink RX5 137 "TravelMarks$Port" "first" "[I") (List.mem_of_getElem? (i := 2) rfl)) (fun _ h9 => h9) rfl dX5_part_13 ?_
      refine lv_iload_n hx hb dX5_part_16 rfl (lv_at hl 1 rfl) ?_
      obtain ⟨y4, ey4, hi3, hf⟩ := rdA_x hf
      refine va_iald hx hb hK hP 6 0 rfl rfl hi3 dX5_part_17 ?_
      refine lv_ren ey4 ?_
      refine lv_iconst (v := (-1)) hx hb dX5_part_18 rfl ?_
      obtain ⟨j6, hj6, hf⟩ := lj_e hf
      have Hj6 : ∀ (k5 : Int32) (H : Heap) (locs : List Loc) (ls : Array Slot), va_P D vwCl (oTM q0 qn0 qk0 qr0 qc0 qt0 qd0 qs0 qf0 qw0 rowCount anyKept (oPort C qn0 qn1 qn2 qn3 qn4 qn5 qn6 now [])) H → va_D A (oTM q0 qn0 qk0 qr0 qc0 qt0 qd0 qs0 qf0 qw0 rowCount anyKept (oPort C qn0 qn1 qn2 qn3 qn4 qn5 qn6 now [])) → va_S A s.heap H locs → lv_has ls 3 [(0, .ref q0), (1, .int x0)] → j6 k5 = some (r, now') → W p l e (headSpec wsX5_part (rmX5_part)).room s m (List.toArray [Value.ref q0, Value.int x0]) below meth c H locs 0 0 Q (F0 m 27 ls [.int k5]) := by
        intro k5 H locs ls hP hD hS hl hf
        rw [hj6] at hf
        refine lv_istore_n (lv' := [(2, .int k5), (0, .ref q0), (1, .int x0)]) hx hb dX5_part_27 rfl hl (by decide) rfl (fun ls hl => ?_)
        refine lv_aload_n hx hb dX5_part_28 rfl (lv_at hl 1 rfl) ?_
        refine va_get (D := D) (ci := 5) (v := .ref qn0) (C := RX5) (T := TX5) (N := 11) hx hb hts hi_RX5 hown hK hP 0 rfl rfl 0 (by decide) (hts (.fieldLink RX5 10 "TravelMarks" "now" "LTravelMarks$Port;") (List.mem_of_getElem? (i := 1) rfl)) (fun _ h9 => h9) rfl dX5_part_29 ?_
        refine lv_iload_n hx hb dX5_part_32 rfl (lv_at hl 2 rfl) ?_
        refine lv_iconst (v := (-1)) hx hb dX5_part_33 rfl ?_
        refine lv_iconst (v := (-1)) hx hb dX5_part_34 rfl ?_
        obtain ⟨v7, h8, hf⟩ := ob1_e hf
        refine kcv (Wx := (oTM q0 qn0 qk0 qr0 qc0 qt0 qd0 qs0 qf0 qw0 rowCount anyKept (oPort C qn0 qn1 qn2 qn3 qn4 qn5 qn6 v7 []))) (va_runV (As := [.int x0, .int (-1), .int (-1)]) (rest := []) ⟨hx, hb, hml, hown, hts⟩ (c_X1_join l E D C qn0 qn1 qn2 qn3 qn4 qn5 qn6 H.size now x0 (-1) (-1) v7 h8) (cwV 3 hts gX5_part_X1_join rfl rfl rfl hdX1_join ⟨Nat.le_of_ble_eq_true rfl, Nat.le_of_ble_eq_true rfl⟩) (kpreV hP hD hK hS hE hA [1, 2, 3, 4, 5, 6, 7] rfl rfl 1 rfl rfl rfl) rfl rfl hl.1 rfl (lv_room (Nat.le_of_ble_eq_true rfl)) dX5_part_35 ⟨Nat.zero_le _, Nat.zero_le _⟩) hP hD hS hA [1, 2, 3, 4, 5, 6, 7] rfl rfl rfl (fun H locs hP hD hS => ?_)
        refine lv_iload_n hx hb dX5_part_38 rfl (lv_at hl 0 rfl) ?_
        refine lv_if_eq (tgt := 46) hx hb dX5_part_39 (by decide) (fun c9 => ?_) (fun c9 => ?_)
        · replace hf := if_te c9 hf
          refine lv_iconst (v := 0) hx hb dX5_part_46 rfl ?_
          cases hf
          exact kri hQ hAe hx hb hr hlocks hP hD hK hS dX5_part_47
        · replace hf := if_fe c9 hf
          refine lv_iconst (v := 1) hx hb dX5_part_42 rfl ?_
          refine lv_goto (tgt := 47) hx hb dX5_part_43 (by decide) ?_
          cases hf
          exact kri hQ hAe hx hb hr hlocks hP hD hK hS dX5_part_47
      refine lv_icmp_eq (tgt := 26) hx hb dX5_part_19 (by decide) (fun c10 => ?_) (fun c10 => ?_)
      · replace hf := if_te c10 hf
        refine lv_iconst (v := 0) hx hb dX5_part_26 rfl ?_
        exact Hj6 0 H locs ls hP hD hS (lv_sub hl [0, 1] rfl) hf
      · replace hf := if_fe c10 hf
        refine lv_iconst (v := 1) hx hb dX5_part_22 rfl ?_
        refine lv_goto (tgt := 27) hx hb dX5_part_23 (by decide) ?_
        exact Hj6 1 H locs ls hP hD hS (lv_sub hl [0, 1] rfl) hf
    · replace hf := if_te c2 hf
      refine lv_iconst (v := (-1)) hx hb dX5_part_7 rfl ?_
      cases hf
      exact kri hQ hAe hx hb hr hlocks hP hD hK hS dX5_part_8
  exact main _ _ hP hD hS

def rmX5_touchOf : Room := { frames := 2, cells := 0, slots := 0, locals := 42 }
theorem hdX5_touchOf : yX5_touchOf.cls = RX5 ∧ yX5_touchOf.cls ≠ "java/lang/invoke/MethodHandle" ∧ yX5_touchOf.cls ≠ "java/lang/invoke/VarHandle" ∧ (parseMethodDescriptor yX5_touchOf.desc).map (fun d => d.parameters.length) = some 2 := by decide +kernel
set_option maxHeartbeats 40000000 in
set_option maxRecDepth 100000 in
theorem c_X5_touchOf (l : Launch) (E : Nat → Nat) (D : va_G) (C : Nat → ClassId) (q0 qn0 qk0 qr0 qc0 qt0 qd0 qs0 qf0 qw0 qn1 qn2 qn3 qn4 qn5 qn6 : Nat) (sz : Nat) (rowCount : Int32) (anyKept : Int32) (now : PV) (x0 : Int32) (x1 : Int32) (r : Int32) (hf : f_X5_touchOf now x0 x1 = some r) : Met l yX5_touchOf wsX5_touchOf rmX5_touchOf (PC E D C [.ref q0, .int x0, .int x1] (oTM q0 qn0 qk0 qr0 qc0 qt0 qd0 qs0 qf0 qw0 rowCount anyKept (oPort C qn0 qn1 qn2 qn3 qn4 qn5 qn6 now [])) sz) (QI D C (oTM q0 qn0 qk0 qr0 qc0 qt0 qd0 qs0 qf0 qw0 rowCount anyKept (oPort C qn0 qn1 qn2 qn3 qn4 qn5 qn6 now [])) (oTM q0 qn0 qk0 qr0 qc0 qt0 qd0 qs0 qf0 qw0 rowCount anyKept (oPort C qn0 qn1 qn2 qn3 qn4 qn5 qn6 now [])) sz r) 0 0 (va_A (oTM q0 qn0 qk0 qr0 qc0 qt0 qd0 qs0 qf0 qw0 rowCount anyKept (oPort C qn0 qn1 qn2 qn3 qn4 qn5 qn6 now [])) sz) := by
  refine Met.ofW (cc := cX5_touchOf) (maxL := 3) (ret := (some .int)) (by decide) rfl ?_
  intro p e s m args below meth c s₁ B hml hv
  obtain ⟨rfl, hsz, hP, hK, hD0, hE⟩ := hv
  have hx := B.exec
  have hb := B.bytes
  have hr := B.returns
  have hts := atoms_spec (ws := wsX5_touchOf) B.pre
  have hown : s.vm.findClass RX5 = some m.cls := findClass_of_methodNamed B.named
  have hlocks := B.notSynchronized
  subst hsz
  have hi_RX1 : ∀ w ∈ wsX10, w ∈ wsX5_touchOf := fun _ h => List.mem_cons_of_mem _ (List.mem_append_right _ h)
  have hi_RX5 : ∀ w ∈ wsX50, w ∈ wsX5_touchOf := fun _ h => List.mem_cons_of_mem _ (List.mem_append_left _ (List.mem_append_right _ h))
  have hD := hD0.self (sz := s.heap.size)
  obtain ⟨A, hAe⟩ := nm_ex (va_A (oTM q0 qn0 qk0 qr0 qc0 qt0 qd0 qs0 qf0 qw0 rowCount anyKept (oPort C qn0 qn1 qn2 qn3 qn4 qn5 qn6 now [])) s.heap.size)
  rw [← hAe] at hD hE ⊢
  have hA : ∀ q : Nat, s.heap.size ≤ q → A q := fun q h => by rw [hAe]; exact Or.inr h
  have hS : va_S A s.heap s.heap [] := va_S.rf
  have hl := lv_entry ([.ref q0, .int x0, .int x1]) (n := 3) (Nat.le_of_ble_eq_true rfl)
  rw [lg_entry_eq]
  generalize (lg_sl ([.ref q0, .int x0, .int x1]) ++ List.replicate (3 - (lg_sl ([.ref q0, .int x0, .int x1])).length) Slot.unset).toArray = ls at hl ⊢
  have hl : lv_has ls 3 [(0, .ref q0), (1, .int x0), (2, .int x1)] := hl
  obtain ⟨Q, hQ⟩ := nm_ex (MQ below (QI D C (oTM q0 qn0 qk0 qr0 qc0 qt0 qd0 qs0 qf0 qw0 rowCount anyKept (oPort C qn0 qn1 qn2 qn3 qn4 qn5 qn6 now [])) (oTM q0 qn0 qk0 qr0 qc0 qt0 qd0 qs0 qf0 qw0 rowCount anyKept (oPort C qn0 qn1 qn2 qn3 qn4 qn5 qn6 now [])) s.heap.size r) (List.toArray [Value.ref q0, Value.int x0, Value.int x1]) s 0 0 A)
  show W p l e (headSpec wsX5_touchOf (rmX5_touchOf)).room s m (List.toArray [Value.ref q0, Value.int x0, Value.int x1]) below meth c s.heap [] 0 0 (MQ below (QI D C (oTM q0 qn0 qk0 qr0 qc0 qt0 qd0 qs0 qf0 qw0 rowCount anyKept (oPort C qn0 qn1 qn2 qn3 qn4 qn5 qn6 now [])) (oTM q0 qn0 qk0 qr0 qc0 qt0 qd0 qs0 qf0 qw0 rowCount anyKept (oPort C qn0 qn1 qn2 qn3 qn4 qn5 qn6 now [])) s.heap.size r) (List.toArray [Value.ref q0, Value.int x0, Value.int x1]) s 0 0 A) _
  rw [← hQ]
  unfold f_X5_touchOf at hf
  have main : ∀ (H : Heap) (locs : List Loc), va_P D vwCl (oTM q0 qn0 qk0 qr0 qc0 qt0 qd0 qs0 qf0 qw0 rowCount anyKept (oPort C qn0 qn1 qn2 qn3 qn4 qn5 qn6 now [])) H → va_D A (oTM q0 qn0 qk0 qr0 qc0 qt0 qd0 qs0 qf0 qw0 rowCount anyKept (oPort C qn0 qn1 qn2 qn3 qn4 qn5 qn6 now [])) → va_S A s.heap H locs → W p l e (headSpec wsX5_touchOf (rmX5_touchOf)).room s m (List.toArray [Value.ref q0, Value.int x0, Value.int x1]) below meth c H locs 0 0 Q (F0 m 0 ls []) := by
    intro H locs hP hD hS
    refine lv_iload_n hx hb dX5_touchOf_0 rfl (lv_at hl 1 rfl) ?_
    refine kcz (Wx := (oTM q0 qn0 qk0 qr0 qc0 qt0 qd0 qs0 qf0 qw0 rowCount anyKept (oPort C qn0 qn1 qn2 qn3 qn4 qn5 qn6 now []))) (va_runS (As := [.int x0]) (rest := []) ⟨hx, hb, hml, hown, hts⟩ (c_X5_isRest l E D C H.size x0 _ rfl) (va_cwS 1 hts gX5_touchOf_X5_isRest rfl rfl rfl hdX5_isRest ⟨Nat.le_of_ble_eq_true rfl, Nat.le_of_ble_eq_true rfl⟩) (kpre hP hD hK hS hE hA [] rfl rfl) rfl rfl hl.1 rfl (lv_room (Nat.le_of_ble_eq_true rfl)) dX5_touchOf_1 ⟨Nat.zero_le _, Nat.zero_le _⟩) hP hD hS hA [] rfl rfl rfl (fun H locs hz1 hP hD hS => ?_)
    refine lv_if_eq (tgt := 16) hx hb dX5_touchOf_4 (by decide) (fun c2 => ?_) (fun c2 => ?_)
    · replace hf := if_te c2 hf
      refine lv_iconst (v := (-1)) hx hb dX5_touchOf_16 rfl ?_
      cases hf
      exact kri hQ hAe hx hb hr hlocks hP hD hK hS dX5_touchOf_17
    · replace hf := if_fe c2 hf
      refine lv_iload_n hx hb dX5_touchOf_7 rfl (lv_at hl 2 rfl) ?_
      refine lv_iconst (v := 0) hx hb dX5_touchOf_8 rfl ?_
      refine lv_iconst (v := 1) hx hb dX5_touchOf_9 rfl ?_
      refine kcz (Wx := (oTM q0 qn0 qk0 qr0 qc0 qt0 qd0 qs0 qf0 qw0 rowCount anyKept (oPort C qn0 qn1 qn2 qn3 qn4 qn5 qn6 now []))) (va_runS (As := [.int x1, .int 0, .int 1]) (rest := []) ⟨hx, hb, hml, hown, hts⟩ (c_X5_within l E D C H.size x1 0 1 _ rfl) (va_cwS 3 hts gX5_touchOf_X5_within rfl rfl rfl hdX5_within ⟨Nat.le_of_ble_eq_true rfl, Nat.le_of_ble_eq_true rfl⟩) (kpre hP hD hK hS hE hA [] rfl rfl) rfl rfl hl.1 rfl (lv_room (Nat.le_of_ble_eq_true rfl)) dX5_touchOf_10 ⟨Nat.zero_le _, Nat.zero_le _⟩) hP hD hS hA [] rfl rfl rfl (fun H locs hz3 hP hD hS => ?_)
      refine lv_if_ne (tgt := 18) hx hb dX5_touchOf_13 (by decide) (fun c4 => ?_) (fun c4 => ?_)
      · replace hf := if_fe c4 hf
        refine lv_aload_n hx hb dX5_touchOf_18 rfl (lv_at hl 0 rfl) ?_
        refine va_get (D := D) (ci := 5) (v := .ref qn0) (C := RX5) (T := TX5) (N := 11) hx hb hts hi_RX5 hown hK hP 0 rfl rfl 0 (by decide) (hts (.fieldLink RX5 10 "TravelMarks" "now" "LTravelMarks$Port;") (List.mem_of_getElem? (i := 1) rfl)) (fun _ h9 => h9) rfl dX5_touchOf_19 ?_
        refine va_get (D := D) (ci := 1) (v := .ref qn5) (C := RX1) (T := TX1) (N := 10) hx hb hts hi_RX1 hown hK hP 1 rfl rfl 4 (by decide) (hts (.fieldLink RX5 137 "TravelMarks$Port" "first" "[I") (List.mem_of_getElem? (i := 2) rfl)) (fun _ h9 => h9) rfl dX5_touchOf_22 ?_
        refine lv_iload_n hx hb dX5_touchOf_25 rfl (lv_at hl 1 rfl) ?_
        obtain ⟨y6, ey6, hi5, hf⟩ := rdA_x hf
        refine va_iald hx hb hK hP 6 0 rfl rfl hi5 dX5_touchOf_26 ?_
        refine lv_ren ey6 ?_
        refine lv_iconst (v := (-1)) hx hb dX5_touchOf_27 rfl ?_
        refine lv_icmp_ne (tgt := 34) hx hb dX5_touchOf_28 (by decide) (fun c7 => ?_) (fun c7 => ?_)
        · replace hf := if_fe c7 hf
          refine lv_iload_n hx hb dX5_touchOf_34 rfl (lv_at hl 2 rfl) ?_
          refine lv_if_ne (tgt := 50) hx hb dX5_touchOf_35 (by decide) (fun c8 => ?_) (fun c8 => ?_)
          · replace hf := if_fe c8 hf
            refine lv_aload_n hx hb dX5_touchOf_50 rfl (lv_at hl 0 rfl) ?_
            refine va_get (D := D) (ci := 5) (v := .ref qn0) (C := RX5) (T := TX5) (N := 11) hx hb hts hi_RX5 hown hK hP 0 rfl rfl 0 (by decide) (hts (.fieldLink RX5 10 "TravelMarks" "now" "LTravelMarks$Port;") (List.mem_of_getElem? (i := 1) rfl)) (fun _ h9 => h9) rfl dX5_touchOf_51 ?_
            refine va_get (D := D) (ci := 1) (v := .ref qn6) (C := RX1) (T := TX1) (N := 10) hx hb hts hi_RX1 hown hK hP 1 rfl rfl 5 (by decide) (hts (.fieldLink RX5 140 "TravelMarks$Port" "second" "[I") (List.mem_of_getElem? (i := 3) rfl)) (fun _ h9 => h9) rfl dX5_touchOf_54 ?_
            refine lv_iload_n hx hb dX5_touchOf_57 rfl (lv_at hl 1 rfl) ?_
            obtain ⟨y10, ey10, hi9, hf⟩ := rdA_x hf
            refine va_iald hx hb hK hP 7 0 rfl rfl hi9 dX5_touchOf_58 ?_
            refine lv_ren ey10 ?_
            cases hf
            exact kri hQ hAe hx hb hr hlocks hP hD hK hS dX5_touchOf_59
          · replace hf := if_te c8 hf
            refine lv_aload_n hx hb dX5_touchOf_38 rfl (lv_at hl 0 rfl) ?_
            refine va_get (D := D) (ci := 5) (v := .ref qn0) (C := RX5) (T := TX5) (N := 11) hx hb hts hi_RX5 hown hK hP 0 rfl rfl 0 (by decide) (hts (.fieldLink RX5 10 "TravelMarks" "now" "LTravelMarks$Port;") (List.mem_of_getElem? (i := 1) rfl)) (fun _ h9 => h9) rfl dX5_touchOf_39 ?_
            refine va_get (D := D) (ci := 1) (v := .ref qn5) (C := RX1) (T := TX1) (N := 10) hx hb hts hi_RX1 hown hK hP 1 rfl rfl 4 (by decide) (hts (.fieldLink RX5 137 "TravelMarks$Port" "first" "[I") (List.mem_of_getElem? (i := 2) rfl)) (fun _ h9 => h9) rfl dX5_touchOf_42 ?_
            refine lv_iload_n hx hb dX5_touchOf_45 rfl (lv_at hl 1 rfl) ?_
            obtain ⟨y12, ey12, hi11, hf⟩ := rdA_x hf
            refine va_iald hx hb hK hP 6 0 rfl rfl hi11 dX5_touchOf_46 ?_
            refine lv_ren ey12 ?_
            refine lv_goto (tgt := 59) hx hb dX5_touchOf_47 (by decide) ?_
            cases hf
            exact kri hQ hAe hx hb hr hlocks hP hD hK hS dX5_touchOf_59
        · replace hf := if_te c7 hf
          refine lv_bipush (v := (-3)) hx hb dX5_touchOf_31 rfl ?_
          cases hf
          exact kri hQ hAe hx hb hr hlocks hP hD hK hS dX5_touchOf_33
      · replace hf := if_te c4 hf
        refine lv_iconst (v := (-1)) hx hb dX5_touchOf_16 rfl ?_
        cases hf
        exact kri hQ hAe hx hb hr hlocks hP hD hK hS dX5_touchOf_17
  exact main _ _ hP hD hS

def rmX5_who : Room := { frames := 2, cells := 0, slots := 0, locals := 45 }
theorem hdX5_who : yX5_who.cls = RX5 ∧ yX5_who.cls ≠ "java/lang/invoke/MethodHandle" ∧ yX5_who.cls ≠ "java/lang/invoke/VarHandle" ∧ (parseMethodDescriptor yX5_who.desc).map (fun d => d.parameters.length) = some 2 := by decide +kernel
set_option maxHeartbeats 40000000 in
set_option maxRecDepth 100000 in
theorem c_X5_who (l : Launch) (E : Nat → Nat) (D : va_G) (C : Nat → ClassId) (q0 qn0 qk0 qr0 qc0 qt0 qd0 qs0 qf0 qw0 qn1 qn2 qn3 qn4 qn5 qn6 : Nat) (sz : Nat) (N : Nat) (rowCount : Int32) (anyKept : Int32) (now : PV) (x0 : Int32) (x1 : Int32) (r : Int32) (hf : f_X5_who N now x0 x1 = some r) : Met l yX5_who wsX5_who rmX5_who (PC E D C [.ref q0, .int x0, .int x1] (oTM q0 qn0 qk0 qr0 qc0 qt0 qd0 qs0 qf0 qw0 rowCount anyKept (oPort C qn0 qn1 qn2 qn3 qn4 qn5 qn6 now [])) sz) (QI D C (oTM q0 qn0 qk0 qr0 qc0 qt0 qd0 qs0 qf0 qw0 rowCount anyKept (oPort C qn0 qn1 qn2 qn3 qn4 qn5 qn6 now [])) (oTM q0 qn0 qk0 qr0 qc0 qt0 qd0 qs0 qf0 qw0 rowCount anyKept (oPort C qn0 qn1 qn2 qn3 qn4 qn5 qn6 now [])) sz r) 0 0 (va_A (oTM q0 qn0 qk0 qr0 qc0 qt0 qd0 qs0 qf0 qw0 rowCount anyKept (oPort C qn0 qn1 qn2 qn3 qn4 qn5 qn6 now [])) sz) := by
  refine Met.ofW (cc := cX5_who) (maxL := 3) (ret := (some .int)) (by decide) rfl ?_
  intro p e s m args below meth c s₁ B hml hv
  obtain ⟨rfl, hsz, hP, hK, hD0, hE⟩ := hv
  have hx := B.exec
  have hb := B.bytes
  have hr := B.returns
  have hts := atoms_spec (ws := wsX5_who) B.pre
  have hown : s.vm.findClass RX5 = some m.cls := findClass_of_methodNamed B.named
  have hlocks := B.notSynchronized
  subst hsz
  have hi_RX5 : ∀ w ∈ wsX50, w ∈ wsX5_who := fun _ h => List.mem_cons_of_mem _ (List.mem_append_left _ (List.mem_append_right _ h))
  have hD := hD0.self (sz := s.heap.size)
  obtain ⟨A, hAe⟩ := nm_ex (va_A (oTM q0 qn0 qk0 qr0 qc0 qt0 qd0 qs0 qf0 qw0 rowCount anyKept (oPort C qn0 qn1 qn2 qn3 qn4 qn5 qn6 now [])) s.heap.size)
  rw [← hAe] at hD hE ⊢
  have hA : ∀ q : Nat, s.heap.size ≤ q → A q := fun q h => by rw [hAe]; exact Or.inr h
  have hS : va_S A s.heap s.heap [] := va_S.rf
  have hl := lv_entry ([.ref q0, .int x0, .int x1]) (n := 3) (Nat.le_of_ble_eq_true rfl)
  rw [lg_entry_eq]
  generalize (lg_sl ([.ref q0, .int x0, .int x1]) ++ List.replicate (3 - (lg_sl ([.ref q0, .int x0, .int x1])).length) Slot.unset).toArray = ls at hl ⊢
  have hl : lv_has ls 3 [(0, .ref q0), (1, .int x0), (2, .int x1)] := hl
  obtain ⟨Q, hQ⟩ := nm_ex (MQ below (QI D C (oTM q0 qn0 qk0 qr0 qc0 qt0 qd0 qs0 qf0 qw0 rowCount anyKept (oPort C qn0 qn1 qn2 qn3 qn4 qn5 qn6 now [])) (oTM q0 qn0 qk0 qr0 qc0 qt0 qd0 qs0 qf0 qw0 rowCount anyKept (oPort C qn0 qn1 qn2 qn3 qn4 qn5 qn6 now [])) s.heap.size r) (List.toArray [Value.ref q0, Value.int x0, Value.int x1]) s 0 0 A)
  show W p l e (headSpec wsX5_who (rmX5_who)).room s m (List.toArray [Value.ref q0, Value.int x0, Value.int x1]) below meth c s.heap [] 0 0 (MQ below (QI D C (oTM q0 qn0 qk0 qr0 qc0 qt0 qd0 qs0 qf0 qw0 rowCount anyKept (oPort C qn0 qn1 qn2 qn3 qn4 qn5 qn6 now [])) (oTM q0 qn0 qk0 qr0 qc0 qt0 qd0 qs0 qf0 qw0 rowCount anyKept (oPort C qn0 qn1 qn2 qn3 qn4 qn5 qn6 now [])) s.heap.size r) (List.toArray [Value.ref q0, Value.int x0, Value.int x1]) s 0 0 A) _
  rw [← hQ]
  unfold f_X5_who at hf
  have main : ∀ (H : Heap) (locs : List Loc), va_P D vwCl (oTM q0 qn0 qk0 qr0 qc0 qt0 qd0 qs0 qf0 qw0 rowCount anyKept (oPort C qn0 qn1 qn2 qn3 qn4 qn5 qn6 now [])) H → va_D A (oTM q0 qn0 qk0 qr0 qc0 qt0 qd0 qs0 qf0 qw0 rowCount anyKept (oPort C qn0 qn1 qn2 qn3 qn4 qn5 qn6 now [])) → va_S A s.heap H locs → W p l e (headSpec wsX5_who (rmX5_who)).room s m (List.toArray [Value.ref q0, Value.int x0, Value.int x1]) below meth c H locs 0 0 Q (F0 m 0 ls []) := by
    intro H locs hP hD hS
    refine lv_iload_n hx hb dX5_who_0 rfl (lv_at hl 1 rfl) ?_
    refine kcz (Wx := (oTM q0 qn0 qk0 qr0 qc0 qt0 qd0 qs0 qf0 qw0 rowCount anyKept (oPort C qn0 qn1 qn2 qn3 qn4 qn5 qn6 now []))) (va_runS (As := [.int x0]) (rest := []) ⟨hx, hb, hml, hown, hts⟩ (c_X5_isOne l E D C H.size x0 _ rfl) (va_cwS 1 hts gX5_who_X5_isOne rfl rfl rfl hdX5_isOne ⟨Nat.le_of_ble_eq_true rfl, Nat.le_of_ble_eq_true rfl⟩) (kpre hP hD hK hS hE hA [] rfl rfl) rfl rfl hl.1 rfl (lv_room (Nat.le_of_ble_eq_true rfl)) dX5_who_1 ⟨Nat.zero_le _, Nat.zero_le _⟩) hP hD hS hA [] rfl rfl rfl (fun H locs hz1 hP hD hS => ?_)
    refine lv_if_eq (tgt := 16) hx hb dX5_who_4 (by decide) (fun c2 => ?_) (fun c2 => ?_)
    · replace hf := if_te c2 hf
      refine lv_iconst (v := (-1)) hx hb dX5_who_16 rfl ?_
      cases hf
      exact kri hQ hAe hx hb hr hlocks hP hD hK hS dX5_who_17
    · replace hf := if_fe c2 hf
      refine lv_iload_n hx hb dX5_who_7 rfl (lv_at hl 2 rfl) ?_
      refine lv_iconst (v := 0) hx hb dX5_who_8 rfl ?_
      refine lv_iconst (v := 1) hx hb dX5_who_9 rfl ?_
      refine kcz (Wx := (oTM q0 qn0 qk0 qr0 qc0 qt0 qd0 qs0 qf0 qw0 rowCount anyKept (oPort C qn0 qn1 qn2 qn3 qn4 qn5 qn6 now []))) (va_runS (As := [.int x1, .int 0, .int 1]) (rest := []) ⟨hx, hb, hml, hown, hts⟩ (c_X5_within l E D C H.size x1 0 1 _ rfl) (va_cwS 3 hts gX5_who_X5_within rfl rfl rfl hdX5_within ⟨Nat.le_of_ble_eq_true rfl, Nat.le_of_ble_eq_true rfl⟩) (kpre hP hD hK hS hE hA [] rfl rfl) rfl rfl hl.1 rfl (lv_room (Nat.le_of_ble_eq_true rfl)) dX5_who_10 ⟨Nat.zero_le _, Nat.zero_le _⟩) hP hD hS hA [] rfl rfl rfl (fun H locs hz3 hP hD hS => ?_)
      refine lv_if_ne (tgt := 18) hx hb dX5_who_13 (by decide) (fun c4 => ?_) (fun c4 => ?_)
      · replace hf := if_fe c4 hf
        refine lv_iload_n hx hb dX5_who_18 rfl (lv_at hl 2 rfl) ?_
        refine lv_if_ne (tgt := 33) hx hb dX5_who_19 (by decide) (fun c5 => ?_) (fun c5 => ?_)
        · replace hf := if_fe c5 hf
          refine lv_aload_n hx hb dX5_who_33 rfl (lv_at hl 0 rfl) ?_
          refine va_get (D := D) (ci := 5) (v := .ref qn0) (C := RX5) (T := TX5) (N := 11) hx hb hts hi_RX5 hown hK hP 0 rfl rfl 0 (by decide) (hts (.fieldLink RX5 10 "TravelMarks" "now" "LTravelMarks$Port;") (List.mem_of_getElem? (i := 1) rfl)) (fun _ h9 => h9) rfl dX5_who_34 ?_
          refine lv_iload_n hx hb dX5_who_37 rfl (lv_at hl 1 rfl) ?_
          obtain ⟨r6, h7, hf⟩ := ob1_e hf
          refine kci (Wx := (oTM q0 qn0 qk0 qr0 qc0 qt0 qd0 qs0 qf0 qw0 rowCount anyKept (oPort C qn0 qn1 qn2 qn3 qn4 qn5 qn6 now []))) (va_runV (As := [.int x0]) (rest := []) ⟨hx, hb, hml, hown, hts⟩ (c_X1_circle l E D C qn0 qn1 qn2 qn3 qn4 qn5 qn6 H.size N now x0 r6 h7) (cwV 1 hts gX5_who_X1_circle rfl rfl rfl hdX1_circle ⟨Nat.le_of_ble_eq_true rfl, Nat.le_of_ble_eq_true rfl⟩) (kpreV hP hD hK hS hE hA [1, 2, 3, 4, 5, 6, 7] rfl rfl 1 rfl rfl rfl) rfl rfl hl.1 rfl (lv_room (Nat.le_of_ble_eq_true rfl)) dX5_who_38 ⟨Nat.zero_le _, Nat.zero_le _⟩) hP hD hS hA [1, 2, 3, 4, 5, 6, 7] rfl rfl rfl (fun H locs hP hD hS => ?_)
          cases hf
          exact kri hQ hAe hx hb hr hlocks hP hD hK hS dX5_who_41
        · replace hf := if_te c5 hf
          refine lv_aload_n hx hb dX5_who_22 rfl (lv_at hl 0 rfl) ?_
          refine va_get (D := D) (ci := 5) (v := .ref qn0) (C := RX5) (T := TX5) (N := 11) hx hb hts hi_RX5 hown hK hP 0 rfl rfl 0 (by decide) (hts (.fieldLink RX5 10 "TravelMarks" "now" "LTravelMarks$Port;") (List.mem_of_getElem? (i := 1) rfl)) (fun _ h9 => h9) rfl dX5_who_23 ?_
          refine lv_iload_n hx hb dX5_who_26 rfl (lv_at hl 1 rfl) ?_
          obtain ⟨r8, h9, hf⟩ := ob1_e hf
          refine kci (Wx := (oTM q0 qn0 qk0 qr0 qc0 qt0 qd0 qs0 qf0 qw0 rowCount anyKept (oPort C qn0 qn1 qn2 qn3 qn4 qn5 qn6 now []))) (va_runV (As := [.int x0]) (rest := []) ⟨hx, hb, hml, hown, hts⟩ (c_X1_marksOn l E D C qn0 qn1 qn2 qn3 qn4 qn5 qn6 H.size N now x0 r8 h9) (cwV 1 hts gX5_who_X1_marksOn rfl rfl rfl hdX1_marksOn ⟨Nat.le_of_ble_eq_true rfl, Nat.le_of_ble_eq_true rfl⟩) (kpreV hP hD hK hS hE hA [1, 2, 3, 4, 5, 6, 7] rfl rfl 1 rfl rfl rfl) rfl rfl hl.1 rfl (lv_room (Nat.le_of_ble_eq_true rfl)) dX5_who_27 ⟨Nat.zero_le _, Nat.zero_le _⟩) hP hD hS hA [1, 2, 3, 4, 5, 6, 7] rfl rfl rfl (fun H locs hP hD hS => ?_)
          refine lv_goto (tgt := 41) hx hb dX5_who_30 (by decide) ?_
          cases hf
          exact kri hQ hAe hx hb hr hlocks hP hD hK hS dX5_who_41
      · replace hf := if_te c4 hf
        refine lv_iconst (v := (-1)) hx hb dX5_who_16 rfl ?_
        cases hf
        exact kri hQ hAe hx hb hr hlocks hP hD hK hS dX5_who_17
  exact main _ _ hP hD hS

def rmX5_hours : Room := { frames := 4, cells := 0, slots := 0, locals := 91 }
theorem hdX5_hours : yX5_hours.cls = RX5 ∧ yX5_hours.cls ≠ "java/lang/invoke/MethodHandle" ∧ yX5_hours.cls ≠ "java/lang/invoke/VarHandle" ∧ (parseMethodDescriptor yX5_hours.desc).map (fun d => d.parameters.length) = some 1 := by decide +kernel
set_option maxHeartbeats 40000000 in
set_option maxRecDepth 100000 in
theorem c_X5_hours (l : Launch) (E : Nat → Nat) (D : va_G) (C : Nat → ClassId) (q0 qn0 qk0 qr0 qc0 qt0 qd0 qs0 qf0 qw0 qn1 qn2 qn3 qn4 qn5 qn6 : Nat) (sz : Nat) (N : Nat) (rowCount : Int32) (anyKept : Int32) (now : PV) (x0 : Int32) (r : Int32) (now' : PV) (hf : f_X5_hours N now x0 = some (r, now')) : Met l yX5_hours wsX5_hours rmX5_hours (PC E D C [.ref q0, .int x0] (oTM q0 qn0 qk0 qr0 qc0 qt0 qd0 qs0 qf0 qw0 rowCount anyKept (oPort C qn0 qn1 qn2 qn3 qn4 qn5 qn6 now [])) sz) (QI D C (oTM q0 qn0 qk0 qr0 qc0 qt0 qd0 qs0 qf0 qw0 rowCount anyKept (oPort C qn0 qn1 qn2 qn3 qn4 qn5 qn6 now [])) (oTM q0 qn0 qk0 qr0 qc0 qt0 qd0 qs0 qf0 qw0 rowCount anyKept (oPort C qn0 qn1 qn2 qn3 qn4 qn5 qn6 (now') [])) sz r) 0 0 (va_A (oTM q0 qn0 qk0 qr0 qc0 qt0 qd0 qs0 qf0 qw0 rowCount anyKept (oPort C qn0 qn1 qn2 qn3 qn4 qn5 qn6 now [])) sz) := by
  refine Met.ofW (cc := cX5_hours) (maxL := 3) (ret := (some .int)) (by decide) rfl ?_
  intro p e s m args below meth c s₁ B hml hv
  obtain ⟨rfl, hsz, hP, hK, hD0, hE⟩ := hv
  have hx := B.exec
  have hb := B.bytes
  have hr := B.returns
  have hts := atoms_spec (ws := wsX5_hours) B.pre
  have hown : s.vm.findClass RX5 = some m.cls := findClass_of_methodNamed B.named
  have hlocks := B.notSynchronized
  subst hsz
  have hi_RX5 : ∀ w ∈ wsX50, w ∈ wsX5_hours := fun _ h => List.mem_cons_of_mem _ (List.mem_append_left _ (List.mem_append_right _ h))
  have hD := hD0.self (sz := s.heap.size)
  obtain ⟨A, hAe⟩ := nm_ex (va_A (oTM q0 qn0 qk0 qr0 qc0 qt0 qd0 qs0 qf0 qw0 rowCount anyKept (oPort C qn0 qn1 qn2 qn3 qn4 qn5 qn6 now [])) s.heap.size)
  rw [← hAe] at hD hE ⊢
  have hA : ∀ q : Nat, s.heap.size ≤ q → A q := fun q h => by rw [hAe]; exact Or.inr h
  have hS : va_S A s.heap s.heap [] := va_S.rf
  have hl := lv_entry ([.ref q0, .int x0]) (n := 3) (Nat.le_of_ble_eq_true rfl)
  rw [lg_entry_eq]
  generalize (lg_sl ([.ref q0, .int x0]) ++ List.replicate (3 - (lg_sl ([.ref q0, .int x0])).length) Slot.unset).toArray = ls at hl ⊢
  have hl : lv_has ls 3 [(0, .ref q0), (1, .int x0)] := hl
  obtain ⟨Q, hQ⟩ := nm_ex (MQ below (QI D C (oTM q0 qn0 qk0 qr0 qc0 qt0 qd0 qs0 qf0 qw0 rowCount anyKept (oPort C qn0 qn1 qn2 qn3 qn4 qn5 qn6 now [])) (oTM q0 qn0 qk0 qr0 qc0 qt0 qd0 qs0 qf0 qw0 rowCount anyKept (oPort C qn0 qn1 qn2 qn3 qn4 qn5 qn6 (now') [])) s.heap.size r) (List.toArray [Value.ref q0, Value.int x0]) s 0 0 A)
  show W p l e (headSpec wsX5_hours (rmX5_hours)).room s m (List.toArray [Value.ref q0, Value.int x0]) below meth c s.heap [] 0 0 (MQ below (QI D C (oTM q0 qn0 qk0 qr0 qc0 qt0 qd0 qs0 qf0 qw0 rowCount anyKept (oPort C qn0 qn1 qn2 qn3 qn4 qn5 qn6 now [])) (oTM q0 qn0 qk0 qr0 qc0 qt0 qd0 qs0 qf0 qw0 rowCount anyKept (oPort C qn0 qn1 qn2 qn3 qn4 qn5 qn6 (now') [])) s.heap.size r) (List.toArray [Value.ref q0, Value.int x0]) s 0 0 A) _
  rw [← hQ]
  unfold f_X5_hours at hf
  have main : ∀ (H : Heap) (locs : List Loc), va_P D vwCl (oTM q0 qn0 qk0 qr0 qc0 qt0 qd0 qs0 qf0 qw0 rowCount anyKept (oPort C qn0 qn1 qn2 qn3 qn4 qn5 qn6 now [])) H → va_D A (oTM q0 qn0 qk0 qr0 qc0 qt0 qd0 qs0 qf0 qw0 rowCount anyKept (oPort C qn0 qn1 qn2 qn3 qn4 qn5 qn6 now [])) → va_S A s.heap H locs → W p l e (headSpec wsX5_hours (rmX5_hours)).room s m (List.toArray [Value.ref q0, Value.int x0]) below meth c H locs 0 0 Q (F0 m 0 ls []) := by
    intro H locs hP hD hS
    refine lv_iload_n hx hb dX5_hours_0 rfl (lv_at hl 1 rfl) ?_
    refine lv_iconst (v := 1) hx hb dX5_hours_1 rfl ?_
    refine lv_bipush (v := 60) hx hb dX5_hours_2 rfl ?_
    refine kcz (Wx := (oTM q0 qn0 qk0 qr0 qc0 qt0 qd0 qs0 qf0 qw0 rowCount anyKept (oPort C qn0 qn1 qn2 qn3 qn4 qn5 qn6 now []))) (va_runS (As := [.int x0, .int 1, .int 60]) (rest := []) ⟨hx, hb, hml, hown, hts⟩ (c_X5_within l E D C H.size x0 1 60 _ rfl) (va_cwS 3 hts gX5_hours_X5_within rfl rfl rfl hdX5_within ⟨Nat.le_of_ble_eq_true rfl, Nat.le_of_ble_eq_true rfl⟩) (kpre hP hD hK hS hE hA [] rfl rfl) rfl rfl hl.1 rfl (lv_room (Nat.le_of_ble_eq_true rfl)) dX5_hours_4 ⟨Nat.zero_le _, Nat.zero_le _⟩) hP hD hS hA [] rfl rfl rfl (fun H locs hz1 hP hD hS => ?_)
    refine lv_if_ne (tgt := 12) hx hb dX5_hours_7 (by decide) (fun c2 => ?_) (fun c2 => ?_)
    · replace hf := if_fe c2 hf
      refine lv_iconst (v := 0) hx hb dX5_hours_12 rfl ?_
      refine lv_istore_n (lv' := [(2, .int 0), (0, .ref q0), (1, .int x0)]) hx hb dX5_hours_13 rfl hl (by decide) rfl (fun ls hl => ?_)
      obtain ⟨j4, hj4, hf⟩ := lj_e hf
      have Hj4 : ∀ (v3 : PV) (H : Heap) (locs : List Loc) (ls : Array Slot), va_P D vwCl (oTM q0 qn0 qk0 qr0 qc0 qt0 qd0 qs0 qf0 qw0 rowCount anyKept (oPort C qn0 qn1 qn2 qn3 qn4 qn5 qn6 v3 [])) H → va_D A (oTM q0 qn0 qk0 qr0 qc0 qt0 qd0 qs0 qf0 qw0 rowCount anyKept (oPort C qn0 qn1 qn2 qn3 qn4 qn5 qn6 v3 [])) → va_S A s.heap H locs → lv_has ls 3 [(0, .ref q0)] → j4 v3 = some (r, now') → W p l e (headSpec wsX5_hours (rmX5_hours)).room s m (List.toArray [Value.ref q0, Value.int x0]) below meth c H locs 0 0 Q (F0 m 32 ls []) := by
        intro v3 H locs ls hP hD hS hl hf
        rw [hj4] at hf
        refine lv_aload_n hx hb dX5_hours_32 rfl (lv_at hl 0 rfl) ?_
        refine va_get (D := D) (ci := 5) (v := .ref qn0) (C := RX5) (T := TX5) (N := 11) hx hb hts hi_RX5 hown hK hP 0 rfl rfl 0 (by decide) (hts (.fieldLink RX5 10 "TravelMarks" "now" "LTravelMarks$Port;") (List.mem_of_getElem? (i := 1) rfl)) (fun _ h9 => h9) rfl dX5_hours_33 ?_
        obtain ⟨r5, h6, hf⟩ := ob1_e hf
        refine kci (Wx := (oTM q0 qn0 qk0 qr0 qc0 qt0 qd0 qs0 qf0 qw0 rowCount anyKept (oPort C qn0 qn1 qn2 qn3 qn4 qn5 qn6 v3 []))) (va_runV (As := []) (rest := []) ⟨hx, hb, hml, hown, hts⟩ (c_X1_marked l E D C qn0 qn1 qn2 qn3 qn4 qn5 qn6 H.size N v3 r5 h6) (cwV 0 hts gX5_hours_X1_marked rfl rfl rfl hdX1_marked ⟨Nat.le_of_ble_eq_true rfl, Nat.le_of_ble_eq_true rfl⟩) (kpreV hP hD hK hS hE hA [1, 2, 3, 4, 5, 6, 7] rfl rfl 1 rfl rfl rfl) rfl rfl hl.1 rfl (lv_room (Nat.le_of_ble_eq_true rfl)) dX5_hours_36 ⟨Nat.zero_le _, Nat.zero_le _⟩) hP hD hS hA [1, 2, 3, 4, 5, 6, 7] rfl rfl rfl (fun H locs hP hD hS => ?_)
        refine kci (Wx := (oTM q0 qn0 qk0 qr0 qc0 qt0 qd0 qs0 qf0 qw0 rowCount anyKept (oPort C qn0 qn1 qn2 qn3 qn4 qn5 qn6 v3 []))) (va_runS (As := [.int r5]) (rest := []) ⟨hx, hb, hml, hown, hts⟩ (c_J6_bitCount_0f7a4 l E D C H.size r5 _ rfl) (va_cwS 1 hts gX5_hours_J6_bitCount_0f7a4 rfl rfl rfl hdJ6_bitCount_0f7a4 ⟨Nat.le_of_ble_eq_true rfl, Nat.le_of_ble_eq_true rfl⟩) (kpre hP hD hK hS hE hA [] rfl rfl) rfl rfl hl.1 rfl (lv_room (Nat.le_of_ble_eq_true rfl)) dX5_hours_39 ⟨Nat.zero_le _, Nat.zero_le _⟩) hP hD hS hA [] rfl rfl rfl (fun H locs hP hD hS => ?_)
        obtain ⟨t7, et7, hf⟩ := lj_e hf
        refine lv_ren et7 ?_
        cases hf
        exact kri hQ hAe hx hb hr hlocks hP hD hK hS dX5_hours_42
      have hL14 : ∀ (n : Nat) (i8 : Int32) (v9 : PV) (H : Heap) (locs : List Loc) (ls : Array Slot), va_P D vwCl (oTM q0 qn0 qk0 qr0 qc0 qt0 qd0 qs0 qf0 qw0 rowCount anyKept (oPort C qn0 qn1 qn2 qn3 qn4 qn5 qn6 v9 [])) H → va_D A (oTM q0 qn0 qk0 qr0 qc0 qt0 qd0 qs0 qf0 qw0 rowCount anyKept (oPort C qn0 qn1 qn2 qn3 qn4 qn5 qn6 v9 [])) → va_S A s.heap H locs → lv_has ls 3 [(2, .int i8), (0, .ref q0), (1, .int x0)] → f_X5_hours_L14 N x0 j4 n i8 v9 = some (r, now') → W p l e (headSpec wsX5_hours (rmX5_hours)).room s m (List.toArray [Value.ref q0, Value.int x0]) below meth c H locs 0 0 Q (F0 m 14 ls []) := by
        intro n
        induction n with
        | zero =>
          intro i8 v9 H locs ls hP hD hS hl hf
          exact absurd hf (fun h => by cases h)
        | succ n ih =>
          intro i8 v9 H locs ls hP hD hS hl hf
          rw [f_X5_hours_L14] at hf
          refine lv_iload_n hx hb dX5_hours_14 rfl (lv_at hl 0 rfl) ?_
          refine lv_iload_n hx hb dX5_hours_15 rfl (lv_at hl 2 rfl) ?_
          refine lv_icmp_ge (tgt := 32) hx hb dX5_hours_16 (by decide) (fun c10 => ?_) (fun c10 => ?_)
          · replace hf := if_te c10 hf
            exact Hj4 v9 H locs ls hP hD hS (lv_sub hl [1] rfl) hf
          · replace hf := if_fe c10 hf
            refine lv_aload_n hx hb dX5_hours_19 rfl (lv_at hl 1 rfl) ?_
            refine va_get (D := D) (ci := 5) (v := .ref qn0) (C := RX5) (T := TX5) (N := 11) hx hb hts hi_RX5 hown hK hP 0 rfl rfl 0 (by decide) (hts (.fieldLink RX5 10 "TravelMarks" "now" "LTravelMarks$Port;") (List.mem_of_getElem? (i := 1) rfl)) (fun _ h9 => h9) rfl dX5_hours_20 ?_
            obtain ⟨v11, h12, hf⟩ := ob1_e hf
            refine kcv (Wx := (oTM q0 qn0 qk0 qr0 qc0 qt0 qd0 qs0 qf0 qw0 rowCount anyKept (oPort C qn0 qn1 qn2 qn3 qn4 qn5 qn6 v11 []))) (va_runV (As := []) (rest := []) ⟨hx, hb, hml, hown, hts⟩ (c_X1_passHour l E D C qn0 qn1 qn2 qn3 qn4 qn5 qn6 H.size N v9 v11 h12) (cwV 0 hts gX5_hours_X1_passHour rfl rfl rfl hdX1_passHour ⟨Nat.le_of_ble_eq_true rfl, Nat.le_of_ble_eq_true rfl⟩) (kpreV hP hD hK hS hE hA [1, 2, 3, 4, 5, 6, 7] rfl rfl 1 rfl rfl rfl) rfl rfl hl.1 rfl (lv_room (Nat.le_of_ble_eq_true rfl)) dX5_hours_23 ⟨Nat.zero_le _, Nat.zero_le _⟩) hP hD hS hA [1, 2, 3, 4, 5, 6, 7] rfl rfl rfl (fun H locs hP hD hS => ?_)
            obtain ⟨t13, et13, hf⟩ := lj_e hf
            refine lv_iinc (v := t13) (lv' := [(2, .int t13), (0, .ref q0), (1, .int x0)]) hx hb dX5_hours_26 hl (k := 0) rfl (by rw [et13]; rfl) (by decide) rfl (fun ls hl => ?_)
            refine lv_goto (tgt := 14) hx hb dX5_hours_29 (by decide) ?_
            exact ih t13 v11 H locs ls hP hD hS (lv_sub hl [0, 1, 2] rfl) hf
      exact hL14 N 0 now H locs ls hP hD hS (lv_sub hl [0, 1, 2] rfl) hf
    · replace hf := if_te c2 hf
      refine lv_iconst (v := (-1)) hx hb dX5_hours_10 rfl ?_
      cases hf
      exact kri hQ hAe hx hb hr hlocks hP hD hK hS dX5_hours_11
  exact main _ _ hP hD hS

def rmX5_seed : Room := { frames := 0, cells := 0, slots := 0, locals := 0 }
theorem hdX5_seed : yX5_seed.cls = RX5 ∧ yX5_seed.cls ≠ "java/lang/invoke/MethodHandle" ∧ yX5_seed.cls ≠ "java/lang/invoke/VarHandle" ∧ (parseMethodDescriptor yX5_seed.desc).map (fun d => d.parameters.length) = some 1 := by decide +kernel
set_option maxHeartbeats 40000000 in
set_option maxRecDepth 100000 in
theorem c_X5_seed (l : Launch) (E : Nat → Nat) (D : va_G) (C : Nat → ClassId) (q0 qn0 qk0 qr0 qc0 qt0 qd0 qs0 qf0 qw0 qn1 qn2 qn3 qn4 qn5 qn6 : Nat) (sz : Nat) (rowCount : Int32) (anyKept : Int32) (now : PV) (x0 : Int32) (r : Int32) (now' : PV) (hf : f_X5_seed now x0 = some (r, now')) : Met l yX5_seed wsX5_seed rmX5_seed (PC E D C [.ref q0, .int x0] (oTM q0 qn0 qk0 qr0 qc0 qt0 qd0 qs0 qf0 qw0 rowCount anyKept (oPort C qn0 qn1 qn2 qn3 qn4 qn5 qn6 now [])) sz) (QI D C (oTM q0 qn0 qk0 qr0 qc0 qt0 qd0 qs0 qf0 qw0 rowCount anyKept (oPort C qn0 qn1 qn2 qn3 qn4 qn5 qn6 now [])) (oTM q0 qn0 qk0 qr0 qc0 qt0 qd0 qs0 qf0 qw0 rowCount anyKept (oPort C qn0 qn1 qn2 qn3 qn4 qn5 qn6 (now') [])) sz r) 0 0 (va_A (oTM q0 qn0 qk0 qr0 qc0 qt0 qd0 qs0 qf0 qw0 rowCount anyKept (oPort C qn0 qn1 qn2 qn3 qn4 qn5 qn6 now [])) sz) := by
  refine Met.ofW (cc := cX5_seed) (maxL := 3) (ret := (some .int)) (by decide) rfl ?_
  intro p e s m args below meth c s₁ B hml hv
  obtain ⟨rfl, hsz, hP, hK, hD0, hE⟩ := hv
  have hx := B.exec
  have hb := B.bytes
  have hr := B.returns
  have hts := atoms_spec (ws := wsX5_seed) B.pre
  have hown : s.vm.findClass RX5 = some m.cls := findClass_of_methodNamed B.named
  have hlocks := B.notSynchronized
  subst hsz
  have hi_RX1 : ∀ w ∈ wsX10, w ∈ wsX5_seed := fun _ h => List.mem_cons_of_mem _ (List.mem_append_right _ h)
  have hi_RX5 : ∀ w ∈ wsX50, w ∈ wsX5_seed := fun _ h => List.mem_cons_of_mem _ (List.mem_append_left _ (List.mem_append_right _ h))
  have hD := hD0.self (sz := s.heap.size)
  obtain ⟨A, hAe⟩ := nm_ex (va_A (oTM q0 qn0 qk0 qr0 qc0 qt0 qd0 qs0 qf0 qw0 rowCount anyKept (oPort C qn0 qn1 qn2 qn3 qn4 qn5 qn6 now [])) s.heap.size)
  rw [← hAe] at hD hE ⊢
  have hA : ∀ q : Nat, s.heap.size ≤ q → A q := fun q h => by rw [hAe]; exact Or.inr h
  have hS : va_S A s.heap s.heap [] := va_S.rf
  have hl := lv_entry ([.ref q0, .int x0]) (n := 3) (Nat.le_of_ble_eq_true rfl)
  rw [lg_entry_eq]
  generalize (lg_sl ([.ref q0, .int x0]) ++ List.replicate (3 - (lg_sl ([.ref q0, .int x0])).length) Slot.unset).toArray = ls at hl ⊢
  have hl : lv_has ls 3 [(0, .ref q0), (1, .int x0)] := hl
  obtain ⟨Q, hQ⟩ := nm_ex (MQ below (QI D C (oTM q0 qn0 qk0 qr0 qc0 qt0 qd0 qs0 qf0 qw0 rowCount anyKept (oPort C qn0 qn1 qn2 qn3 qn4 qn5 qn6 now [])) (oTM q0 qn0 qk0 qr0 qc0 qt0 qd0 qs0 qf0 qw0 rowCount anyKept (oPort C qn0 qn1 qn2 qn3 qn4 qn5 qn6 (now') [])) s.heap.size r) (List.toArray [Value.ref q0, Value.int x0]) s 0 0 A)
  show W p l e (headSpec wsX5_seed (rmX5_seed)).room s m (List.toArray [Value.ref q0, Value.int x0]) below meth c s.heap [] 0 0 (MQ below (QI D C (oTM q0 qn0 qk0 qr0 qc0 qt0 qd0 qs0 qf0 qw0 rowCount anyKept (oPort C qn0 qn1 qn2 qn3 qn4 qn5 qn6 now [])) (oTM q0 qn0 qk0 qr0 qc0 qt0 qd0 qs0 qf0 qw0 rowCount anyKept (oPort C qn0 qn1 qn2 qn3 qn4 qn5 qn6 (now') [])) s.heap.size r) (List.toArray [Value.ref q0, Value.int x0]) s 0 0 A) _
  rw [← hQ]
  unfold f_X5_seed at hf
  have main : ∀ (H : Heap) (locs : List Loc), va_P D vwCl (oTM q0 qn0 qk0 qr0 qc0 qt0 qd0 qs0 qf0 qw0 rowCount anyKept (oPort C qn0 qn1 qn2 qn3 qn4 qn5 qn6 now [])) H → va_D A (oTM q0 qn0 qk0 qr0 qc0 qt0 qd0 qs0 qf0 qw0 rowCount anyKept (oPort C qn0 qn1 qn2 qn3 qn4 qn5 qn6 now [])) → va_S A s.heap H locs → W p l e (headSpec wsX5_seed (rmX5_seed)).room s m (List.toArray [Value.ref q0, Value.int x0]) below meth c H locs 0 0 Q (F0 m 0 ls []) := by
    intro H locs hP hD hS
    refine lv_aload_n hx hb dX5_seed_0 rfl (lv_at hl 0 rfl) ?_
    refine va_get (D := D) (ci := 5) (v := .ref qn0) (C := RX5) (T := TX5) (N := 11) hx hb hts hi_RX5 hown hK hP 0 rfl rfl 0 (by decide) (hts (.fieldLink RX5 10 "TravelMarks" "now" "LTravelMarks$Port;") (List.mem_of_getElem? (i := 1) rfl)) (fun _ h9 => h9) rfl dX5_seed_1 ?_
    refine va_get (D := D) (ci := 1) (v := .int (pZ now)) (C := RX1) (T := TX1) (N := 10) hx hb hts hi_RX1 hown hK hP 1 rfl rfl 8 (by decide) (hts (.fieldLink RX5 68 "TravelMarks$Port" "z" "I") (List.mem_of_getElem? (i := 2) rfl)) (fun _ h9 => h9) rfl dX5_seed_4 ?_
    obtain ⟨t1, et1, hf⟩ := lj_e hf
    refine lv_ren et1 ?_
    refine lv_istore_n (lv' := [(2, .int t1), (0, .ref q0), (1, .int x0)]) hx hb dX5_seed_7 rfl hl (by decide) rfl (fun ls hl => ?_)
    refine lv_aload_n hx hb dX5_seed_8 rfl (lv_at hl 1 rfl) ?_
    refine va_get (D := D) (ci := 5) (v := .ref qn0) (C := RX5) (T := TX5) (N := 11) hx hb hts hi_RX5 hown hK hP 0 rfl rfl 0 (by decide) (hts (.fieldLink RX5 10 "TravelMarks" "now" "LTravelMarks$Port;") (List.mem_of_getElem? (i := 1) rfl)) (fun _ h9 => h9) rfl dX5_seed_9 ?_
    refine lv_iload_n hx hb dX5_seed_12 rfl (lv_at hl 2 rfl) ?_
    refine va_put (D := D) (ci := 1) (v := .int x0) (ty := .int) (C := RX1) (T := TX1) (N := 10) hx hb hts hi_RX1 tyX1 tyX1_ok nmX1 hown hK hP hD hS 1 rfl rfl 8 (by decide) (hts (.fieldLink RX5 68 "TravelMarks$Port" "z" "I") (List.mem_of_getElem? (i := 2) rfl)) (fun _ h9 => h9) rfl (tyX1_ok 8 (by decide)) rfl rfl (Nat.le_of_ble_eq_true rfl) dX5_seed_13 (fun H locs hP hD hS => ?_)
    obtain ⟨v2, ev2, hf⟩ := lj_e hf
    have hP : va_P D vwCl (oTM q0 qn0 qk0 qr0 qc0 qt0 qd0 qs0 qf0 qw0 rowCount anyKept (oPort C qn0 qn1 qn2 qn3 qn4 qn5 qn6 v2 [])) H := by rw [ev2]; exact hP
    have hD : va_D A (oTM q0 qn0 qk0 qr0 qc0 qt0 qd0 qs0 qf0 qw0 rowCount anyKept (oPort C qn0 qn1 qn2 qn3 qn4 qn5 qn6 v2 [])) := by rw [ev2]; exact hD
    refine lv_iload_n hx hb dX5_seed_16 rfl (lv_at hl 0 rfl) ?_
    cases hf
    exact kri hQ hAe hx hb hr hlocks hP hD hK hS dX5_seed_17
  exact main _ _ hP hD hS

def rmX5_hour : Room := { frames := 5, cells := 0, slots := 0, locals := 113 }
theorem hdX5_hour : yX5_hour.cls = RX5 ∧ yX5_hour.cls ≠ "java/lang/invoke/MethodHandle" ∧ yX5_hour.cls ≠ "java/lang/invoke/VarHandle" ∧ (parseMethodDescriptor yX5_hour.desc).map (fun d => d.parameters.length) = some 0 := by decide +kernel
set_option maxHeartbeats 40000000 in
set_option maxRecDepth 100000 in
theorem c_X5_hour (l : Launch) (E : Nat → Nat) (D : va_G) (C : Nat → ClassId) (q0 qn0 qk0 qr0 qc0 qt0 qd0 qs0 qf0 qw0 qn1 qn2 qn3 qn4 qn5 qn6 : Nat) (sz : Nat) (N : Nat) (rowCount : Int32) (anyKept : Int32) (now : PV)  (r : Int32) (now' : PV) (hf : f_X5_hour N now = some (r, now')) : Met l yX5_hour wsX5_hour rmX5_hour (PC E D C [.ref q0] (oTM q0 qn0 qk0 qr0 qc0 qt0 qd0 qs0 qf0 qw0 rowCount anyKept (oPort C qn0 qn1 qn2 qn3 qn4 qn5 qn6 now [])) sz) (QI D C (oTM q0 qn0 qk0 qr0 qc0 qt0 qd0 qs0 qf0 qw0 rowCount anyKept (oPort C qn0 qn1 qn2 qn3 qn4 qn5 qn6 now [])) (oTM q0 qn0 qk0 qr0 qc0 qt0 qd0 qs0 qf0 qw0 rowCount anyKept (oPort C qn0 qn1 qn2 qn3 qn4 qn5 qn6 (now') [])) sz r) 0 0 (va_A (oTM q0 qn0 qk0 qr0 qc0 qt0 qd0 qs0 qf0 qw0 rowCount anyKept (oPort C qn0 qn1 qn2 qn3 qn4 qn5 qn6 now [])) sz) := by
  refine Met.ofW (cc := cX5_hour) (maxL := 1) (ret := (some .int)) (by decide) rfl ?_
  intro p e s m args below meth c s₁ B hml hv
  obtain ⟨rfl, hsz, hP, hK, hD0, hE⟩ := hv
  have hx := B.exec
  have hb := B.bytes
  have hr := B.returns
  have hts := atoms_spec (ws := wsX5_hour) B.pre
  have hown : s.vm.findClass RX5 = some m.cls := findClass_of_methodNamed B.named
  have hlocks := B.notSynchronized
  subst hsz
  have hi_RX5 : ∀ w ∈ wsX50, w ∈ wsX5_hour := fun _ h => List.mem_cons_of_mem _ (List.mem_append_left _ (List.mem_append_right _ h))
  have hD := hD0.self (sz := s.heap.size)
  obtain ⟨A, hAe⟩ := nm_ex (va_A (oTM q0 qn0 qk0 qr0 qc0 qt0 qd0 qs0 qf0 qw0 rowCount anyKept (oPort C qn0 qn1 qn2 qn3 qn4 qn5 qn6 now [])) s.heap.size)
  rw [← hAe] at hD hE ⊢
  have hA : ∀ q : Nat, s.heap.size ≤ q → A q := fun q h => by rw [hAe]; exact Or.inr h
  have hS : va_S A s.heap s.heap [] := va_S.rf
  have hl := lv_entry ([.ref q0]) (n := 1) (Nat.le_of_ble_eq_true rfl)
  rw [lg_entry_eq]
  generalize (lg_sl ([.ref q0]) ++ List.replicate (1 - (lg_sl ([.ref q0])).length) Slot.unset).toArray = ls at hl ⊢
  have hl : lv_has ls 1 [(0, .ref q0)] := hl
  obtain ⟨Q, hQ⟩ := nm_ex (MQ below (QI D C (oTM q0 qn0 qk0 qr0 qc0 qt0 qd0 qs0 qf0 qw0 rowCount anyKept (oPort C qn0 qn1 qn2 qn3 qn4 qn5 qn6 now [])) (oTM q0 qn0 qk0 qr0 qc0 qt0 qd0 qs0 qf0 qw0 rowCount anyKept (oPort C qn0 qn1 qn2 qn3 qn4 qn5 qn6 (now') [])) s.heap.size r) (List.toArray [Value.ref q0]) s 0 0 A)
  show W p l e (headSpec wsX5_hour (rmX5_hour)).room s m (List.toArray [Value.ref q0]) below meth c s.heap [] 0 0 (MQ below (QI D C (oTM q0 qn0 qk0 qr0 qc0 qt0 qd0 qs0 qf0 qw0 rowCount anyKept (oPort C qn0 qn1 qn2 qn3 qn4 qn5 qn6 now [])) (oTM q0 qn0 qk0 qr0 qc0 qt0 qd0 qs0 qf0 qw0 rowCount anyKept (oPort C qn0 qn1 qn2 qn3 qn4 qn5 qn6 (now') [])) s.heap.size r) (List.toArray [Value.ref q0]) s 0 0 A) _
  rw [← hQ]
  unfold f_X5_hour at hf
  have main : ∀ (H : Heap) (locs : List Loc), va_P D vwCl (oTM q0 qn0 qk0 qr0 qc0 qt0 qd0 qs0 qf0 qw0 rowCount anyKept (oPort C qn0 qn1 qn2 qn3 qn4 qn5 qn6 now [])) H → va_D A (oTM q0 qn0 qk0 qr0 qc0 qt0 qd0 qs0 qf0 qw0 rowCount anyKept (oPort C qn0 qn1 qn2 qn3 qn4 qn5 qn6 now [])) → va_S A s.heap H locs → W p l e (headSpec wsX5_hour (rmX5_hour)).room s m (List.toArray [Value.ref q0]) below meth c H locs 0 0 Q (F0 m 0 ls []) := by
    intro H locs hP hD hS
    refine lv_aload_n hx hb dX5_hour_0 rfl (lv_at hl 0 rfl) ?_
    refine va_get (D := D) (ci := 5) (v := .ref qn0) (C := RX5) (T := TX5) (N := 11) hx hb hts hi_RX5 hown hK hP 0 rfl rfl 0 (by decide) (hts (.fieldLink RX5 10 "TravelMarks" "now" "LTravelMarks$Port;") (List.mem_of_getElem? (i := 1) rfl)) (fun _ h9 => h9) rfl dX5_hour_1 ?_
    obtain ⟨v1, h2, hf⟩ := ob1_e hf
    refine kcv (Wx := (oTM q0 qn0 qk0 qr0 qc0 qt0 qd0 qs0 qf0 qw0 rowCount anyKept (oPort C qn0 qn1 qn2 qn3 qn4 qn5 qn6 v1 []))) (va_runV (As := []) (rest := []) ⟨hx, hb, hml, hown, hts⟩ (c_X1_passHourByDraws l E D C qn0 qn1 qn2 qn3 qn4 qn5 qn6 H.size N now v1 h2) (cwV 0 hts gX5_hour_X1_passHourByDraws rfl rfl rfl hdX1_passHourByDraws ⟨Nat.le_of_ble_eq_true rfl, Nat.le_of_ble_eq_true rfl⟩) (kpreV hP hD hK hS hE hA [1, 2, 3, 4, 5, 6, 7] rfl rfl 1 rfl rfl rfl) rfl rfl hl.1 rfl (lv_room (Nat.le_of_ble_eq_true rfl)) dX5_hour_4 ⟨Nat.zero_le _, Nat.zero_le _⟩) hP hD hS hA [1, 2, 3, 4, 5, 6, 7] rfl rfl rfl (fun H locs hP hD hS => ?_)
    refine lv_aload_n hx hb dX5_hour_7 rfl (lv_at hl 0 rfl) ?_
    refine va_get (D := D) (ci := 5) (v := .ref qn0) (C := RX5) (T := TX5) (N := 11) hx hb hts hi_RX5 hown hK hP 0 rfl rfl 0 (by decide) (hts (.fieldLink RX5 10 "TravelMarks" "now" "LTravelMarks$Port;") (List.mem_of_getElem? (i := 1) rfl)) (fun _ h9 => h9) rfl dX5_hour_8 ?_
    obtain ⟨r3, h4, hf⟩ := ob1_e hf
    refine kci (Wx := (oTM q0 qn0 qk0 qr0 qc0 qt0 qd0 qs0 qf0 qw0 rowCount anyKept (oPort C qn0 qn1 qn2 qn3 qn4 qn5 qn6 v1 []))) (va_runV (As := []) (rest := []) ⟨hx, hb, hml, hown, hts⟩ (c_X1_marked l E D C qn0 qn1 qn2 qn3 qn4 qn5 qn6 H.size N v1 r3 h4) (cwV 0 hts gX5_hour_X1_marked rfl rfl rfl hdX1_marked ⟨Nat.le_of_ble_eq_true rfl, Nat.le_of_ble_eq_true rfl⟩) (kpreV hP hD hK hS hE hA [1, 2, 3, 4, 5, 6, 7] rfl rfl 1 rfl rfl rfl) rfl rfl hl.1 rfl (lv_room (Nat.le_of_ble_eq_true rfl)) dX5_hour_11 ⟨Nat.zero_le _, Nat.zero_le _⟩) hP hD hS hA [1, 2, 3, 4, 5, 6, 7] rfl rfl rfl (fun H locs hP hD hS => ?_)
    refine kci (Wx := (oTM q0 qn0 qk0 qr0 qc0 qt0 qd0 qs0 qf0 qw0 rowCount anyKept (oPort C qn0 qn1 qn2 qn3 qn4 qn5 qn6 v1 []))) (va_runS (As := [.int r3]) (rest := []) ⟨hx, hb, hml, hown, hts⟩ (c_J6_bitCount_0f7a4 l E D C H.size r3 _ rfl) (va_cwS 1 hts gX5_hour_J6_bitCount_0f7a4 rfl rfl rfl hdJ6_bitCount_0f7a4 ⟨Nat.le_of_ble_eq_true rfl, Nat.le_of_ble_eq_true rfl⟩) (kpre hP hD hK hS hE hA [] rfl rfl) rfl rfl hl.1 rfl (lv_room (Nat.le_of_ble_eq_true rfl)) dX5_hour_14 ⟨Nat.zero_le _, Nat.zero_le _⟩) hP hD hS hA [] rfl rfl rfl (fun H locs hP hD hS => ?_)
    obtain ⟨t5, et5, hf⟩ := lj_e hf
    refine lv_ren et5 ?_
    cases hf
    exact kri hQ hAe hx hb hr hlocks hP hD hK hS dX5_hour_17
  exact main _ _ hP hD hS

def rmX5_stir : Room := { frames := 5, cells := 0, slots := 0, locals := 113 }
theorem hdX5_stir : yX5_stir.cls = RX5 ∧ yX5_stir.cls ≠ "java/lang/invoke/MethodHandle" ∧ yX5_stir.cls ≠ "java/lang/invoke/VarHandle" ∧ (parseMethodDescriptor yX5_stir.desc).map (fun d => d.parameters.length) = some 1 := by decide +kernel
set_option maxHeartbeats 40000000 in
set_option maxRecDepth 100000 in
theorem c_X5_stir (l : Launch) (E : Nat → Nat) (D : va_G) (C : Nat → ClassId) (q0 qn0 qk0 qr0 qc0 qt0 qd0 qs0 qf0 qw0 qn1 qn2 qn3 qn4 qn5 qn6 qr1 qr2 qr3 qr4 qr5 qr6 qc1 qc2 qc3 qc4 qc5 qc6 : Nat) (sz : Nat) (N : Nat) (rowCount : Int32) (anyKept : Int32) (now : PV) (trial : PV) (calm : PV) (x0 : Int32) (r : Int32) (trial' : PV) (calm' : PV) (hf : f_X5_stir N now trial calm x0 = some (r, trial', calm')) : Met l yX5_stir wsX5_stir rmX5_stir (PC E D C [.ref q0, .int x0] (oTM q0 qn0 qk0 qr0 qc0 qt0 qd0 qs0 qf0 qw0 rowCount anyKept (oPort C qn0 qn1 qn2 qn3 qn4 qn5 qn6 now (oPort C qr0 qr1 qr2 qr3 qr4 qr5 qr6 trial (oPort C qc0 qc1 qc2 qc3 qc4 qc5 qc6 calm [])))) sz) (QI D C (oTM q0 qn0 qk0 qr0 qc0 qt0 qd0 qs0 qf0 qw0 rowCount anyKept (oPort C qn0 qn1 qn2 qn3 qn4 qn5 qn6 now (oPort C qr0 qr1 qr2 qr3 qr4 qr5 qr6 trial (oPort C qc0 qc1 qc2 qc3 qc4 qc5 qc6 calm [])))) (oTM q0 qn0 qk0 qr0 qc0 qt0 qd0 qs0 qf0 qw0 rowCount anyKept (oPort C qn0 qn1 qn2 qn3 qn4 qn5 qn6 now (oPort C qr0 qr1 qr2 qr3 qr4 qr5 qr6 (trial') (oPort C qc0 qc1 qc2 qc3 qc4 qc5 qc6 (calm') [])))) sz r) 0 0 (va_A (oTM q0 qn0 qk0 qr0 qc0 qt0 qd0 qs0 qf0 qw0 rowCount anyKept (oPort C qn0 qn1 qn2 qn3 qn4 qn5 qn6 now (oPort C qr0 qr1 qr2 qr3 qr4 qr5 qr6 trial (oPort C qc0 qc1 qc2 qc3 qc4 qc5 qc6 calm [])))) sz) := by
  refine Met.ofW (cc := cX5_stir) (maxL := 5) (ret := (some .int)) (by decide) rfl ?_
  intro p e s m args below meth c s₁ B hml hv
  obtain ⟨rfl, hsz, hP, hK, hD0, hE⟩ := hv
  have hx := B.exec
  have hb := B.bytes
  have hr := B.returns
  have hts := atoms_spec (ws := wsX5_stir) B.pre
  have hown : s.vm.findClass RX5 = some m.cls := findClass_of_methodNamed B.named
  have hlocks := B.notSynchronized
  subst hsz
  have hi_RX1 : ∀ w ∈ wsX10, w ∈ wsX5_stir := fun _ h => List.mem_cons_of_mem _ (List.mem_append_right _ h)
  have hi_RX5 : ∀ w ∈ wsX50, w ∈ wsX5_stir := fun _ h => List.mem_cons_of_mem _ (List.mem_append_left _ (List.mem_append_right _ h))
  have hD := hD0.self (sz := s.heap.size)
  obtain ⟨A, hAe⟩ := nm_ex (va_A (oTM q0 qn0 qk0 qr0 qc0 qt0 qd0 qs0 qf0 qw0 rowCount anyKept (oPort C qn0 qn1 qn2 qn3 qn4 qn5 qn6 now (oPort C qr0 qr1 qr2 qr3 qr4 qr5 qr6 trial (oPort C qc0 qc1 qc2 qc3 qc4 qc5 qc6 calm [])))) s.heap.size)
  rw [← hAe] at hD hE ⊢
  have hA : ∀ q : Nat, s.heap.size ≤ q → A q := fun q h => by rw [hAe]; exact Or.inr h
  have hS : va_S A s.heap s.heap [] := va_S.rf
  have hl := lv_entry ([.ref q0, .int x0]) (n := 5) (Nat.le_of_ble_eq_true rfl)
  rw [lg_entry_eq]
  generalize (lg_sl ([.ref q0, .int x0]) ++ List.replicate (5 - (lg_sl ([.ref q0, .int x0])).length) Slot.unset).toArray = ls at hl ⊢
  have hl : lv_has ls 5 [(0, .ref q0), (1, .int x0)] := hl
  obtain ⟨Q, hQ⟩ := nm_ex (MQ below (QI D C (oTM q0 qn0 qk0 qr0 qc0 qt0 qd0 qs0 qf0 qw0 rowCount anyKept (oPort C qn0 qn1 qn2 qn3 qn4 qn5 qn6 now (oPort C qr0 qr1 qr2 qr3 qr4 qr5 qr6 trial (oPort C qc0 qc1 qc2 qc3 qc4 qc5 qc6 calm [])))) (oTM q0 qn0 qk0 qr0 qc0 qt0 qd0 qs0 qf0 qw0 rowCount anyKept (oPort C qn0 qn1 qn2 qn3 qn4 qn5 qn6 now (oPort C qr0 qr1 qr2 qr3 qr4 qr5 qr6 (trial') (oPort C qc0 qc1 qc2 qc3 qc4 qc5 qc6 (calm') [])))) s.heap.size r) (List.toArray [Value.ref q0, Value.int x0]) s 0 0 A)
  show W p l e (headSpec wsX5_stir (rmX5_stir)).room s m (List.toArray [Value.ref q0, Value.int x0]) below meth c s.heap [] 0 0 (MQ below (QI D C (oTM q0 qn0 qk0 qr0 qc0 qt0 qd0 qs0 qf0 qw0 rowCount anyKept (oPort C qn0 qn1 qn2 qn3 qn4 qn5 qn6 now (oPort C qr0 qr1 qr2 qr3 qr4 qr5 qr6 trial (oPort C qc0 qc1 qc2 qc3 qc4 qc5 qc6 calm [])))) (oTM q0 qn0 qk0 qr0 qc0 qt0 qd0 qs0 qf0 qw0 rowCount anyKept (oPort C qn0 qn1 qn2 qn3 qn4 qn5 qn6 now (oPort C qr0 qr1 qr2 qr3 qr4 qr5 qr6 (trial') (oPort C qc0 qc1 qc2 qc3 qc4 qc5 qc6 (calm') [])))) s.heap.size r) (List.toArray [Value.ref q0, Value.int x0]) s 0 0 A) _
  rw [← hQ]
  unfold f_X5_stir at hf
  have main : ∀ (H : Heap) (locs : List Loc), va_P D vwCl (oTM q0 qn0 qk0 qr0 qc0 qt0 qd0 qs0 qf0 qw0 rowCount anyKept (oPort C qn0 qn1 qn2 qn3 qn4 qn5 qn6 now (oPort C qr0 qr1 qr2 qr3 qr4 qr5 qr6 trial (oPort C qc0 qc1 qc2 qc3 qc4 qc5 qc6 calm [])))) H → va_D A (oTM q0 qn0 qk0 qr0 qc0 qt0 qd0 qs0 qf0 qw0 rowCount anyKept (oPort C qn0 qn1 qn2 qn3 qn4 qn5 qn6 now (oPort C qr0 qr1 qr2 qr3 qr4 qr5 qr6 trial (oPort C qc0 qc1 qc2 qc3 qc4 qc5 qc6 calm [])))) → va_S A s.heap H locs → W p l e (headSpec wsX5_stir (rmX5_stir)).room s m (List.toArray [Value.ref q0, Value.int x0]) below meth c H locs 0 0 Q (F0 m 0 ls []) := by
    intro H locs hP hD hS
    refine lv_iload_n hx hb dX5_stir_0 rfl (lv_at hl 1 rfl) ?_
    refine lv_iconst (v := 1) hx hb dX5_stir_1 rfl ?_
    refine lv_bipush (v := 30) hx hb dX5_stir_2 rfl ?_
    refine kcz (Wx := (oTM q0 qn0 qk0 qr0 qc0 qt0 qd0 qs0 qf0 qw0 rowCount anyKept (oPort C qn0 qn1 qn2 qn3 qn4 qn5 qn6 now (oPort C qr0 qr1 qr2 qr3 qr4 qr5 qr6 trial (oPort C qc0 qc1 qc2 qc3 qc4 qc5 qc6 calm []))))) (va_runS (As := [.int x0, .int 1, .int 30]) (rest := []) ⟨hx, hb, hml, hown, hts⟩ (c_X5_within l E D C H.size x0 1 30 _ rfl) (va_cwS 3 hts gX5_stir_X5_within rfl rfl rfl hdX5_within ⟨Nat.le_of_ble_eq_true rfl, Nat.le_of_ble_eq_true rfl⟩) (kpre hP hD hK hS hE hA [] rfl rfl) rfl rfl hl.1 rfl (lv_room (Nat.le_of_ble_eq_true rfl)) dX5_stir_4 ⟨Nat.zero_le _, Nat.zero_le _⟩) hP hD hS hA [] rfl rfl rfl (fun H locs hz1 hP hD hS => ?_)
    refine lv_if_ne (tgt := 12) hx hb dX5_stir_7 (by decide) (fun c2 => ?_) (fun c2 => ?_)
    · replace hf := if_fe c2 hf
      refine lv_aload_n hx hb dX5_stir_12 rfl (lv_at hl 0 rfl) ?_
      refine va_get (D := D) (ci := 5) (v := .ref qc0) (C := RX5) (T := TX5) (N := 11) hx hb hts hi_RX5 hown hK hP 0 rfl rfl 3 (by decide) (hts (.fieldLink RX5 22 "TravelMarks" "calm" "LTravelMarks$Port;") (List.mem_of_getElem? (i := 1) rfl)) (fun _ h9 => h9) rfl dX5_stir_13 ?_
      refine lv_aload_n hx hb dX5_stir_16 rfl (lv_at hl 0 rfl) ?_
      refine va_get (D := D) (ci := 5) (v := .ref qn0) (C := RX5) (T := TX5) (N := 11) hx hb hts hi_RX5 hown hK hP 0 rfl rfl 0 (by decide) (hts (.fieldLink RX5 10 "TravelMarks" "now" "LTravelMarks$Port;") (List.mem_of_getElem? (i := 2) rfl)) (fun _ h9 => h9) rfl dX5_stir_17 ?_
      obtain ⟨v3, h4, hf⟩ := ob1_e hf
      refine kcv (Wx := (oTM q0 qn0 qk0 qr0 qc0 qt0 qd0 qs0 qf0 qw0 rowCount anyKept (oPort C qn0 qn1 qn2 qn3 qn4 qn5 qn6 now (oPort C qr0 qr1 qr2 qr3 qr4 qr5 qr6 trial (oPort C qc0 qc1 qc2 qc3 qc4 qc5 qc6 v3 []))))) (va_runV (As := [.ref qn0]) (rest := []) ⟨hx, hb, hml, hown, hts⟩ (c_X1_become l E D C qc0 qc1 qc2 qc3 qc4 qc5 qc6 qn0 qn1 qn2 qn3 qn4 qn5 qn6 H.size calm now v3 h4) (cwV 1 hts gX5_stir_X1_become rfl rfl rfl hdX1_become ⟨Nat.le_of_ble_eq_true rfl, Nat.le_of_ble_eq_true rfl⟩) (kpreV hP hD hK hS hE hA [15, 16, 17, 18, 19, 20, 21, 1, 2, 3, 4, 5, 6, 7] rfl rfl 15 rfl rfl rfl) rfl rfl hl.1 rfl (lv_room (Nat.le_of_ble_eq_true rfl)) dX5_stir_20 ⟨Nat.zero_le _, Nat.zero_le _⟩) hP hD hS hA [15, 16, 17, 18, 19, 20, 21, 1, 2, 3, 4, 5, 6, 7] rfl rfl rfl (fun H locs hP hD hS => ?_)
      refine lv_aload_n hx hb dX5_stir_23 rfl (lv_at hl 0 rfl) ?_
      refine va_get (D := D) (ci := 5) (v := .ref qc0) (C := RX5) (T := TX5) (N := 11) hx hb hts hi_RX5 hown hK hP 0 rfl rfl 3 (by decide) (hts (.fieldLink RX5 22 "TravelMarks" "calm" "LTravelMarks$Port;") (List.mem_of_getElem? (i := 1) rfl)) (fun _ h9 => h9) rfl dX5_stir_24 ?_
      obtain ⟨v5, h6, hf⟩ := ob1_e hf
      refine kcv (Wx := (oTM q0 qn0 qk0 qr0 qc0 qt0 qd0 qs0 qf0 qw0 rowCount anyKept (oPort C qn0 qn1 qn2 qn3 qn4 qn5 qn6 now (oPort C qr0 qr1 qr2 qr3 qr4 qr5 qr6 trial (oPort C qc0 qc1 qc2 qc3 qc4 qc5 qc6 v5 []))))) (va_runV (As := []) (rest := []) ⟨hx, hb, hml, hown, hts⟩ (c_X1_passHour l E D C qc0 qc1 qc2 qc3 qc4 qc5 qc6 H.size N v3 v5 h6) (cwV 0 hts gX5_stir_X1_passHour rfl rfl rfl hdX1_passHour ⟨Nat.le_of_ble_eq_true rfl, Nat.le_of_ble_eq_true rfl⟩) (kpreV hP hD hK hS hE hA [15, 16, 17, 18, 19, 20, 21] rfl rfl 15 rfl rfl rfl) rfl rfl hl.1 rfl (lv_room (Nat.le_of_ble_eq_true rfl)) dX5_stir_27 ⟨Nat.zero_le _, Nat.zero_le _⟩) hP hD hS hA [15, 16, 17, 18, 19, 20, 21] rfl rfl rfl (fun H locs hP hD hS => ?_)
      refine lv_aload_n hx hb dX5_stir_30 rfl (lv_at hl 0 rfl) ?_
      refine va_get (D := D) (ci := 5) (v := .ref qn0) (C := RX5) (T := TX5) (N := 11) hx hb hts hi_RX5 hown hK hP 0 rfl rfl 0 (by decide) (hts (.fieldLink RX5 10 "TravelMarks" "now" "LTravelMarks$Port;") (List.mem_of_getElem? (i := 2) rfl)) (fun _ h9 => h9) rfl dX5_stir_31 ?_
      refine va_get (D := D) (ci := 1) (v := .int (pZ now)) (C := RX1) (T := TX1) (N := 10) hx hb hts hi_RX1 hown hK hP 1 rfl rfl 8 (by decide) (hts (.fieldLink RX5 68 "TravelMarks$Port" "z" "I") (List.mem_of_getElem? (i := 3) rfl)) (fun _ h9 => h9) rfl dX5_stir_34 ?_
      obtain ⟨t7, et7, hf⟩ := lj_e hf
      refine lv_ren et7 ?_
      refine lv_istore_n (lv' := [(2, .int t7), (0, .ref q0), (1, .int x0)]) hx hb dX5_stir_37 rfl hl (by decide) rfl (fun ls hl => ?_)
      refine lv_iconst (v := 0) hx hb dX5_stir_38 rfl ?_
      refine lv_istore_n (lv' := [(3, .int 0), (2, .int t7), (0, .ref q0), (1, .int x0)]) hx hb dX5_stir_39 rfl hl (by decide) rfl (fun ls hl => ?_)
      refine lv_iconst (v := 0) hx hb dX5_stir_40 rfl ?_
      refine lv_istore (lv' := [(4, .int 0), (3, .int 0), (2, .int t7), (0, .ref q0), (1, .int x0)]) hx hb dX5_stir_41 hl (by decide) rfl (fun ls hl => ?_)
      have hL43 : ∀ (n : Nat) (i8 : Int32) (i9 : Int32) (i10 : Int32) (v11 : PV) (H : Heap) (locs : List Loc) (ls : Array Slot), va_P D vwCl (oTM q0 qn0 qk0 qr0 qc0 qt0 qd0 qs0 qf0 qw0 rowCount anyKept (oPort C qn0 qn1 qn2 qn3 qn4 qn5 qn6 now (oPort C qr0 qr1 qr2 qr3 qr4 qr5 qr6 v11 (oPort C qc0 qc1 qc2 qc3 qc4 qc5 qc6 v5 [])))) H → va_D A (oTM q0 qn0 qk0 qr0 qc0 qt0 qd0 qs0 qf0 qw0 rowCount anyKept (oPort C qn0 qn1 qn2 qn3 qn4 qn5 qn6 now (oPort C qr0 qr1 qr2 qr3 qr4 qr5 qr6 v11 (oPort C qc0 qc1 qc2 qc3 qc4 qc5 qc6 v5 [])))) → va_S A s.heap H locs → lv_has ls 5 [(4, .int i8), (3, .int i9), (2, .int i10), (0, .ref q0), (1, .int x0)] → f_X5_stir_L43 N now x0 v5 n i8 i9 i10 v11 = some (r, trial', calm') → W p l e (headSpec wsX5_stir (rmX5_stir)).room s m (List.toArray [Value.ref q0, Value.int x0]) below meth c H locs 0 0 Q (F0 m 43 ls []) := by
        intro n
        induction n with
        | zero =>
          intro i8 i9 i10 v11 H locs ls hP hD hS hl hf
          exact absurd hf (fun h => by cases h)
        | succ n ih =>
          intro i8 i9 i10 v11 H locs ls hP hD hS hl hf
          rw [f_X5_stir_L43] at hf
          refine lv_iload hx hb dX5_stir_43 (lv_at hl 0 rfl) ?_
          refine lv_iload_n hx hb dX5_stir_45 rfl (lv_at hl 4 rfl) ?_
          refine lv_icmp_ge (tgt := 106) hx hb dX5_stir_46 (by decide) (fun c12 => ?_) (fun c12 => ?_)
          · replace hf := if_te c12 hf
            refine lv_iload_n hx hb dX5_stir_106 rfl (lv_at hl 1 rfl) ?_
            cases hf
            exact kri hQ hAe hx hb hr hlocks hP hD hK hS dX5_stir_107
          · replace hf := if_fe c12 hf
            refine lv_aload_n hx hb dX5_stir_49 rfl (lv_at hl 3 rfl) ?_
            refine va_get (D := D) (ci := 5) (v := .ref qr0) (C := RX5) (T := TX5) (N := 11) hx hb hts hi_RX5 hown hK hP 0 rfl rfl 2 (by decide) (hts (.fieldLink RX5 19 "TravelMarks" "trial" "LTravelMarks$Port;") (List.mem_of_getElem? (i := 4) rfl)) (fun _ h9 => h9) rfl dX5_stir_50 ?_
            refine lv_aload_n hx hb dX5_stir_53 rfl (lv_at hl 3 rfl) ?_
            refine va_get (D := D) (ci := 5) (v := .ref qn0) (C := RX5) (T := TX5) (N := 11) hx hb hts hi_RX5 hown hK hP 0 rfl rfl 0 (by decide) (hts (.fieldLink RX5 10 "TravelMarks" "now" "LTravelMarks$Port;") (List.mem_of_getElem? (i := 2) rfl)) (fun _ h9 => h9) rfl dX5_stir_54 ?_
            obtain ⟨v13, h14, hf⟩ := ob1_e hf
            refine kcv (Wx := (oTM q0 qn0 qk0 qr0 qc0 qt0 qd0 qs0 qf0 qw0 rowCount anyKept (oPort C qn0 qn1 qn2 qn3 qn4 qn5 qn6 now (oPort C qr0 qr1 qr2 qr3 qr4 qr5 qr6 v13 (oPort C qc0 qc1 qc2 qc3 qc4 qc5 qc6 v5 []))))) (va_runV (As := [.ref qn0]) (rest := []) ⟨hx, hb, hml, hown, hts⟩ (c_X1_become l E D C qr0 qr1 qr2 qr3 qr4 qr5 qr6 qn0 qn1 qn2 qn3 qn4 qn5 qn6 H.size v11 now v13 h14) (cwV 1 hts gX5_stir_X1_become rfl rfl rfl hdX1_become ⟨Nat.le_of_ble_eq_true rfl, Nat.le_of_ble_eq_true rfl⟩) (kpreV hP hD hK hS hE hA [8, 9, 10, 11, 12, 13, 14, 1, 2, 3, 4, 5, 6, 7] rfl rfl 8 rfl rfl rfl) rfl rfl hl.1 rfl (lv_room (Nat.le_of_ble_eq_true rfl)) dX5_stir_57 ⟨Nat.zero_le _, Nat.zero_le _⟩) hP hD hS hA [8, 9, 10, 11, 12, 13, 14, 1, 2, 3, 4, 5, 6, 7] rfl rfl rfl (fun H locs hP hD hS => ?_)
            refine lv_aload_n hx hb dX5_stir_60 rfl (lv_at hl 3 rfl) ?_
            refine va_get (D := D) (ci := 5) (v := .ref qr0) (C := RX5) (T := TX5) (N := 11) hx hb hts hi_RX5 hown hK hP 0 rfl rfl 2 (by decide) (hts (.fieldLink RX5 19 "TravelMarks" "trial" "LTravelMarks$Port;") (List.mem_of_getElem? (i := 4) rfl)) (fun _ h9 => h9) rfl dX5_stir_61 ?_
            refine lv_iload_n hx hb dX5_stir_64 rfl (lv_at hl 2 rfl) ?_
            refine va_put (D := D) (ci := 1) (v := .int i10) (ty := .int) (C := RX1) (T := TX1) (N := 10) hx hb hts hi_RX1 tyX1 tyX1_ok nmX1 hown hK hP hD hS 8 rfl rfl 8 (by decide) (hts (.fieldLink RX5 68 "TravelMarks$Port" "z" "I") (List.mem_of_getElem? (i := 3) rfl)) (fun _ h9 => h9) rfl (tyX1_ok 8 (by decide)) rfl rfl (Nat.le_of_ble_eq_true rfl) dX5_stir_65 (fun H locs hP hD hS => ?_)
            obtain ⟨v15, ev15, hf⟩ := lj_e hf
            have hP : va_P D vwCl (oTM q0 qn0 qk0 qr0 qc0 qt0 qd0 qs0 qf0 qw0 rowCount anyKept (oPort C qn0 qn1 qn2 qn3 qn4 qn5 qn6 now (oPort C qr0 qr1 qr2 qr3 qr4 qr5 qr6 v15 (oPort C qc0 qc1 qc2 qc3 qc4 qc5 qc6 v5 [])))) H := by rw [ev15]; exact hP
            have hD : va_D A (oTM q0 qn0 qk0 qr0 qc0 qt0 qd0 qs0 qf0 qw0 rowCount anyKept (oPort C qn0 qn1 qn2 qn3 qn4 qn5 qn6 now (oPort C qr0 qr1 qr2 qr3 qr4 qr5 qr6 v15 (oPort C qc0 qc1 qc2 qc3 qc4 qc5 qc6 v5 [])))) := by rw [ev15]; exact hD
            refine lv_aload_n hx hb dX5_stir_68 rfl (lv_at hl 3 rfl) ?_
            refine va_get (D := D) (ci := 5) (v := .ref qr0) (C := RX5) (T := TX5) (N := 11) hx hb hts hi_RX5 hown hK hP 0 rfl rfl 2 (by decide) (hts (.fieldLink RX5 19 "TravelMarks" "trial" "LTravelMarks$Port;") (List.mem_of_getElem? (i := 4) rfl)) (fun _ h9 => h9) rfl dX5_stir_69 ?_
            obtain ⟨v16, h17, hf⟩ := ob1_e hf
            refine kcv (Wx := (oTM q0 qn0 qk0 qr0 qc0 qt0 qd0 qs0 qf0 qw0 rowCount anyKept (oPort C qn0 qn1 qn2 qn3 qn4 qn5 qn6 now (oPort C qr0 qr1 qr2 qr3 qr4 qr5 qr6 v16 (oPort C qc0 qc1 qc2 qc3 qc4 qc5 qc6 v5 []))))) (va_runV (As := []) (rest := []) ⟨hx, hb, hml, hown, hts⟩ (c_X1_passHourByDraws l E D C qr0 qr1 qr2 qr3 qr4 qr5 qr6 H.size N v15 v16 h17) (cwV 0 hts gX5_stir_X1_passHourByDraws rfl rfl rfl hdX1_passHourByDraws ⟨Nat.le_of_ble_eq_true rfl, Nat.le_of_ble_eq_true rfl⟩) (kpreV hP hD hK hS hE hA [8, 9, 10, 11, 12, 13, 14] rfl rfl 8 rfl rfl rfl) rfl rfl hl.1 rfl (lv_room (Nat.le_of_ble_eq_true rfl)) dX5_stir_72 ⟨Nat.zero_le _, Nat.zero_le _⟩) hP hD hS hA [8, 9, 10, 11, 12, 13, 14] rfl rfl rfl (fun H locs hP hD hS => ?_)
            refine lv_aload_n hx hb dX5_stir_75 rfl (lv_at hl 3 rfl) ?_
            refine va_get (D := D) (ci := 5) (v := .ref qr0) (C := RX5) (T := TX5) (N := 11) hx hb hts hi_RX5 hown hK hP 0 rfl rfl 2 (by decide) (hts (.fieldLink RX5 19 "TravelMarks" "trial" "LTravelMarks$Port;") (List.mem_of_getElem? (i := 4) rfl)) (fun _ h9 => h9) rfl dX5_stir_76 ?_
            refine va_get (D := D) (ci := 1) (v := .int (pZ v16)) (C := RX1) (T := TX1) (N := 10) hx hb hts hi_RX1 hown hK hP 8 rfl rfl 8 (by decide) (hts (.fieldLink RX5 68 "TravelMarks$Port" "z" "I") (List.mem_of_getElem? (i := 3) rfl)) (fun _ h9 => h9) rfl dX5_stir_79 ?_
            obtain ⟨t18, et18, hf⟩ := lj_e hf
            refine lv_ren et18 ?_
            refine lv_istore_n (lv' := [(2, .int t18), (4, .int i8), (3, .int i9), (0, .ref q0), (1, .int x0)]) hx hb dX5_stir_82 rfl hl (by decide) rfl (fun ls hl => ?_)
            refine lv_aload_n hx hb dX5_stir_83 rfl (lv_at hl 3 rfl) ?_
            refine va_get (D := D) (ci := 5) (v := .ref qr0) (C := RX5) (T := TX5) (N := 11) hx hb hts hi_RX5 hown hK hP 0 rfl rfl 2 (by decide) (hts (.fieldLink RX5 19 "TravelMarks" "trial" "LTravelMarks$Port;") (List.mem_of_getElem? (i := 4) rfl)) (fun _ h9 => h9) rfl dX5_stir_84 ?_
            refine lv_aload_n hx hb dX5_stir_87 rfl (lv_at hl 3 rfl) ?_
            refine va_get (D := D) (ci := 5) (v := .ref qc0) (C := RX5) (T := TX5) (N := 11) hx hb hts hi_RX5 hown hK hP 0 rfl rfl 3 (by decide) (hts (.fieldLink RX5 22 "TravelMarks" "calm" "LTravelMarks$Port;") (List.mem_of_getElem? (i := 1) rfl)) (fun _ h9 => h9) rfl dX5_stir_88 ?_
            obtain ⟨r19, h20, hf⟩ := ob1_e hf
            refine kcz (Wx := (oTM q0 qn0 qk0 qr0 qc0 qt0 qd0 qs0 qf0 qw0 rowCount anyKept (oPort C qn0 qn1 qn2 qn3 qn4 qn5 qn6 now (oPort C qr0 qr1 qr2 qr3 qr4 qr5 qr6 v16 (oPort C qc0 qc1 qc2 qc3 qc4 qc5 qc6 v5 []))))) (va_runV (As := [.ref qc0]) (rest := []) ⟨hx, hb, hml, hown, hts⟩ (c_X1_liesAs l E D C qr0 qr1 qr2 qr3 qr4 qr5 qr6 qc0 qc1 qc2 qc3 qc4 qc5 qc6 H.size N v16 v5 r19 h20) (cwV 1 hts gX5_stir_X1_liesAs rfl rfl rfl hdX1_liesAs ⟨Nat.le_of_ble_eq_true rfl, Nat.le_of_ble_eq_true rfl⟩) (kpreV hP hD hK hS hE hA [8, 9, 10, 11, 12, 13, 14, 15, 16, 17, 18, 19, 20, 21] rfl rfl 8 rfl rfl rfl) rfl rfl hl.1 rfl (lv_room (Nat.le_of_ble_eq_true rfl)) dX5_stir_91 ⟨Nat.zero_le _, Nat.zero_le _⟩) hP hD hS hA [8, 9, 10, 11, 12, 13, 14, 15, 16, 17, 18, 19, 20, 21] rfl rfl rfl (fun H locs hz21 hP hD hS => ?_)
            obtain ⟨j23, hj23, hf⟩ := lj_e hf
            have Hj23 : ∀ (i22 : Int32) (H : Heap) (locs : List Loc) (ls : Array Slot), va_P D vwCl (oTM q0 qn0 qk0 qr0 qc0 qt0 qd0 qs0 qf0 qw0 rowCount anyKept (oPort C qn0 qn1 qn2 qn3 qn4 qn5 qn6 now (oPort C qr0 qr1 qr2 qr3 qr4 qr5 qr6 v16 (oPort C qc0 qc1 qc2 qc3 qc4 qc5 qc6 v5 [])))) H → va_D A (oTM q0 qn0 qk0 qr0 qc0 qt0 qd0 qs0 qf0 qw0 rowCount anyKept (oPort C qn0 qn1 qn2 qn3 qn4 qn5 qn6 now (oPort C qr0 qr1 qr2 qr3 qr4 qr5 qr6 v16 (oPort C qc0 qc1 qc2 qc3 qc4 qc5 qc6 v5 [])))) → va_S A s.heap H locs → lv_has ls 5 [(2, .int t18), (4, .int i8), (3, .int i22), (0, .ref q0), (1, .int x0)] → j23 i22 = some (r, trial', calm') → W p l e (headSpec wsX5_stir (rmX5_stir)).room s m (List.toArray [Value.ref q0, Value.int x0]) below meth c H locs 0 0 Q (F0 m 100 ls []) := by
              intro i22 H locs ls hP hD hS hl hf
              rw [hj23] at hf
              obtain ⟨t24, et24, hf⟩ := lj_e hf
              refine lv_iinc (v := t24) (lv' := [(4, .int t24), (2, .int t18), (3, .int i22), (0, .ref q0), (1, .int x0)]) hx hb dX5_stir_100 hl (k := 1) rfl (by rw [et24]; rfl) (by decide) rfl (fun ls hl => ?_)
              refine lv_goto (tgt := 43) hx hb dX5_stir_103 (by decide) ?_
              exact ih t24 i22 t18 v16 H locs ls hP hD hS (lv_sub hl [0, 2, 1, 3, 4] rfl) hf
            refine lv_if_ne (tgt := 100) hx hb dX5_stir_94 (by decide) (fun c25 => ?_) (fun c25 => ?_)
            · replace hf := if_fe c25 hf
              exact Hj23 i9 H locs ls hP hD hS (lv_sub hl [0, 1, 2, 3, 4] rfl) hf
            · replace hf := if_te c25 hf
              obtain ⟨t26, et26, hf⟩ := lj_e hf
              refine lv_iinc (v := t26) (lv' := [(3, .int t26), (2, .int t18), (4, .int i8), (0, .ref q0), (1, .int x0)]) hx hb dX5_stir_97 hl (k := 2) rfl (by rw [et26]; rfl) (by decide) rfl (fun ls hl => ?_)
              exact Hj23 t26 H locs ls hP hD hS (lv_sub hl [1, 2, 0, 3, 4] rfl) hf
      exact hL43 N 0 0 t7 trial H locs ls hP hD hS (lv_sub hl [0, 1, 2, 3, 4] rfl) hf
    · replace hf := if_te c2 hf
      refine lv_iconst (v := (-1)) hx hb dX5_stir_10 rfl ?_
      cases hf
      exact kri hQ hAe hx hb hr hlocks hP hD hK hS dX5_stir_11
  exact main _ _ hP hD hS

def rmX5_state : Room := { frames := 3, cells := 0, slots := 0, locals := 67 }
theorem hdX5_state : yX5_state.cls = RX5 ∧ yX5_state.cls ≠ "java/lang/invoke/MethodHandle" ∧ yX5_state.cls ≠ "java/lang/invoke/VarHandle" ∧ (parseMethodDescriptor yX5_state.desc).map (fun d => d.parameters.length) = some 1 := by decide +kernel
set_option maxHeartbeats 40000000 in
set_option maxRecDepth 100000 in
theorem c_X5_state (l : Launch) (E : Nat → Nat) (D : va_G) (C : Nat → ClassId) (q0 qn0 qk0 qr0 qc0 qt0 qd0 qs0 qf0 qw0 qn1 qn2 qn3 qn4 qn5 qn6 : Nat) (sz : Nat) (N : Nat) (rowCount : Int32) (anyKept : Int32) (now : PV) (x0 : Int32) (r : Int32) (hf : f_X5_state N now x0 = some r) : Met l yX5_state wsX5_state rmX5_state (PC E D C [.ref q0, .int x0] (oTM q0 qn0 qk0 qr0 qc0 qt0 qd0 qs0 qf0 qw0 rowCount anyKept (oPort C qn0 qn1 qn2 qn3 qn4 qn5 qn6 now [])) sz) (QI D C (oTM q0 qn0 qk0 qr0 qc0 qt0 qd0 qs0 qf0 qw0 rowCount anyKept (oPort C qn0 qn1 qn2 qn3 qn4 qn5 qn6 now [])) (oTM q0 qn0 qk0 qr0 qc0 qt0 qd0 qs0 qf0 qw0 rowCount anyKept (oPort C qn0 qn1 qn2 qn3 qn4 qn5 qn6 now [])) sz r) 0 0 (va_A (oTM q0 qn0 qk0 qr0 qc0 qt0 qd0 qs0 qf0 qw0 rowCount anyKept (oPort C qn0 qn1 qn2 qn3 qn4 qn5 qn6 now [])) sz) := by
  refine Met.ofW (cc := cX5_state) (maxL := 2) (ret := (some .int)) (by decide) rfl ?_
  intro p e s m args below meth c s₁ B hml hv
  obtain ⟨rfl, hsz, hP, hK, hD0, hE⟩ := hv
  have hx := B.exec
  have hb := B.bytes
  have hr := B.returns
  have hts := atoms_spec (ws := wsX5_state) B.pre
  have hown : s.vm.findClass RX5 = some m.cls := findClass_of_methodNamed B.named
  have hlocks := B.notSynchronized
  subst hsz
  have hi_RX1 : ∀ w ∈ wsX10, w ∈ wsX5_state := fun _ h => List.mem_cons_of_mem _ (List.mem_append_right _ h)
  have hi_RX5 : ∀ w ∈ wsX50, w ∈ wsX5_state := fun _ h => List.mem_cons_of_mem _ (List.mem_append_left _ (List.mem_append_right _ h))
  have hD := hD0.self (sz := s.heap.size)
  obtain ⟨A, hAe⟩ := nm_ex (va_A (oTM q0 qn0 qk0 qr0 qc0 qt0 qd0 qs0 qf0 qw0 rowCount anyKept (oPort C qn0 qn1 qn2 qn3 qn4 qn5 qn6 now [])) s.heap.size)
  rw [← hAe] at hD hE ⊢
  have hA : ∀ q : Nat, s.heap.size ≤ q → A q := fun q h => by rw [hAe]; exact Or.inr h
  have hS : va_S A s.heap s.heap [] := va_S.rf
  have hl := lv_entry ([.ref q0, .int x0]) (n := 2) (Nat.le_of_ble_eq_true rfl)
  rw [lg_entry_eq]
  generalize (lg_sl ([.ref q0, .int x0]) ++ List.replicate (2 - (lg_sl ([.ref q0, .int x0])).length) Slot.unset).toArray = ls at hl ⊢
  have hl : lv_has ls 2 [(0, .ref q0), (1, .int x0)] := hl
  obtain ⟨Q, hQ⟩ := nm_ex (MQ below (QI D C (oTM q0 qn0 qk0 qr0 qc0 qt0 qd0 qs0 qf0 qw0 rowCount anyKept (oPort C qn0 qn1 qn2 qn3 qn4 qn5 qn6 now [])) (oTM q0 qn0 qk0 qr0 qc0 qt0 qd0 qs0 qf0 qw0 rowCount anyKept (oPort C qn0 qn1 qn2 qn3 qn4 qn5 qn6 now [])) s.heap.size r) (List.toArray [Value.ref q0, Value.int x0]) s 0 0 A)
  show W p l e (headSpec wsX5_state (rmX5_state)).room s m (List.toArray [Value.ref q0, Value.int x0]) below meth c s.heap [] 0 0 (MQ below (QI D C (oTM q0 qn0 qk0 qr0 qc0 qt0 qd0 qs0 qf0 qw0 rowCount anyKept (oPort C qn0 qn1 qn2 qn3 qn4 qn5 qn6 now [])) (oTM q0 qn0 qk0 qr0 qc0 qt0 qd0 qs0 qf0 qw0 rowCount anyKept (oPort C qn0 qn1 qn2 qn3 qn4 qn5 qn6 now [])) s.heap.size r) (List.toArray [Value.ref q0, Value.int x0]) s 0 0 A) _
  rw [← hQ]
  unfold f_X5_state at hf
  have main : ∀ (H : Heap) (locs : List Loc), va_P D vwCl (oTM q0 qn0 qk0 qr0 qc0 qt0 qd0 qs0 qf0 qw0 rowCount anyKept (oPort C qn0 qn1 qn2 qn3 qn4 qn5 qn6 now [])) H → va_D A (oTM q0 qn0 qk0 qr0 qc0 qt0 qd0 qs0 qf0 qw0 rowCount anyKept (oPort C qn0 qn1 qn2 qn3 qn4 qn5 qn6 now [])) → va_S A s.heap H locs → W p l e (headSpec wsX5_state (rmX5_state)).room s m (List.toArray [Value.ref q0, Value.int x0]) below meth c H locs 0 0 Q (F0 m 0 ls []) := by
    intro H locs hP hD hS
    refine lv_iload_n hx hb dX5_state_0 rfl (lv_at hl 1 rfl) ?_
    by_cases c1 : x0 = 0
    · replace hf := if_te c1 hf
      refine lv_tableIn (x := x0) (tgt := 40) (off := 39) hx hb dX5_state_1 (by rw [c1]; decide) (by rw [c1]; decide) (by rw [c1]; try rfl) (by decide) ?_
      refine lv_aload_n hx hb dX5_state_40 rfl (lv_at hl 0 rfl) ?_
      refine va_get (D := D) (ci := 5) (v := .ref qn0) (C := RX5) (T := TX5) (N := 11) hx hb hts hi_RX5 hown hK hP 0 rfl rfl 0 (by decide) (hts (.fieldLink RX5 10 "TravelMarks" "now" "LTravelMarks$Port;") (List.mem_of_getElem? (i := 1) rfl)) (fun _ h9 => h9) rfl dX5_state_41 ?_
      refine va_get (D := D) (ci := 1) (v := .int (pHour now)) (C := RX1) (T := TX1) (N := 10) hx hb hts hi_RX1 hown hK hP 1 rfl rfl 7 (by decide) (hts (.fieldLink RX5 168 "TravelMarks$Port" "hour" "I") (List.mem_of_getElem? (i := 2) rfl)) (fun _ h9 => h9) rfl dX5_state_44 ?_
      obtain ⟨t2, et2, hf⟩ := lj_e hf
      refine lv_ren et2 ?_
      cases hf
      exact kri hQ hAe hx hb hr hlocks hP hD hK hS dX5_state_47
    replace hf := if_fe c1 hf
    by_cases c3 : x0 = 1
    · replace hf := if_te c3 hf
      refine lv_tableIn (x := x0) (tgt := 48) (off := 47) hx hb dX5_state_1 (by rw [c3]; decide) (by rw [c3]; decide) (by rw [c3]; try rfl) (by decide) ?_
      refine lv_aload_n hx hb dX5_state_48 rfl (lv_at hl 0 rfl) ?_
      refine va_get (D := D) (ci := 5) (v := .ref qn0) (C := RX5) (T := TX5) (N := 11) hx hb hts hi_RX5 hown hK hP 0 rfl rfl 0 (by decide) (hts (.fieldLink RX5 10 "TravelMarks" "now" "LTravelMarks$Port;") (List.mem_of_getElem? (i := 1) rfl)) (fun _ h9 => h9) rfl dX5_state_49 ?_
      obtain ⟨r4, h5, hf⟩ := ob1_e hf
      refine kci (Wx := (oTM q0 qn0 qk0 qr0 qc0 qt0 qd0 qs0 qf0 qw0 rowCount anyKept (oPort C qn0 qn1 qn2 qn3 qn4 qn5 qn6 now []))) (va_runV (As := []) (rest := []) ⟨hx, hb, hml, hown, hts⟩ (c_X1_allInk l E D C qn0 qn1 qn2 qn3 qn4 qn5 qn6 H.size N now r4 h5) (cwV 0 hts gX5_state_X1_allInk rfl rfl rfl hdX1_allInk ⟨Nat.le_of_ble_eq_true rfl, Nat.le_of_ble_eq_true rfl⟩) (kpreV hP hD hK hS hE hA [1, 2, 3, 4, 5, 6, 7] rfl rfl 1 rfl rfl rfl) rfl rfl hl.1 rfl (lv_room (Nat.le_of_ble_eq_true rfl)) dX5_state_52 ⟨Nat.zero_le _, Nat.zero_le _⟩) hP hD hS hA [1, 2, 3, 4, 5, 6, 7] rfl rfl rfl (fun H locs hP hD hS => ?_)
      cases hf
      exact kri hQ hAe hx hb hr hlocks hP hD hK hS dX5_state_55
    replace hf := if_fe c3 hf
    by_cases c6 : x0 = 2
    · replace hf := if_te c6 hf
      refine lv_tableIn (x := x0) (tgt := 56) (off := 55) hx hb dX5_state_1 (by rw [c6]; decide) (by rw [c6]; decide) (by rw [c6]; try rfl) (by decide) ?_
      refine lv_aload_n hx hb dX5_state_56 rfl (lv_at hl 0 rfl) ?_
      refine va_get (D := D) (ci := 5) (v := .ref qn0) (C := RX5) (T := TX5) (N := 11) hx hb hts hi_RX5 hown hK hP 0 rfl rfl 0 (by decide) (hts (.fieldLink RX5 10 "TravelMarks" "now" "LTravelMarks$Port;") (List.mem_of_getElem? (i := 1) rfl)) (fun _ h9 => h9) rfl dX5_state_57 ?_
      obtain ⟨r7, h8, hf⟩ := ob1_e hf
      refine kci (Wx := (oTM q0 qn0 qk0 qr0 qc0 qt0 qd0 qs0 qf0 qw0 rowCount anyKept (oPort C qn0 qn1 qn2 qn3 qn4 qn5 qn6 now []))) (va_runV (As := []) (rest := []) ⟨hx, hb, hml, hown, hts⟩ (c_X1_marked l E D C qn0 qn1 qn2 qn3 qn4 qn5 qn6 H.size N now r7 h8) (cwV 0 hts gX5_state_X1_marked rfl rfl rfl hdX1_marked ⟨Nat.le_of_ble_eq_true rfl, Nat.le_of_ble_eq_true rfl⟩) (kpreV hP hD hK hS hE hA [1, 2, 3, 4, 5, 6, 7] rfl rfl 1 rfl rfl rfl) rfl rfl hl.1 rfl (lv_room (Nat.le_of_ble_eq_true rfl)) dX5_state_60 ⟨Nat.zero_le _, Nat.zero_le _⟩) hP hD hS hA [1, 2, 3, 4, 5, 6, 7] rfl rfl rfl (fun H locs hP hD hS => ?_)
      cases hf
      exact kri hQ hAe hx hb hr hlocks hP hD hK hS dX5_state_63
    replace hf := if_fe c6 hf
    by_cases c9 : x0 = 3
    · replace hf := if_te c9 hf
      refine lv_tableIn (x := x0) (tgt := 64) (off := 63) hx hb dX5_state_1 (by rw [c9]; decide) (by rw [c9]; decide) (by rw [c9]; try rfl) (by decide) ?_
      refine lv_aload_n hx hb dX5_state_64 rfl (lv_at hl 0 rfl) ?_
      refine va_get (D := D) (ci := 5) (v := .ref qn0) (C := RX5) (T := TX5) (N := 11) hx hb hts hi_RX5 hown hK hP 0 rfl rfl 0 (by decide) (hts (.fieldLink RX5 10 "TravelMarks" "now" "LTravelMarks$Port;") (List.mem_of_getElem? (i := 1) rfl)) (fun _ h9 => h9) rfl dX5_state_65 ?_
      obtain ⟨r10, h11, hf⟩ := ob1_e hf
      refine kci (Wx := (oTM q0 qn0 qk0 qr0 qc0 qt0 qd0 qs0 qf0 qw0 rowCount anyKept (oPort C qn0 qn1 qn2 qn3 qn4 qn5 qn6 now []))) (va_runV (As := []) (rest := []) ⟨hx, hb, hml, hown, hts⟩ (c_X1_circles l E D C qn0 qn1 qn2 qn3 qn4 qn5 qn6 H.size N now r10 h11) (cwV 0 hts gX5_state_X1_circles rfl rfl rfl hdX1_circles ⟨Nat.le_of_ble_eq_true rfl, Nat.le_of_ble_eq_true rfl⟩) (kpreV hP hD hK hS hE hA [1, 2, 3, 4, 5, 6, 7] rfl rfl 1 rfl rfl rfl) rfl rfl hl.1 rfl (lv_room (Nat.le_of_ble_eq_true rfl)) dX5_state_68 ⟨Nat.zero_le _, Nat.zero_le _⟩) hP hD hS hA [1, 2, 3, 4, 5, 6, 7] rfl rfl rfl (fun H locs hP hD hS => ?_)
      cases hf
      exact kri hQ hAe hx hb hr hlocks hP hD hK hS dX5_state_71
    replace hf := if_fe c9 hf
    by_cases c12 : x0 = 4
    · replace hf := if_te c12 hf
      refine lv_tableIn (x := x0) (tgt := 72) (off := 71) hx hb dX5_state_1 (by rw [c12]; decide) (by rw [c12]; decide) (by rw [c12]; try rfl) (by decide) ?_
      refine lv_aload_n hx hb dX5_state_72 rfl (lv_at hl 0 rfl) ?_
      refine va_get (D := D) (ci := 5) (v := .ref qn0) (C := RX5) (T := TX5) (N := 11) hx hb hts hi_RX5 hown hK hP 0 rfl rfl 0 (by decide) (hts (.fieldLink RX5 10 "TravelMarks" "now" "LTravelMarks$Port;") (List.mem_of_getElem? (i := 1) rfl)) (fun _ h9 => h9) rfl dX5_state_73 ?_
      obtain ⟨r13, h14, hf⟩ := ob1_e hf
      refine kci (Wx := (oTM q0 qn0 qk0 qr0 qc0 qt0 qd0 qs0 qf0 qw0 rowCount anyKept (oPort C qn0 qn1 qn2 qn3 qn4 qn5 qn6 now []))) (va_runV (As := []) (rest := []) ⟨hx, hb, hml, hown, hts⟩ (c_X1_dried l E D C qn0 qn1 qn2 qn3 qn4 qn5 qn6 H.size N now r13 h14) (cwV 0 hts gX5_state_X1_dried rfl rfl rfl hdX1_dried ⟨Nat.le_of_ble_eq_true rfl, Nat.le_of_ble_eq_true rfl⟩) (kpreV hP hD hK hS hE hA [1, 2, 3, 4, 5, 6, 7] rfl rfl 1 rfl rfl rfl) rfl rfl hl.1 rfl (lv_room (Nat.le_of_ble_eq_true rfl)) dX5_state_76 ⟨Nat.zero_le _, Nat.zero_le _⟩) hP hD hS hA [1, 2, 3, 4, 5, 6, 7] rfl rfl rfl (fun H locs hP hD hS => ?_)
      cases hf
      exact kri hQ hAe hx hb hr hlocks hP hD hK hS dX5_state_79
    replace hf := if_fe c12 hf
    by_cases c15 : x0 = 5
    · replace hf := if_te c15 hf
      refine lv_tableIn (x := x0) (tgt := 80) (off := 79) hx hb dX5_state_1 (by rw [c15]; decide) (by rw [c15]; decide) (by rw [c15]; try rfl) (by decide) ?_
      refine lv_aload_n hx hb dX5_state_80 rfl (lv_at hl 0 rfl) ?_
      refine va_get (D := D) (ci := 5) (v := .ref qn0) (C := RX5) (T := TX5) (N := 11) hx hb hts hi_RX5 hown hK hP 0 rfl rfl 0 (by decide) (hts (.fieldLink RX5 10 "TravelMarks" "now" "LTravelMarks$Port;") (List.mem_of_getElem? (i := 1) rfl)) (fun _ h9 => h9) rfl dX5_state_81 ?_
      obtain ⟨r16, h17, hf⟩ := ob1_e hf
      refine kci (Wx := (oTM q0 qn0 qk0 qr0 qc0 qt0 qd0 qs0 qf0 qw0 rowCount anyKept (oPort C qn0 qn1 qn2 qn3 qn4 qn5 qn6 now []))) (va_runV (As := []) (rest := []) ⟨hx, hb, hml, hown, hts⟩ (c_X1_mostOnOne l E D C qn0 qn1 qn2 qn3 qn4 qn5 qn6 H.size N now r16 h17) (cwV 0 hts gX5_state_X1_mostOnOne rfl rfl rfl hdX1_mostOnOne ⟨Nat.le_of_ble_eq_true rfl, Nat.le_of_ble_eq_true rfl⟩) (kpreV hP hD hK hS hE hA [1, 2, 3, 4, 5, 6, 7] rfl rfl 1 rfl rfl rfl) rfl rfl hl.1 rfl (lv_room (Nat.le_of_ble_eq_true rfl)) dX5_state_84 ⟨Nat.zero_le _, Nat.zero_le _⟩) hP hD hS hA [1, 2, 3, 4, 5, 6, 7] rfl rfl rfl (fun H locs hP hD hS => ?_)
      cases hf
      exact kri hQ hAe hx hb hr hlocks hP hD hK hS dX5_state_87
    replace hf := if_fe c15 hf
    refine lv_tableOut (x := x0) (tgt := 88) hx hb dX5_state_1 (swo_0_5 c1 c3 c6 c9 c12 c15) (by decide) ?_
    refine lv_iconst (v := (-1)) hx hb dX5_state_88 rfl ?_
    cases hf
    exact kri hQ hAe hx hb hr hlocks hP hD hK hS dX5_state_89
  exact main _ _ hP hD hS

def rmX5_where : Room := { frames := 4, cells := 0, slots := 0, locals := 91 }
theorem hdX5_where : yX5_where.cls = RX5 ∧ yX5_where.cls ≠ "java/lang/invoke/MethodHandle" ∧ yX5_where.cls ≠ "java/lang/invoke/VarHandle" ∧ (parseMethodDescriptor yX5_where.desc).map (fun d => d.parameters.length) = some 2 := by decide +kernel
set_option maxHeartbeats 40000000 in
set_option maxRecDepth 100000 in
theorem c_X5_where (l : Launch) (E : Nat → Nat) (D : va_G) (C : Nat → ClassId) (q0 qn0 qk0 qr0 qc0 qt0 qd0 qs0 qf0 qw0 qn1 qn2 qn3 qn4 qn5 qn6 qr1 qr2 qr3 qr4 qr5 qr6 : Nat) (sz : Nat) (N : Nat) (rowCount : Int32) (anyKept : Int32) (now : PV) (trial : PV) (x0 : Int32) (x1 : Int32) (r : Int32) (trial' : PV) (hf : f_X5_where N now trial x0 x1 = some (r, trial')) : Met l yX5_where wsX5_where rmX5_where (PC E D C [.ref q0, .int x0, .int x1] (oTM q0 qn0 qk0 qr0 qc0 qt0 qd0 qs0 qf0 qw0 rowCount anyKept (oPort C qn0 qn1 qn2 qn3 qn4 qn5 qn6 now (oPort C qr0 qr1 qr2 qr3 qr4 qr5 qr6 trial []))) sz) (QI D C (oTM q0 qn0 qk0 qr0 qc0 qt0 qd0 qs0 qf0 qw0 rowCount anyKept (oPort C qn0 qn1 qn2 qn3 qn4 qn5 qn6 now (oPort C qr0 qr1 qr2 qr3 qr4 qr5 qr6 trial []))) (oTM q0 qn0 qk0 qr0 qc0 qt0 qd0 qs0 qf0 qw0 rowCount anyKept (oPort C qn0 qn1 qn2 qn3 qn4 qn5 qn6 now (oPort C qr0 qr1 qr2 qr3 qr4 qr5 qr6 (trial') []))) sz r) 0 0 (va_A (oTM q0 qn0 qk0 qr0 qc0 qt0 qd0 qs0 qf0 qw0 rowCount anyKept (oPort C qn0 qn1 qn2 qn3 qn4 qn5 qn6 now (oPort C qr0 qr1 qr2 qr3 qr4 qr5 qr6 trial []))) sz) := by
  refine Met.ofW (cc := cX5_where) (maxL := 4) (ret := (some .int)) (by decide) rfl ?_
  intro p e s m args below meth c s₁ B hml hv
  obtain ⟨rfl, hsz, hP, hK, hD0, hE⟩ := hv
  have hx := B.exec
  have hb := B.bytes
  have hr := B.returns
  have hts := atoms_spec (ws := wsX5_where) B.pre
  have hown : s.vm.findClass RX5 = some m.cls := findClass_of_methodNamed B.named
  have hlocks := B.notSynchronized
  subst hsz
  have hi_RX1 : ∀ w ∈ wsX10, w ∈ wsX5_where := fun _ h => List.mem_cons_of_mem _ (List.mem_append_right _ h)
  have hi_RX5 : ∀ w ∈ wsX50, w ∈ wsX5_where := fun _ h => List.mem_cons_of_mem _ (List.mem_append_left _ (List.mem_append_right _ h))
  have hD := hD0.self (sz := s.heap.size)
  obtain ⟨A, hAe⟩ := nm_ex (va_A (oTM q0 qn0 qk0 qr0 qc0 qt0 qd0 qs0 qf0 qw0 rowCount anyKept (oPort C qn0 qn1 qn2 qn3 qn4 qn5 qn6 now (oPort C qr0 qr1 qr2 qr3 qr4 qr5 qr6 trial []))) s.heap.size)
  rw [← hAe] at hD hE ⊢
  have hA : ∀ q : Nat, s.heap.size ≤ q → A q := fun q h => by rw [hAe]; exact Or.inr h
  have hS : va_S A s.heap s.heap [] := va_S.rf
  have hl := lv_entry ([.ref q0, .int x0, .int x1]) (n := 4) (Nat.le_of_ble_eq_true rfl)
  rw [lg_entry_eq]
  generalize (lg_sl ([.ref q0, .int x0, .int x1]) ++ List.replicate (4 - (lg_sl ([.ref q0, .int x0, .int x1])).length) Slot.unset).toArray = ls at hl ⊢
  have hl : lv_has ls 4 [(0, .ref q0), (1, .int x0), (2, .int x1)] := hl
  obtain ⟨Q, hQ⟩ := nm_ex (MQ below (QI D C (oTM q0 qn0 qk0 qr0 qc0 qt0 qd0 qs0 qf0 qw0 rowCount anyKept (oPort C qn0 qn1 qn2 qn3 qn4 qn5 qn6 now (oPort C qr0 qr1 qr2 qr3 qr4 qr5 qr6 trial []))) (oTM q0 qn0 qk0 qr0 qc0 qt0 qd0 qs0 qf0 qw0 rowCount anyKept (oPort C qn0 qn1 qn2 qn3 qn4 qn5 qn6 now (oPort C qr0 qr1 qr2 qr3 qr4 qr5 qr6 (trial') []))) s.heap.size r) (List.toArray [Value.ref q0, Value.int x0, Value.int x1]) s 0 0 A)
  show W p l e (headSpec wsX5_where (rmX5_where)).room s m (List.toArray [Value.ref q0, Value.int x0, Value.int x1]) below meth c s.heap [] 0 0 (MQ below (QI D C (oTM q0 qn0 qk0 qr0 qc0 qt0 qd0 qs0 qf0 qw0 rowCount anyKept (oPort C qn0 qn1 qn2 qn3 qn4 qn5 qn6 now (oPort C qr0 qr1 qr2 qr3 qr4 qr5 qr6 trial []))) (oTM q0 qn0 qk0 qr0 qc0 qt0 qd0 qs0 qf0 qw0 rowCount anyKept (oPort C qn0 qn1 qn2 qn3 qn4 qn5 qn6 now (oPort C qr0 qr1 qr2 qr3 qr4 qr5 qr6 (trial') []))) s.heap.size r) (List.toArray [Value.ref q0, Value.int x0, Value.int x1]) s 0 0 A) _
  rw [← hQ]
  unfold f_X5_where at hf
  have main : ∀ (H : Heap) (locs : List Loc), va_P D vwCl (oTM q0 qn0 qk0 qr0 qc0 qt0 qd0 qs0 qf0 qw0 rowCount anyKept (oPort C qn0 qn1 qn2 qn3 qn4 qn5 qn6 now (oPort C qr0 qr1 qr2 qr3 qr4 qr5 qr6 trial []))) H → va_D A (oTM q0 qn0 qk0 qr0 qc0 qt0 qd0 qs0 qf0 qw0 rowCount anyKept (oPort C qn0 qn1 qn2 qn3 qn4 qn5 qn6 now (oPort C qr0 qr1 qr2 qr3 qr4 qr5 qr6 trial []))) → va_S A s.heap H locs → W p l e (headSpec wsX5_where (rmX5_where)).room s m (List.toArray [Value.ref q0, Value.int x0, Value.int x1]) below meth c H locs 0 0 Q (F0 m 0 ls []) := by
    intro H locs hP hD hS
    refine lv_aload_n hx hb dX5_where_0 rfl (lv_at hl 0 rfl) ?_
    refine lv_iload_n hx hb dX5_where_1 rfl (lv_at hl 1 rfl) ?_
    refine kcz (Wx := (oTM q0 qn0 qk0 qr0 qc0 qt0 qd0 qs0 qf0 qw0 rowCount anyKept (oPort C qn0 qn1 qn2 qn3 qn4 qn5 qn6 now (oPort C qr0 qr1 qr2 qr3 qr4 qr5 qr6 trial [])))) (va_runV (As := [.int x0]) (rest := []) ⟨hx, hb, hml, hown, hts⟩ (c_X5_isMark l E D C q0 qn0 qk0 qr0 qc0 qt0 qd0 qs0 qf0 qw0 qn1 qn2 qn3 qn4 qn5 qn6 H.size rowCount anyKept now x0 _ rfl) (cwV 1 hts gX5_where_X5_isMark rfl rfl rfl hdX5_isMark ⟨Nat.le_of_ble_eq_true rfl, Nat.le_of_ble_eq_true rfl⟩) (kpreV hP hD hK hS hE hA [0, 1, 2, 3, 4, 5, 6, 7] rfl rfl 0 rfl rfl rfl) rfl rfl hl.1 rfl (lv_room (Nat.le_of_ble_eq_true rfl)) dX5_where_2 ⟨Nat.zero_le _, Nat.zero_le _⟩) hP hD hS hA [0, 1, 2, 3, 4, 5, 6, 7] rfl rfl rfl (fun H locs hz1 hP hD hS => ?_)
    refine lv_if_eq (tgt := 18) hx hb dX5_where_5 (by decide) (fun c2 => ?_) (fun c2 => ?_)
    · replace hf := if_te c2 hf
      refine lv_iconst (v := (-1)) hx hb dX5_where_18 rfl ?_
      cases hf
      exact kri hQ hAe hx hb hr hlocks hP hD hK hS dX5_where_19
    · replace hf := if_fe c2 hf
      refine lv_iload_n hx hb dX5_where_8 rfl (lv_at hl 2 rfl) ?_
      refine lv_iconst (v := 0) hx hb dX5_where_9 rfl ?_
      refine lv_bipush (v := 60) hx hb dX5_where_10 rfl ?_
      refine kcz (Wx := (oTM q0 qn0 qk0 qr0 qc0 qt0 qd0 qs0 qf0 qw0 rowCount anyKept (oPort C qn0 qn1 qn2 qn3 qn4 qn5 qn6 now (oPort C qr0 qr1 qr2 qr3 qr4 qr5 qr6 trial [])))) (va_runS (As := [.int x1, .int 0, .int 60]) (rest := []) ⟨hx, hb, hml, hown, hts⟩ (c_X5_within l E D C H.size x1 0 60 _ rfl) (va_cwS 3 hts gX5_where_X5_within rfl rfl rfl hdX5_within ⟨Nat.le_of_ble_eq_true rfl, Nat.le_of_ble_eq_true rfl⟩) (kpre hP hD hK hS hE hA [] rfl rfl) rfl rfl hl.1 rfl (lv_room (Nat.le_of_ble_eq_true rfl)) dX5_where_12 ⟨Nat.zero_le _, Nat.zero_le _⟩) hP hD hS hA [] rfl rfl rfl (fun H locs hz3 hP hD hS => ?_)
      refine lv_if_ne (tgt := 20) hx hb dX5_where_15 (by decide) (fun c4 => ?_) (fun c4 => ?_)
      · replace hf := if_fe c4 hf
        refine lv_aload_n hx hb dX5_where_20 rfl (lv_at hl 0 rfl) ?_
        refine va_get (D := D) (ci := 5) (v := .ref qr0) (C := RX5) (T := TX5) (N := 11) hx hb hts hi_RX5 hown hK hP 0 rfl rfl 2 (by decide) (hts (.fieldLink RX5 19 "TravelMarks" "trial" "LTravelMarks$Port;") (List.mem_of_getElem? (i := 1) rfl)) (fun _ h9 => h9) rfl dX5_where_21 ?_
        refine lv_aload_n hx hb dX5_where_24 rfl (lv_at hl 0 rfl) ?_
        refine va_get (D := D) (ci := 5) (v := .ref qn0) (C := RX5) (T := TX5) (N := 11) hx hb hts hi_RX5 hown hK hP 0 rfl rfl 0 (by decide) (hts (.fieldLink RX5 10 "TravelMarks" "now" "LTravelMarks$Port;") (List.mem_of_getElem? (i := 2) rfl)) (fun _ h9 => h9) rfl dX5_where_25 ?_
        obtain ⟨v5, h6, hf⟩ := ob1_e hf
        refine kcv (Wx := (oTM q0 qn0 qk0 qr0 qc0 qt0 qd0 qs0 qf0 qw0 rowCount anyKept (oPort C qn0 qn1 qn2 qn3 qn4 qn5 qn6 now (oPort C qr0 qr1 qr2 qr3 qr4 qr5 qr6 v5 [])))) (va_runV (As := [.ref qn0]) (rest := []) ⟨hx, hb, hml, hown, hts⟩ (c_X1_become l E D C qr0 qr1 qr2 qr3 qr4 qr5 qr6 qn0 qn1 qn2 qn3 qn4 qn5 qn6 H.size trial now v5 h6) (cwV 1 hts gX5_where_X1_become rfl rfl rfl hdX1_become ⟨Nat.le_of_ble_eq_true rfl, Nat.le_of_ble_eq_true rfl⟩) (kpreV hP hD hK hS hE hA [8, 9, 10, 11, 12, 13, 14, 1, 2, 3, 4, 5, 6, 7] rfl rfl 8 rfl rfl rfl) rfl rfl hl.1 rfl (lv_room (Nat.le_of_ble_eq_true rfl)) dX5_where_28 ⟨Nat.zero_le _, Nat.zero_le _⟩) hP hD hS hA [8, 9, 10, 11, 12, 13, 14, 1, 2, 3, 4, 5, 6, 7] rfl rfl rfl (fun H locs hP hD hS => ?_)
        refine lv_iconst (v := 0) hx hb dX5_where_31 rfl ?_
        refine lv_istore_n (lv' := [(3, .int 0), (0, .ref q0), (1, .int x0), (2, .int x1)]) hx hb dX5_where_32 rfl hl (by decide) rfl (fun ls hl => ?_)
        obtain ⟨j8, hj8, hf⟩ := lj_e hf
        have Hj8 : ∀ (v7 : PV) (H : Heap) (locs : List Loc) (ls : Array Slot), va_P D vwCl (oTM q0 qn0 qk0 qr0 qc0 qt0 qd0 qs0 qf0 qw0 rowCount anyKept (oPort C qn0 qn1 qn2 qn3 qn4 qn5 qn6 now (oPort C qr0 qr1 qr2 qr3 qr4 qr5 qr6 v7 []))) H → va_D A (oTM q0 qn0 qk0 qr0 qc0 qt0 qd0 qs0 qf0 qw0 rowCount anyKept (oPort C qn0 qn1 qn2 qn3 qn4 qn5 qn6 now (oPort C qr0 qr1 qr2 qr3 qr4 qr5 qr6 v7 []))) → va_S A s.heap H locs → lv_has ls 4 [(0, .ref q0), (1, .int x0)] → j8 v7 = some (r, trial') → W p l e (headSpec wsX5_where (rmX5_where)).room s m (List.toArray [Value.ref q0, Value.int x0, Value.int x1]) below meth c H locs 0 0 Q (F0 m 51 ls []) := by
          intro v7 H locs ls hP hD hS hl hf
          rw [hj8] at hf
          refine lv_aload_n hx hb dX5_where_51 rfl (lv_at hl 0 rfl) ?_
          refine va_get (D := D) (ci := 5) (v := .ref qr0) (C := RX5) (T := TX5) (N := 11) hx hb hts hi_RX5 hown hK hP 0 rfl rfl 2 (by decide) (hts (.fieldLink RX5 19 "TravelMarks" "trial" "LTravelMarks$Port;") (List.mem_of_getElem? (i := 1) rfl)) (fun _ h9 => h9) rfl dX5_where_52 ?_
          refine va_get (D := D) (ci := 1) (v := .ref qr4) (C := RX1) (T := TX1) (N := 10) hx hb hts hi_RX1 hown hK hP 8 rfl rfl 3 (by decide) (hts (.fieldLink RX5 120 "TravelMarks$Port" "on" "[I") (List.mem_of_getElem? (i := 3) rfl)) (fun _ h9 => h9) rfl dX5_where_55 ?_
          refine lv_iload_n hx hb dX5_where_58 rfl (lv_at hl 1 rfl) ?_
          obtain ⟨y10, ey10, hi9, hf⟩ := rdA_x hf
          refine va_iald hx hb hK hP 12 0 rfl rfl hi9 dX5_where_59 ?_
          refine lv_ren ey10 ?_
          cases hf
          exact kri hQ hAe hx hb hr hlocks hP hD hK hS dX5_where_60
        have hL33 : ∀ (n : Nat) (i11 : Int32) (v12 : PV) (H : Heap) (locs : List Loc) (ls : Array Slot), va_P D vwCl (oTM q0 qn0 qk0 qr0 qc0 qt0 qd0 qs0 qf0 qw0 rowCount anyKept (oPort C qn0 qn1 qn2 qn3 qn4 qn5 qn6 now (oPort C qr0 qr1 qr2 qr3 qr4 qr5 qr6 v12 []))) H → va_D A (oTM q0 qn0 qk0 qr0 qc0 qt0 qd0 qs0 qf0 qw0 rowCount anyKept (oPort C qn0 qn1 qn2 qn3 qn4 qn5 qn6 now (oPort C qr0 qr1 qr2 qr3 qr4 qr5 qr6 v12 []))) → va_S A s.heap H locs → lv_has ls 4 [(3, .int i11), (0, .ref q0), (1, .int x0), (2, .int x1)] → f_X5_where_L33 N x1 j8 n i11 v12 = some (r, trial') → W p l e (headSpec wsX5_where (rmX5_where)).room s m (List.toArray [Value.ref q0, Value.int x0, Value.int x1]) below meth c H locs 0 0 Q (F0 m 33 ls []) := by
          intro n
          induction n with
          | zero =>
            intro i11 v12 H locs ls hP hD hS hl hf
            exact absurd hf (fun h => by cases h)
          | succ n ih =>
            intro i11 v12 H locs ls hP hD hS hl hf
            rw [f_X5_where_L33] at hf
            refine lv_iload_n hx hb dX5_where_33 rfl (lv_at hl 0 rfl) ?_
            refine lv_iload_n hx hb dX5_where_34 rfl (lv_at hl 3 rfl) ?_
            refine lv_icmp_ge (tgt := 51) hx hb dX5_where_35 (by decide) (fun c13 => ?_) (fun c13 => ?_)
            · replace hf := if_te c13 hf
              exact Hj8 v12 H locs ls hP hD hS (lv_sub hl [1, 2] rfl) hf
            · replace hf := if_fe c13 hf
              refine lv_aload_n hx hb dX5_where_38 rfl (lv_at hl 1 rfl) ?_
              refine va_get (D := D) (ci := 5) (v := .ref qr0) (C := RX5) (T := TX5) (N := 11) hx hb hts hi_RX5 hown hK hP 0 rfl rfl 2 (by decide) (hts (.fieldLink RX5 19 "TravelMarks" "trial" "LTravelMarks$Port;") (List.mem_of_getElem? (i := 1) rfl)) (fun _ h9 => h9) rfl dX5_where_39 ?_
              obtain ⟨v14, h15, hf⟩ := ob1_e hf
              refine kcv (Wx := (oTM q0 qn0 qk0 qr0 qc0 qt0 qd0 qs0 qf0 qw0 rowCount anyKept (oPort C qn0 qn1 qn2 qn3 qn4 qn5 qn6 now (oPort C qr0 qr1 qr2 qr3 qr4 qr5 qr6 v14 [])))) (va_runV (As := []) (rest := []) ⟨hx, hb, hml, hown, hts⟩ (c_X1_passHour l E D C qr0 qr1 qr2 qr3 qr4 qr5 qr6 H.size N v12 v14 h15) (cwV 0 hts gX5_where_X1_passHour rfl rfl rfl hdX1_passHour ⟨Nat.le_of_ble_eq_true rfl, Nat.le_of_ble_eq_true rfl⟩) (kpreV hP hD hK hS hE hA [8, 9, 10, 11, 12, 13, 14] rfl rfl 8 rfl rfl rfl) rfl rfl hl.1 rfl (lv_room (Nat.le_of_ble_eq_true rfl)) dX5_where_42 ⟨Nat.zero_le _, Nat.zero_le _⟩) hP hD hS hA [8, 9, 10, 11, 12, 13, 14] rfl rfl rfl (fun H locs hP hD hS => ?_)
              obtain ⟨t16, et16, hf⟩ := lj_e hf
              refine lv_iinc (v := t16) (lv' := [(3, .int t16), (0, .ref q0), (1, .int x0), (2, .int x1)]) hx hb dX5_where_45 hl (k := 0) rfl (by rw [et16]; rfl) (by decide) rfl (fun ls hl => ?_)
              refine lv_goto (tgt := 33) hx hb dX5_where_48 (by decide) ?_
              exact ih t16 v14 H locs ls hP hD hS (lv_sub hl [0, 1, 2, 3] rfl) hf
        exact hL33 N 0 v5 H locs ls hP hD hS (lv_sub hl [0, 1, 2, 3] rfl) hf
      · replace hf := if_te c4 hf
        refine lv_iconst (v := (-1)) hx hb dX5_where_18 rfl ?_
        cases hf
        exact kri hQ hAe hx hb hr hlocks hP hD hK hS dX5_where_19
  exact main _ _ hP hD hS

def rmX5_comes : Room := { frames := 5, cells := 0, slots := 0, locals := 115 }
theorem hdX5_comes : yX5_comes.cls = RX5 ∧ yX5_comes.cls ≠ "java/lang/invoke/MethodHandle" ∧ yX5_comes.cls ≠ "java/lang/invoke/VarHandle" ∧ (parseMethodDescriptor yX5_comes.desc).map (fun d => d.parameters.length) = some 2 := by decide +kernel
set_option maxHeartbeats 40000000 in
set_option maxRecDepth 100000 in
theorem c_X5_comes (l : Launch) (E : Nat → Nat) (D : va_G) (C : Nat → ClassId) (q0 qn0 qk0 qr0 qc0 qt0 qd0 qs0 qf0 qw0 qn1 qn2 qn3 qn4 qn5 qn6 qr1 qr2 qr3 qr4 qr5 qr6 : Nat) (sz : Nat) (N : Nat) (rowCount : Int32) (anyKept : Int32) (now : PV) (trial : PV) (x0 : Int32) (x1 : Int32) (r : Int32) (trial' : PV) (hf : f_X5_comes N now trial x0 x1 = some (r, trial')) : Met l yX5_comes wsX5_comes rmX5_comes (PC E D C [.ref q0, .int x0, .int x1] (oTM q0 qn0 qk0 qr0 qc0 qt0 qd0 qs0 qf0 qw0 rowCount anyKept (oPort C qn0 qn1 qn2 qn3 qn4 qn5 qn6 now (oPort C qr0 qr1 qr2 qr3 qr4 qr5 qr6 trial []))) sz) (QI D C (oTM q0 qn0 qk0 qr0 qc0 qt0 qd0 qs0 qf0 qw0 rowCount anyKept (oPort C qn0 qn1 qn2 qn3 qn4 qn5 qn6 now (oPort C qr0 qr1 qr2 qr3 qr4 qr5 qr6 trial []))) (oTM q0 qn0 qk0 qr0 qc0 qt0 qd0 qs0 qf0 qw0 rowCount anyKept (oPort C qn0 qn1 qn2 qn3 qn4 qn5 qn6 now (oPort C qr0 qr1 qr2 qr3 qr4 qr5 qr6 (trial') []))) sz r) 0 0 (va_A (oTM q0 qn0 qk0 qr0 qc0 qt0 qd0 qs0 qf0 qw0 rowCount anyKept (oPort C qn0 qn1 qn2 qn3 qn4 qn5 qn6 now (oPort C qr0 qr1 qr2 qr3 qr4 qr5 qr6 trial []))) sz) := by
  refine Met.ofW (cc := cX5_comes) (maxL := 3) (ret := (some .int)) (by decide) rfl ?_
  intro p e s m args below meth c s₁ B hml hv
  obtain ⟨rfl, hsz, hP, hK, hD0, hE⟩ := hv
  have hx := B.exec
  have hb := B.bytes
  have hr := B.returns
  have hts := atoms_spec (ws := wsX5_comes) B.pre
  have hown : s.vm.findClass RX5 = some m.cls := findClass_of_methodNamed B.named
  have hlocks := B.notSynchronized
  subst hsz
  have hi_RX5 : ∀ w ∈ wsX50, w ∈ wsX5_comes := fun _ h => List.mem_cons_of_mem _ (List.mem_append_left _ (List.mem_append_right _ h))
  have hD := hD0.self (sz := s.heap.size)
  obtain ⟨A, hAe⟩ := nm_ex (va_A (oTM q0 qn0 qk0 qr0 qc0 qt0 qd0 qs0 qf0 qw0 rowCount anyKept (oPort C qn0 qn1 qn2 qn3 qn4 qn5 qn6 now (oPort C qr0 qr1 qr2 qr3 qr4 qr5 qr6 trial []))) s.heap.size)
  rw [← hAe] at hD hE ⊢
  have hA : ∀ q : Nat, s.heap.size ≤ q → A q := fun q h => by rw [hAe]; exact Or.inr h
  have hS : va_S A s.heap s.heap [] := va_S.rf
  have hl := lv_entry ([.ref q0, .int x0, .int x1]) (n := 3) (Nat.le_of_ble_eq_true rfl)
  rw [lg_entry_eq]
  generalize (lg_sl ([.ref q0, .int x0, .int x1]) ++ List.replicate (3 - (lg_sl ([.ref q0, .int x0, .int x1])).length) Slot.unset).toArray = ls at hl ⊢
  have hl : lv_has ls 3 [(0, .ref q0), (1, .int x0), (2, .int x1)] := hl
  obtain ⟨Q, hQ⟩ := nm_ex (MQ below (QI D C (oTM q0 qn0 qk0 qr0 qc0 qt0 qd0 qs0 qf0 qw0 rowCount anyKept (oPort C qn0 qn1 qn2 qn3 qn4 qn5 qn6 now (oPort C qr0 qr1 qr2 qr3 qr4 qr5 qr6 trial []))) (oTM q0 qn0 qk0 qr0 qc0 qt0 qd0 qs0 qf0 qw0 rowCount anyKept (oPort C qn0 qn1 qn2 qn3 qn4 qn5 qn6 now (oPort C qr0 qr1 qr2 qr3 qr4 qr5 qr6 (trial') []))) s.heap.size r) (List.toArray [Value.ref q0, Value.int x0, Value.int x1]) s 0 0 A)
  show W p l e (headSpec wsX5_comes (rmX5_comes)).room s m (List.toArray [Value.ref q0, Value.int x0, Value.int x1]) below meth c s.heap [] 0 0 (MQ below (QI D C (oTM q0 qn0 qk0 qr0 qc0 qt0 qd0 qs0 qf0 qw0 rowCount anyKept (oPort C qn0 qn1 qn2 qn3 qn4 qn5 qn6 now (oPort C qr0 qr1 qr2 qr3 qr4 qr5 qr6 trial []))) (oTM q0 qn0 qk0 qr0 qc0 qt0 qd0 qs0 qf0 qw0 rowCount anyKept (oPort C qn0 qn1 qn2 qn3 qn4 qn5 qn6 now (oPort C qr0 qr1 qr2 qr3 qr4 qr5 qr6 (trial') []))) s.heap.size r) (List.toArray [Value.ref q0, Value.int x0, Value.int x1]) s 0 0 A) _
  rw [← hQ]
  unfold f_X5_comes at hf
  have main : ∀ (H : Heap) (locs : List Loc), va_P D vwCl (oTM q0 qn0 qk0 qr0 qc0 qt0 qd0 qs0 qf0 qw0 rowCount anyKept (oPort C qn0 qn1 qn2 qn3 qn4 qn5 qn6 now (oPort C qr0 qr1 qr2 qr3 qr4 qr5 qr6 trial []))) H → va_D A (oTM q0 qn0 qk0 qr0 qc0 qt0 qd0 qs0 qf0 qw0 rowCount anyKept (oPort C qn0 qn1 qn2 qn3 qn4 qn5 qn6 now (oPort C qr0 qr1 qr2 qr3 qr4 qr5 qr6 trial []))) → va_S A s.heap H locs → W p l e (headSpec wsX5_comes (rmX5_comes)).room s m (List.toArray [Value.ref q0, Value.int x0, Value.int x1]) below meth c H locs 0 0 Q (F0 m 0 ls []) := by
    intro H locs hP hD hS
    refine lv_aload_n hx hb dX5_comes_0 rfl (lv_at hl 0 rfl) ?_
    refine lv_iload_n hx hb dX5_comes_1 rfl (lv_at hl 1 rfl) ?_
    refine kcz (Wx := (oTM q0 qn0 qk0 qr0 qc0 qt0 qd0 qs0 qf0 qw0 rowCount anyKept (oPort C qn0 qn1 qn2 qn3 qn4 qn5 qn6 now (oPort C qr0 qr1 qr2 qr3 qr4 qr5 qr6 trial [])))) (va_runV (As := [.int x0]) (rest := []) ⟨hx, hb, hml, hown, hts⟩ (c_X5_isMark l E D C q0 qn0 qk0 qr0 qc0 qt0 qd0 qs0 qf0 qw0 qn1 qn2 qn3 qn4 qn5 qn6 H.size rowCount anyKept now x0 _ rfl) (cwV 1 hts gX5_comes_X5_isMark rfl rfl rfl hdX5_isMark ⟨Nat.le_of_ble_eq_true rfl, Nat.le_of_ble_eq_true rfl⟩) (kpreV hP hD hK hS hE hA [0, 1, 2, 3, 4, 5, 6, 7] rfl rfl 0 rfl rfl rfl) rfl rfl hl.1 rfl (lv_room (Nat.le_of_ble_eq_true rfl)) dX5_comes_2 ⟨Nat.zero_le _, Nat.zero_le _⟩) hP hD hS hA [0, 1, 2, 3, 4, 5, 6, 7] rfl rfl rfl (fun H locs hz1 hP hD hS => ?_)
    refine lv_if_eq (tgt := 15) hx hb dX5_comes_5 (by decide) (fun c2 => ?_) (fun c2 => ?_)
    · replace hf := if_te c2 hf
      refine lv_iconst (v := (-1)) hx hb dX5_comes_15 rfl ?_
      cases hf
      exact kri hQ hAe hx hb hr hlocks hP hD hK hS dX5_comes_16
    · replace hf := if_fe c2 hf
      refine lv_iload_n hx hb dX5_comes_8 rfl (lv_at hl 2 rfl) ?_
      refine kcz (Wx := (oTM q0 qn0 qk0 qr0 qc0 qt0 qd0 qs0 qf0 qw0 rowCount anyKept (oPort C qn0 qn1 qn2 qn3 qn4 qn5 qn6 now (oPort C qr0 qr1 qr2 qr3 qr4 qr5 qr6 trial [])))) (va_runS (As := [.int x1]) (rest := []) ⟨hx, hb, hml, hown, hts⟩ (c_X5_isOne l E D C H.size x1 _ rfl) (va_cwS 1 hts gX5_comes_X5_isOne rfl rfl rfl hdX5_isOne ⟨Nat.le_of_ble_eq_true rfl, Nat.le_of_ble_eq_true rfl⟩) (kpre hP hD hK hS hE hA [] rfl rfl) rfl rfl hl.1 rfl (lv_room (Nat.le_of_ble_eq_true rfl)) dX5_comes_9 ⟨Nat.zero_le _, Nat.zero_le _⟩) hP hD hS hA [] rfl rfl rfl (fun H locs hz3 hP hD hS => ?_)
      refine lv_if_ne (tgt := 17) hx hb dX5_comes_12 (by decide) (fun c4 => ?_) (fun c4 => ?_)
      · replace hf := if_fe c4 hf
        refine lv_aload_n hx hb dX5_comes_17 rfl (lv_at hl 0 rfl) ?_
        refine va_get (D := D) (ci := 5) (v := .ref qr0) (C := RX5) (T := TX5) (N := 11) hx hb hts hi_RX5 hown hK hP 0 rfl rfl 2 (by decide) (hts (.fieldLink RX5 19 "TravelMarks" "trial" "LTravelMarks$Port;") (List.mem_of_getElem? (i := 1) rfl)) (fun _ h9 => h9) rfl dX5_comes_18 ?_
        refine lv_aload_n hx hb dX5_comes_21 rfl (lv_at hl 0 rfl) ?_
        refine va_get (D := D) (ci := 5) (v := .ref qn0) (C := RX5) (T := TX5) (N := 11) hx hb hts hi_RX5 hown hK hP 0 rfl rfl 0 (by decide) (hts (.fieldLink RX5 10 "TravelMarks" "now" "LTravelMarks$Port;") (List.mem_of_getElem? (i := 2) rfl)) (fun _ h9 => h9) rfl dX5_comes_22 ?_
        obtain ⟨v5, h6, hf⟩ := ob1_e hf
        refine kcv (Wx := (oTM q0 qn0 qk0 qr0 qc0 qt0 qd0 qs0 qf0 qw0 rowCount anyKept (oPort C qn0 qn1 qn2 qn3 qn4 qn5 qn6 now (oPort C qr0 qr1 qr2 qr3 qr4 qr5 qr6 v5 [])))) (va_runV (As := [.ref qn0]) (rest := []) ⟨hx, hb, hml, hown, hts⟩ (c_X1_become l E D C qr0 qr1 qr2 qr3 qr4 qr5 qr6 qn0 qn1 qn2 qn3 qn4 qn5 qn6 H.size trial now v5 h6) (cwV 1 hts gX5_comes_X1_become rfl rfl rfl hdX1_become ⟨Nat.le_of_ble_eq_true rfl, Nat.le_of_ble_eq_true rfl⟩) (kpreV hP hD hK hS hE hA [8, 9, 10, 11, 12, 13, 14, 1, 2, 3, 4, 5, 6, 7] rfl rfl 8 rfl rfl rfl) rfl rfl hl.1 rfl (lv_room (Nat.le_of_ble_eq_true rfl)) dX5_comes_25 ⟨Nat.zero_le _, Nat.zero_le _⟩) hP hD hS hA [8, 9, 10, 11, 12, 13, 14, 1, 2, 3, 4, 5, 6, 7] rfl rfl rfl (fun H locs hP hD hS => ?_)
        refine lv_aload_n hx hb dX5_comes_28 rfl (lv_at hl 0 rfl) ?_
        refine va_get (D := D) (ci := 5) (v := .ref qr0) (C := RX5) (T := TX5) (N := 11) hx hb hts hi_RX5 hown hK hP 0 rfl rfl 2 (by decide) (hts (.fieldLink RX5 19 "TravelMarks" "trial" "LTravelMarks$Port;") (List.mem_of_getElem? (i := 1) rfl)) (fun _ h9 => h9) rfl dX5_comes_29 ?_
        refine lv_iload_n hx hb dX5_comes_32 rfl (lv_at hl 1 rfl) ?_
        refine lv_iload_n hx hb dX5_comes_33 rfl (lv_at hl 2 rfl) ?_
        refine lv_bipush (v := 60) hx hb dX5_comes_34 rfl ?_
        obtain ⟨r7, v8, h9, hf⟩ := ob2_e hf
        refine kci (Wx := (oTM q0 qn0 qk0 qr0 qc0 qt0 qd0 qs0 qf0 qw0 rowCount anyKept (oPort C qn0 qn1 qn2 qn3 qn4 qn5 qn6 now (oPort C qr0 qr1 qr2 qr3 qr4 qr5 qr6 v8 [])))) (va_runV (As := [.int x0, .int x1, .int 60]) (rest := []) ⟨hx, hb, hml, hown, hts⟩ (c_X1_hoursUntilOn l E D C qr0 qr1 qr2 qr3 qr4 qr5 qr6 H.size N v5 x0 x1 60 r7 v8 h9) (cwV 3 hts gX5_comes_X1_hoursUntilOn rfl rfl rfl hdX1_hoursUntilOn ⟨Nat.le_of_ble_eq_true rfl, Nat.le_of_ble_eq_true rfl⟩) (kpreV hP hD hK hS hE hA [8, 9, 10, 11, 12, 13, 14] rfl rfl 8 rfl rfl rfl) rfl rfl hl.1 rfl (lv_room (Nat.le_of_ble_eq_true rfl)) dX5_comes_36 ⟨Nat.zero_le _, Nat.zero_le _⟩) hP hD hS hA [8, 9, 10, 11, 12, 13, 14] rfl rfl rfl (fun H locs hP hD hS => ?_)
        cases hf
        exact kri hQ hAe hx hb hr hlocks hP hD hK hS dX5_comes_39
      · replace hf := if_te c4 hf
        refine lv_iconst (v := (-1)) hx hb dX5_comes_15 rfl ?_
        cases hf
        exact kri hQ hAe hx hb hr hlocks hP hD hK hS dX5_comes_16
  exact main _ _ hP hD hS

def rmX5_bare : Room := { frames := 5, cells := 0, slots := 0, locals := 114 }
theorem hdX5_bare : yX5_bare.cls = RX5 ∧ yX5_bare.cls ≠ "java/lang/invoke/MethodHandle" ∧ yX5_bare.cls ≠ "java/lang/invoke/VarHandle" ∧ (parseMethodDescriptor yX5_bare.desc).map (fun d => d.parameters.length) = some 1 := by decide +kernel
set_option maxHeartbeats 40000000 in
set_option maxRecDepth 100000 in
theorem c_X5_bare (l : Launch) (E : Nat → Nat) (D : va_G) (C : Nat → ClassId) (q0 qn0 qk0 qr0 qc0 qt0 qd0 qs0 qf0 qw0 qn1 qn2 qn3 qn4 qn5 qn6 qr1 qr2 qr3 qr4 qr5 qr6 : Nat) (sz : Nat) (N : Nat) (rowCount : Int32) (anyKept : Int32) (now : PV) (trial : PV) (x0 : Int32) (r : Int32) (trial' : PV) (hf : f_X5_bare N now trial x0 = some (r, trial')) : Met l yX5_bare wsX5_bare rmX5_bare (PC E D C [.ref q0, .int x0] (oTM q0 qn0 qk0 qr0 qc0 qt0 qd0 qs0 qf0 qw0 rowCount anyKept (oPort C qn0 qn1 qn2 qn3 qn4 qn5 qn6 now (oPort C qr0 qr1 qr2 qr3 qr4 qr5 qr6 trial []))) sz) (QI D C (oTM q0 qn0 qk0 qr0 qc0 qt0 qd0 qs0 qf0 qw0 rowCount anyKept (oPort C qn0 qn1 qn2 qn3 qn4 qn5 qn6 now (oPort C qr0 qr1 qr2 qr3 qr4 qr5 qr6 trial []))) (oTM q0 qn0 qk0 qr0 qc0 qt0 qd0 qs0 qf0 qw0 rowCount anyKept (oPort C qn0 qn1 qn2 qn3 qn4 qn5 qn6 now (oPort C qr0 qr1 qr2 qr3 qr4 qr5 qr6 (trial') []))) sz r) 0 0 (va_A (oTM q0 qn0 qk0 qr0 qc0 qt0 qd0 qs0 qf0 qw0 rowCount anyKept (oPort C qn0 qn1 qn2 qn3 qn4 qn5 qn6 now (oPort C qr0 qr1 qr2 qr3 qr4 qr5 qr6 trial []))) sz) := by
  refine Met.ofW (cc := cX5_bare) (maxL := 2) (ret := (some .int)) (by decide) rfl ?_
  intro p e s m args below meth c s₁ B hml hv
  obtain ⟨rfl, hsz, hP, hK, hD0, hE⟩ := hv
  have hx := B.exec
  have hb := B.bytes
  have hr := B.returns
  have hts := atoms_spec (ws := wsX5_bare) B.pre
  have hown : s.vm.findClass RX5 = some m.cls := findClass_of_methodNamed B.named
  have hlocks := B.notSynchronized
  subst hsz
  have hi_RX5 : ∀ w ∈ wsX50, w ∈ wsX5_bare := fun _ h => List.mem_cons_of_mem _ (List.mem_append_left _ (List.mem_append_right _ h))
  have hD := hD0.self (sz := s.heap.size)
  obtain ⟨A, hAe⟩ := nm_ex (va_A (oTM q0 qn0 qk0 qr0 qc0 qt0 qd0 qs0 qf0 qw0 rowCount anyKept (oPort C qn0 qn1 qn2 qn3 qn4 qn5 qn6 now (oPort C qr0 qr1 qr2 qr3 qr4 qr5 qr6 trial []))) s.heap.size)
  rw [← hAe] at hD hE ⊢
  have hA : ∀ q : Nat, s.heap.size ≤ q → A q := fun q h => by rw [hAe]; exact Or.inr h
  have hS : va_S A s.heap s.heap [] := va_S.rf
  have hl := lv_entry ([.ref q0, .int x0]) (n := 2) (Nat.le_of_ble_eq_true rfl)
  rw [lg_entry_eq]
  generalize (lg_sl ([.ref q0, .int x0]) ++ List.replicate (2 - (lg_sl ([.ref q0, .int x0])).length) Slot.unset).toArray = ls at hl ⊢
  have hl : lv_has ls 2 [(0, .ref q0), (1, .int x0)] := hl
  obtain ⟨Q, hQ⟩ := nm_ex (MQ below (QI D C (oTM q0 qn0 qk0 qr0 qc0 qt0 qd0 qs0 qf0 qw0 rowCount anyKept (oPort C qn0 qn1 qn2 qn3 qn4 qn5 qn6 now (oPort C qr0 qr1 qr2 qr3 qr4 qr5 qr6 trial []))) (oTM q0 qn0 qk0 qr0 qc0 qt0 qd0 qs0 qf0 qw0 rowCount anyKept (oPort C qn0 qn1 qn2 qn3 qn4 qn5 qn6 now (oPort C qr0 qr1 qr2 qr3 qr4 qr5 qr6 (trial') []))) s.heap.size r) (List.toArray [Value.ref q0, Value.int x0]) s 0 0 A)
  show W p l e (headSpec wsX5_bare (rmX5_bare)).room s m (List.toArray [Value.ref q0, Value.int x0]) below meth c s.heap [] 0 0 (MQ below (QI D C (oTM q0 qn0 qk0 qr0 qc0 qt0 qd0 qs0 qf0 qw0 rowCount anyKept (oPort C qn0 qn1 qn2 qn3 qn4 qn5 qn6 now (oPort C qr0 qr1 qr2 qr3 qr4 qr5 qr6 trial []))) (oTM q0 qn0 qk0 qr0 qc0 qt0 qd0 qs0 qf0 qw0 rowCount anyKept (oPort C qn0 qn1 qn2 qn3 qn4 qn5 qn6 now (oPort C qr0 qr1 qr2 qr3 qr4 qr5 qr6 (trial') []))) s.heap.size r) (List.toArray [Value.ref q0, Value.int x0]) s 0 0 A) _
  rw [← hQ]
  unfold f_X5_bare at hf
  have main : ∀ (H : Heap) (locs : List Loc), va_P D vwCl (oTM q0 qn0 qk0 qr0 qc0 qt0 qd0 qs0 qf0 qw0 rowCount anyKept (oPort C qn0 qn1 qn2 qn3 qn4 qn5 qn6 now (oPort C qr0 qr1 qr2 qr3 qr4 qr5 qr6 trial []))) H → va_D A (oTM q0 qn0 qk0 qr0 qc0 qt0 qd0 qs0 qf0 qw0 rowCount anyKept (oPort C qn0 qn1 qn2 qn3 qn4 qn5 qn6 now (oPort C qr0 qr1 qr2 qr3 qr4 qr5 qr6 trial []))) → va_S A s.heap H locs → W p l e (headSpec wsX5_bare (rmX5_bare)).room s m (List.toArray [Value.ref q0, Value.int x0]) below meth c H locs 0 0 Q (F0 m 0 ls []) := by
    intro H locs hP hD hS
    refine lv_iload_n hx hb dX5_bare_0 rfl (lv_at hl 1 rfl) ?_
    refine kcz (Wx := (oTM q0 qn0 qk0 qr0 qc0 qt0 qd0 qs0 qf0 qw0 rowCount anyKept (oPort C qn0 qn1 qn2 qn3 qn4 qn5 qn6 now (oPort C qr0 qr1 qr2 qr3 qr4 qr5 qr6 trial [])))) (va_runS (As := [.int x0]) (rest := []) ⟨hx, hb, hml, hown, hts⟩ (c_X5_isOne l E D C H.size x0 _ rfl) (va_cwS 1 hts gX5_bare_X5_isOne rfl rfl rfl hdX5_isOne ⟨Nat.le_of_ble_eq_true rfl, Nat.le_of_ble_eq_true rfl⟩) (kpre hP hD hK hS hE hA [] rfl rfl) rfl rfl hl.1 rfl (lv_room (Nat.le_of_ble_eq_true rfl)) dX5_bare_1 ⟨Nat.zero_le _, Nat.zero_le _⟩) hP hD hS hA [] rfl rfl rfl (fun H locs hz1 hP hD hS => ?_)
    refine lv_if_ne (tgt := 9) hx hb dX5_bare_4 (by decide) (fun c2 => ?_) (fun c2 => ?_)
    · replace hf := if_fe c2 hf
      refine lv_aload_n hx hb dX5_bare_9 rfl (lv_at hl 0 rfl) ?_
      refine va_get (D := D) (ci := 5) (v := .ref qr0) (C := RX5) (T := TX5) (N := 11) hx hb hts hi_RX5 hown hK hP 0 rfl rfl 2 (by decide) (hts (.fieldLink RX5 19 "TravelMarks" "trial" "LTravelMarks$Port;") (List.mem_of_getElem? (i := 1) rfl)) (fun _ h9 => h9) rfl dX5_bare_10 ?_
      refine lv_aload_n hx hb dX5_bare_13 rfl (lv_at hl 0 rfl) ?_
      refine va_get (D := D) (ci := 5) (v := .ref qn0) (C := RX5) (T := TX5) (N := 11) hx hb hts hi_RX5 hown hK hP 0 rfl rfl 0 (by decide) (hts (.fieldLink RX5 10 "TravelMarks" "now" "LTravelMarks$Port;") (List.mem_of_getElem? (i := 2) rfl)) (fun _ h9 => h9) rfl dX5_bare_14 ?_
      obtain ⟨v3, h4, hf⟩ := ob1_e hf
      refine kcv (Wx := (oTM q0 qn0 qk0 qr0 qc0 qt0 qd0 qs0 qf0 qw0 rowCount anyKept (oPort C qn0 qn1 qn2 qn3 qn4 qn5 qn6 now (oPort C qr0 qr1 qr2 qr3 qr4 qr5 qr6 v3 [])))) (va_runV (As := [.ref qn0]) (rest := []) ⟨hx, hb, hml, hown, hts⟩ (c_X1_become l E D C qr0 qr1 qr2 qr3 qr4 qr5 qr6 qn0 qn1 qn2 qn3 qn4 qn5 qn6 H.size trial now v3 h4) (cwV 1 hts gX5_bare_X1_become rfl rfl rfl hdX1_become ⟨Nat.le_of_ble_eq_true rfl, Nat.le_of_ble_eq_true rfl⟩) (kpreV hP hD hK hS hE hA [8, 9, 10, 11, 12, 13, 14, 1, 2, 3, 4, 5, 6, 7] rfl rfl 8 rfl rfl rfl) rfl rfl hl.1 rfl (lv_room (Nat.le_of_ble_eq_true rfl)) dX5_bare_17 ⟨Nat.zero_le _, Nat.zero_le _⟩) hP hD hS hA [8, 9, 10, 11, 12, 13, 14, 1, 2, 3, 4, 5, 6, 7] rfl rfl rfl (fun H locs hP hD hS => ?_)
      refine lv_aload_n hx hb dX5_bare_20 rfl (lv_at hl 0 rfl) ?_
      refine va_get (D := D) (ci := 5) (v := .ref qr0) (C := RX5) (T := TX5) (N := 11) hx hb hts hi_RX5 hown hK hP 0 rfl rfl 2 (by decide) (hts (.fieldLink RX5 19 "TravelMarks" "trial" "LTravelMarks$Port;") (List.mem_of_getElem? (i := 1) rfl)) (fun _ h9 => h9) rfl dX5_bare_21 ?_
      refine lv_iload_n hx hb dX5_bare_24 rfl (lv_at hl 1 rfl) ?_
      refine lv_bipush (v := 60) hx hb dX5_bare_25 rfl ?_
      obtain ⟨r5, v6, h7, hf⟩ := ob2_e hf
      refine kci (Wx := (oTM q0 qn0 qk0 qr0 qc0 qt0 qd0 qs0 qf0 qw0 rowCount anyKept (oPort C qn0 qn1 qn2 qn3 qn4 qn5 qn6 now (oPort C qr0 qr1 qr2 qr3 qr4 qr5 qr6 v6 [])))) (va_runV (As := [.int x0, .int 60]) (rest := []) ⟨hx, hb, hml, hown, hts⟩ (c_X1_hoursUntilBare l E D C qr0 qr1 qr2 qr3 qr4 qr5 qr6 H.size N v3 x0 60 r5 v6 h7) (cwV 2 hts gX5_bare_X1_hoursUntilBare rfl rfl rfl hdX1_hoursUntilBare ⟨Nat.le_of_ble_eq_true rfl, Nat.le_of_ble_eq_true rfl⟩) (kpreV hP hD hK hS hE hA [8, 9, 10, 11, 12, 13, 14] rfl rfl 8 rfl rfl rfl) rfl rfl hl.1 rfl (lv_room (Nat.le_of_ble_eq_true rfl)) dX5_bare_27 ⟨Nat.zero_le _, Nat.zero_le _⟩) hP hD hS hA [8, 9, 10, 11, 12, 13, 14] rfl rfl rfl (fun H locs hP hD hS => ?_)
      cases hf
      exact kri hQ hAe hx hb hr hlocks hP hD hK hS dX5_bare_30
    · replace hf := if_te c2 hf
      refine lv_iconst (v := (-1)) hx hb dX5_bare_7 rfl ?_
      cases hf
      exact kri hQ hAe hx hb hr hlocks hP hD hK hS dX5_bare_8
  exact main _ _ hP hD hS

