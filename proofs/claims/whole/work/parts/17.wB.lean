def rmX4_isWord : Room := { frames := 8, cells := 0, slots := 0, locals := 400 }
theorem hdX4_isWord : yX4_isWord.cls = RX4 ∧ yX4_isWord.cls ≠ "java/lang/invoke/MethodHandle" ∧ yX4_isWord.cls ≠ "java/lang/invoke/VarHandle" ∧ (parseMethodDescriptor yX4_isWord.desc).map (fun d => d.parameters.length) = some 1 := by decide +kernel
set_option maxHeartbeats 40000000 in
set_option maxRecDepth 100000 in
theorem c_X4_isWord (l : Launch) (E : Nat → Nat) (D : va_G) (C : Nat → ClassId) (a0 a1 : Nat) (sz : Nat) (N : Nat) (v : TV) (ws0 : Nat) (hw : ws0 < 14)  (r : Int32) (hf : f_X4_isWord N v ws0 = some r) : Met l yX4_isWord wsX4_isWord rmX4_isWord (PC E D C [.ref a0, .ref (E (10 + ws0))] (oTape C a0 a1 v []) sz) (QZ D C (oTape C a0 a1 v []) (oTape C a0 a1 v []) sz r) 0 0 (va_A (oTape C a0 a1 v []) sz) := by
  refine Met.ofW (cc := cX4_isWord) (maxL := 3) (ret := (some .boolean)) (by decide) rfl ?_
  intro p e s m args below meth c s₁ B hml hv
  obtain ⟨rfl, hsz, hP, hK, hD0, hE⟩ := hv
  have hx := B.exec
  have hb := B.bytes
  have hr := B.returns
  have hts := atoms_spec (ws := wsX4_isWord) B.pre
  have hown : s.vm.findClass RX4 = some m.cls := findClass_of_methodNamed B.named
  have hlocks := B.notSynchronized
  subst hsz
  have hi_RX4 : ∀ w ∈ wsX40, w ∈ wsX4_isWord := fun _ h => List.mem_cons_of_mem _ (List.mem_append_right _ h)
  have hD := hD0.self (sz := s.heap.size)
  obtain ⟨A, hAe⟩ := nm_ex (va_A (oTape C a0 a1 v []) s.heap.size)
  rw [← hAe] at hD hE ⊢
  have hA : ∀ q : Nat, s.heap.size ≤ q → A q := fun q h => by rw [hAe]; exact Or.inr h
  have hS : va_S A s.heap s.heap [] := va_S.rf
  have hl := lv_entry ([.ref a0, .ref (E (10 + ws0))]) (n := 3) (Nat.le_of_ble_eq_true rfl)
  rw [lg_entry_eq]
  generalize (lg_sl ([.ref a0, .ref (E (10 + ws0))]) ++ List.replicate (3 - (lg_sl ([.ref a0, .ref (E (10 + ws0))])).length) Slot.unset).toArray = ls at hl ⊢
  have hl : lv_has ls 3 [(0, .ref a0), (1, .ref (E (10 + ws0)))] := hl
  obtain ⟨Q, hQ⟩ := nm_ex (MQ below (QZ D C (oTape C a0 a1 v []) (oTape C a0 a1 v []) s.heap.size r) (List.toArray [Value.ref a0, Value.ref (E (10 + ws0))]) s 0 0 A)
  show W p l e (headSpec wsX4_isWord (rmX4_isWord)).room s m (List.toArray [Value.ref a0, Value.ref (E (10 + ws0))]) below meth c s.heap [] 0 0 (MQ below (QZ D C (oTape C a0 a1 v []) (oTape C a0 a1 v []) s.heap.size r) (List.toArray [Value.ref a0, Value.ref (E (10 + ws0))]) s 0 0 A) _
  rw [← hQ]
  unfold f_X4_isWord at hf
  have main : ∀ (H : Heap) (locs : List Loc), va_P D vwCl (oTape C a0 a1 v []) H → va_D A (oTape C a0 a1 v []) → va_S A s.heap H locs → W p l e (headSpec wsX4_isWord (rmX4_isWord)).room s m (List.toArray [Value.ref a0, Value.ref (E (10 + ws0))]) below meth c H locs 0 0 Q (F0 m 0 ls []) := by
    intro H locs hP hD hS
    refine lv_aload_n hx hb dX4_isWord_0 rfl (lv_at hl 0 rfl) ?_
    refine va_get (D := D) (ci := 4) (v := .int (tpToken v)) (C := RX4) (T := TX4) (N := 6) hx hb hts hi_RX4 hown hK hP 0 rfl rfl 2 (by decide) (hts (.fieldLink RX4 25 "TravelMarks$Tape" "token" "I") (List.mem_of_getElem? (i := 1) rfl)) (fun _ h9 => h9) rfl dX4_isWord_1 ?_
    refine lv_iconst (v := 1) hx hb dX4_isWord_4 rfl ?_
    refine lv_icmp_ne (tgt := 24) hx hb dX4_isWord_5 (by decide) (fun c1 => ?_) (fun c1 => ?_)
    · replace hf := if_fe c1 hf
      refine lv_iconst (v := 0) hx hb dX4_isWord_24 rfl ?_
      cases hf
      exact krz hQ hAe hx hb hr hlocks zb_0 hP hD hK hS dX4_isWord_25
    · replace hf := if_te c1 hf
      refine lv_aload_n hx hb dX4_isWord_8 rfl (lv_at hl 0 rfl) ?_
      refine va_get (D := D) (ci := 4) (v := .int (tpEnd v)) (C := RX4) (T := TX4) (N := 6) hx hb hts hi_RX4 hown hK hP 0 rfl rfl 4 (by decide) (hts (.fieldLink RX4 19 "TravelMarks$Tape" "end" "I") (List.mem_of_getElem? (i := 2) rfl)) (fun _ h9 => h9) rfl dX4_isWord_9 ?_
      refine lv_aload_n hx hb dX4_isWord_12 rfl (lv_at hl 0 rfl) ?_
      refine va_get (D := D) (ci := 4) (v := .int (tpStart v)) (C := RX4) (T := TX4) (N := 6) hx hb hts hi_RX4 hown hK hP 0 rfl rfl 3 (by decide) (hts (.fieldLink RX4 32 "TravelMarks$Tape" "start" "I") (List.mem_of_getElem? (i := 3) rfl)) (fun _ h9 => h9) rfl dX4_isWord_13 ?_
      refine lv_isub hx hb dX4_isWord_16 ?_
      refine lv_aload_n hx hb dX4_isWord_17 rfl (lv_at hl 1 rfl) ?_
      refine kci (Wx := (oTape C a0 a1 v [])) (va_runV (As := []) (rest := [.int ((tpEnd v) - (tpStart v))]) ⟨hx, hb, hml, hown, hts⟩ (c_J0_length_8abf5 l E D C H.size ws0 hw) (cwV 0 hts gX4_isWord_J0_length_8abf5 rfl rfl rfl hdJ0_length_8abf5 ⟨Nat.le_of_ble_eq_true rfl, Nat.le_of_ble_eq_true rfl⟩) (kpreS hP hD hK hS hE hA hw) rfl rfl hl.1 rfl (lv_room (Nat.le_of_ble_eq_true rfl)) dX4_isWord_18 ⟨Nat.zero_le _, Nat.zero_le _⟩) hP hD hS hA [] rfl rfl rfl (fun H locs hP hD hS => ?_)
      refine lv_icmp_eq (tgt := 26) hx hb dX4_isWord_21 (by decide) (fun c2 => ?_) (fun c2 => ?_)
      · replace hf := if_te c2 hf
        refine lv_iconst (v := 0) hx hb dX4_isWord_26 rfl ?_
        refine lv_istore_n (lv' := [(2, .int 0), (0, .ref a0), (1, .ref (E (10 + ws0)))]) hx hb dX4_isWord_27 rfl hl (by decide) rfl (fun ls hl => ?_)
        have hL28 : ∀ (n : Nat) (i3 : Int32) (H : Heap) (locs : List Loc) (ls : Array Slot), va_P D vwCl (oTape C a0 a1 v []) H → va_D A (oTape C a0 a1 v []) → va_S A s.heap H locs → lv_has ls 3 [(2, .int i3), (0, .ref a0), (1, .ref (E (10 + ws0)))] → f_X4_isWord_L28 v ws0 n i3 = some r → W p l e (headSpec wsX4_isWord (rmX4_isWord)).room s m (List.toArray [Value.ref a0, Value.ref (E (10 + ws0))]) below meth c H locs 0 0 Q (F0 m 28 ls []) := by
          intro n
          induction n with
          | zero =>
            intro i3 H locs ls hP hD hS hl hf
            exact absurd hf (fun h => by cases h)
          | succ n ih =>
            intro i3 H locs ls hP hD hS hl hf
            rw [f_X4_isWord_L28] at hf
            refine lv_iload_n hx hb dX4_isWord_28 rfl (lv_at hl 0 rfl) ?_
            refine lv_aload_n hx hb dX4_isWord_29 rfl (lv_at hl 2 rfl) ?_
            refine kci (Wx := (oTape C a0 a1 v [])) (va_runV (As := []) (rest := [.int i3]) ⟨hx, hb, hml, hown, hts⟩ (c_J0_length_8abf5 l E D C H.size ws0 hw) (cwV 0 hts gX4_isWord_J0_length_8abf5 rfl rfl rfl hdJ0_length_8abf5 ⟨Nat.le_of_ble_eq_true rfl, Nat.le_of_ble_eq_true rfl⟩) (kpreS hP hD hK hS hE hA hw) rfl rfl hl.1 rfl (lv_room (Nat.le_of_ble_eq_true rfl)) dX4_isWord_30 ⟨Nat.zero_le _, Nat.zero_le _⟩) hP hD hS hA [] rfl rfl rfl (fun H locs hP hD hS => ?_)
            refine lv_icmp_ge (tgt := 63) hx hb dX4_isWord_33 (by decide) (fun c4 => ?_) (fun c4 => ?_)
            · replace hf := if_te c4 hf
              refine lv_iconst (v := 1) hx hb dX4_isWord_63 rfl ?_
              cases hf
              exact krz hQ hAe hx hb hr hlocks zb_1 hP hD hK hS dX4_isWord_64
            · replace hf := if_fe c4 hf
              refine lv_aload_n hx hb dX4_isWord_36 rfl (lv_at hl 1 rfl) ?_
              refine va_get (D := D) (ci := 4) (v := .ref a1) (C := RX4) (T := TX4) (N := 6) hx hb hts hi_RX4 hown hK hP 0 rfl rfl 0 (by decide) (hts (.fieldLink RX4 11 "TravelMarks$Tape" "bytes" "[B") (List.mem_of_getElem? (i := 4) rfl)) (fun _ h9 => h9) rfl dX4_isWord_37 ?_
              refine lv_aload_n hx hb dX4_isWord_40 rfl (lv_at hl 1 rfl) ?_
              refine va_get (D := D) (ci := 4) (v := .int (tpStart v)) (C := RX4) (T := TX4) (N := 6) hx hb hts hi_RX4 hown hK hP 0 rfl rfl 3 (by decide) (hts (.fieldLink RX4 32 "TravelMarks$Tape" "start" "I") (List.mem_of_getElem? (i := 3) rfl)) (fun _ h9 => h9) rfl dX4_isWord_41 ?_
              refine lv_iload_n hx hb dX4_isWord_44 rfl (lv_at hl 0 rfl) ?_
              refine lv_iadd hx hb dX4_isWord_45 ?_
              obtain ⟨y6, ey6, hi5, hf⟩ := rdA_x hf
              refine va_bald hx hb hK hP 1 1 rfl rfl hi5 dX4_isWord_46 ?_
              refine lv_ren ey6 ?_
              refine lv_aload_n hx hb dX4_isWord_47 rfl (lv_at hl 2 rfl) ?_
              refine lv_iload_n hx hb dX4_isWord_48 rfl (lv_at hl 0 rfl) ?_
              obtain ⟨y7, ey7, hi8, hf⟩ := rdA_x hf
              refine kci (Wx := (oTape C a0 a1 v [])) (va_runV (As := [.int i3]) (rest := [.int y6]) ⟨hx, hb, hml, hown, hts⟩ (c_J0_charAt_5068e l E D C H.size ws0 hw i3 hi8) (cwV 1 hts gX4_isWord_J0_charAt_5068e rfl rfl rfl hdJ0_charAt_5068e ⟨Nat.le_of_ble_eq_true rfl, Nat.le_of_ble_eq_true rfl⟩) (kpreS hP hD hK hS hE hA hw) rfl rfl hl.1 rfl (lv_room (Nat.le_of_ble_eq_true rfl)) dX4_isWord_49 ⟨Nat.zero_le _, Nat.zero_le _⟩) hP hD hS hA [] rfl rfl rfl (fun H locs hP hD hS => ?_)
              refine lv_ren ey7 ?_
              refine lv_icmp_eq (tgt := 57) hx hb dX4_isWord_52 (by decide) (fun c9 => ?_) (fun c9 => ?_)
              · replace hf := if_te c9 hf
                obtain ⟨t10, et10, hf⟩ := lj_e hf
                refine lv_iinc (v := t10) (lv' := [(2, .int t10), (0, .ref a0), (1, .ref (E (10 + ws0)))]) hx hb dX4_isWord_57 hl (k := 0) rfl (by rw [et10]; rfl) (by decide) rfl (fun ls hl => ?_)
                refine lv_goto (tgt := 28) hx hb dX4_isWord_60 (by decide) ?_
                exact ih t10 H locs ls hP hD hS (lv_sub hl [0, 1, 2] rfl) hf
              · replace hf := if_fe c9 hf
                refine lv_iconst (v := 0) hx hb dX4_isWord_55 rfl ?_
                cases hf
                exact krz hQ hAe hx hb hr hlocks zb_0 hP hD hK hS dX4_isWord_56
        exact hL28 N 0 H locs ls hP hD hS (lv_sub hl [0, 1, 2] rfl) hf
      · replace hf := if_fe c2 hf
        refine lv_iconst (v := 0) hx hb dX4_isWord_24 rfl ?_
        cases hf
        exact krz hQ hAe hx hb hr hlocks zb_0 hP hD hK hS dX4_isWord_25
  exact main _ _ hP hD hS

def rmX4_kindNamed : Room := { frames := 9, cells := 0, slots := 0, locals := 422 }
theorem hdX4_kindNamed : yX4_kindNamed.cls = RX4 ∧ yX4_kindNamed.cls ≠ "java/lang/invoke/MethodHandle" ∧ yX4_kindNamed.cls ≠ "java/lang/invoke/VarHandle" ∧ (parseMethodDescriptor yX4_kindNamed.desc).map (fun d => d.parameters.length) = some 0 := by decide +kernel
set_option maxHeartbeats 40000000 in
set_option maxRecDepth 100000 in
theorem c_X4_kindNamed (l : Launch) (E : Nat → Nat) (D : va_G) (C : Nat → ClassId) (a0 a1 : Nat) (sz : Nat) (N : Nat) (v : TV)  (r : Int32) (hf : f_X4_kindNamed N v = some r) : Met l yX4_kindNamed wsX4_kindNamed rmX4_kindNamed (PC E D C [.ref a0] (oTape C a0 a1 v []) sz) (QI D C (oTape C a0 a1 v []) (oTape C a0 a1 v []) sz r) 0 0 (va_A (oTape C a0 a1 v []) sz) := by
  refine Met.ofW (cc := cX4_kindNamed) (maxL := 1) (ret := (some .int)) (by decide) rfl ?_
  intro p e s m args below meth c s₁ B hml hv
  obtain ⟨rfl, hsz, hP, hK, hD0, hE⟩ := hv
  have hx := B.exec
  have hb := B.bytes
  have hr := B.returns
  have hts := atoms_spec (ws := wsX4_kindNamed) B.pre
  have hown : s.vm.findClass RX4 = some m.cls := findClass_of_methodNamed B.named
  have hlocks := B.notSynchronized
  subst hsz
  have hD := hD0.self (sz := s.heap.size)
  obtain ⟨A, hAe⟩ := nm_ex (va_A (oTape C a0 a1 v []) s.heap.size)
  rw [← hAe] at hD hE ⊢
  have hA : ∀ q : Nat, s.heap.size ≤ q → A q := fun q h => by rw [hAe]; exact Or.inr h
  have hS : va_S A s.heap s.heap [] := va_S.rf
  have hl := lv_entry ([.ref a0]) (n := 1) (Nat.le_of_ble_eq_true rfl)
  rw [lg_entry_eq]
  generalize (lg_sl ([.ref a0]) ++ List.replicate (1 - (lg_sl ([.ref a0])).length) Slot.unset).toArray = ls at hl ⊢
  have hl : lv_has ls 1 [(0, .ref a0)] := hl
  obtain ⟨Q, hQ⟩ := nm_ex (MQ below (QI D C (oTape C a0 a1 v []) (oTape C a0 a1 v []) s.heap.size r) (List.toArray [Value.ref a0]) s 0 0 A)
  show W p l e (headSpec wsX4_kindNamed (rmX4_kindNamed)).room s m (List.toArray [Value.ref a0]) below meth c s.heap [] 0 0 (MQ below (QI D C (oTape C a0 a1 v []) (oTape C a0 a1 v []) s.heap.size r) (List.toArray [Value.ref a0]) s 0 0 A) _
  rw [← hQ]
  unfold f_X4_kindNamed at hf
  have main : ∀ (H : Heap) (locs : List Loc), va_P D vwCl (oTape C a0 a1 v []) H → va_D A (oTape C a0 a1 v []) → va_S A s.heap H locs → W p l e (headSpec wsX4_kindNamed (rmX4_kindNamed)).room s m (List.toArray [Value.ref a0]) below meth c H locs 0 0 Q (F0 m 0 ls []) := by
    intro H locs hP hD hS
    refine lv_aload_n hx hb dX4_kindNamed_0 rfl (lv_at hl 0 rfl) ?_
    refine va_ldcS hx hb hown (hE.2.1 0 _ rfl) dX4_kindNamed_1 ?_
    obtain ⟨r1, h2, hf⟩ := ob1_e hf
    refine kcz (Wx := (oTape C a0 a1 v [])) (va_runV (As := [.ref (E (10 + 0))]) (rest := []) ⟨hx, hb, hml, hown, hts⟩ (c_X4_isWord l E D C a0 a1 H.size N v 0 (by decide) r1 h2) (cwV 1 hts gX4_kindNamed_X4_isWord rfl rfl rfl hdX4_isWord ⟨Nat.le_of_ble_eq_true rfl, Nat.le_of_ble_eq_true rfl⟩) (kpreV hP hD hK hS hE hA [0, 1] rfl rfl 0 rfl rfl rfl) rfl rfl hl.1 rfl (lv_room (Nat.le_of_ble_eq_true rfl)) dX4_kindNamed_3 ⟨Nat.zero_le _, Nat.zero_le _⟩) hP hD hS hA [0, 1] rfl rfl rfl (fun H locs hz3 hP hD hS => ?_)
    refine lv_if_eq (tgt := 11) hx hb dX4_kindNamed_6 (by decide) (fun c4 => ?_) (fun c4 => ?_)
    · replace hf := if_te c4 hf
      refine lv_aload_n hx hb dX4_kindNamed_11 rfl (lv_at hl 0 rfl) ?_
      refine va_ldcS hx hb hown (hE.2.1 1 _ rfl) dX4_kindNamed_12 ?_
      obtain ⟨r5, h6, hf⟩ := ob1_e hf
      refine kcz (Wx := (oTape C a0 a1 v [])) (va_runV (As := [.ref (E (10 + 1))]) (rest := []) ⟨hx, hb, hml, hown, hts⟩ (c_X4_isWord l E D C a0 a1 H.size N v 1 (by decide) r5 h6) (cwV 1 hts gX4_kindNamed_X4_isWord rfl rfl rfl hdX4_isWord ⟨Nat.le_of_ble_eq_true rfl, Nat.le_of_ble_eq_true rfl⟩) (kpreV hP hD hK hS hE hA [0, 1] rfl rfl 0 rfl rfl rfl) rfl rfl hl.1 rfl (lv_room (Nat.le_of_ble_eq_true rfl)) dX4_kindNamed_14 ⟨Nat.zero_le _, Nat.zero_le _⟩) hP hD hS hA [0, 1] rfl rfl rfl (fun H locs hz7 hP hD hS => ?_)
      refine lv_if_eq (tgt := 22) hx hb dX4_kindNamed_17 (by decide) (fun c8 => ?_) (fun c8 => ?_)
      · replace hf := if_te c8 hf
        refine lv_aload_n hx hb dX4_kindNamed_22 rfl (lv_at hl 0 rfl) ?_
        refine va_ldcS hx hb hown (hE.2.1 2 _ rfl) dX4_kindNamed_23 ?_
        obtain ⟨r9, h10, hf⟩ := ob1_e hf
        refine kcz (Wx := (oTape C a0 a1 v [])) (va_runV (As := [.ref (E (10 + 2))]) (rest := []) ⟨hx, hb, hml, hown, hts⟩ (c_X4_isWord l E D C a0 a1 H.size N v 2 (by decide) r9 h10) (cwV 1 hts gX4_kindNamed_X4_isWord rfl rfl rfl hdX4_isWord ⟨Nat.le_of_ble_eq_true rfl, Nat.le_of_ble_eq_true rfl⟩) (kpreV hP hD hK hS hE hA [0, 1] rfl rfl 0 rfl rfl rfl) rfl rfl hl.1 rfl (lv_room (Nat.le_of_ble_eq_true rfl)) dX4_kindNamed_25 ⟨Nat.zero_le _, Nat.zero_le _⟩) hP hD hS hA [0, 1] rfl rfl rfl (fun H locs hz11 hP hD hS => ?_)
        refine lv_if_eq (tgt := 33) hx hb dX4_kindNamed_28 (by decide) (fun c12 => ?_) (fun c12 => ?_)
        · replace hf := if_te c12 hf
          refine lv_aload_n hx hb dX4_kindNamed_33 rfl (lv_at hl 0 rfl) ?_
          refine va_ldcS hx hb hown (hE.2.1 3 _ rfl) dX4_kindNamed_34 ?_
          obtain ⟨r13, h14, hf⟩ := ob1_e hf
          refine kcz (Wx := (oTape C a0 a1 v [])) (va_runV (As := [.ref (E (10 + 3))]) (rest := []) ⟨hx, hb, hml, hown, hts⟩ (c_X4_isWord l E D C a0 a1 H.size N v 3 (by decide) r13 h14) (cwV 1 hts gX4_kindNamed_X4_isWord rfl rfl rfl hdX4_isWord ⟨Nat.le_of_ble_eq_true rfl, Nat.le_of_ble_eq_true rfl⟩) (kpreV hP hD hK hS hE hA [0, 1] rfl rfl 0 rfl rfl rfl) rfl rfl hl.1 rfl (lv_room (Nat.le_of_ble_eq_true rfl)) dX4_kindNamed_36 ⟨Nat.zero_le _, Nat.zero_le _⟩) hP hD hS hA [0, 1] rfl rfl rfl (fun H locs hz15 hP hD hS => ?_)
          refine lv_if_eq (tgt := 44) hx hb dX4_kindNamed_39 (by decide) (fun c16 => ?_) (fun c16 => ?_)
          · replace hf := if_te c16 hf
            refine lv_aload_n hx hb dX4_kindNamed_44 rfl (lv_at hl 0 rfl) ?_
            refine va_ldcS hx hb hown (hE.2.1 4 _ rfl) dX4_kindNamed_45 ?_
            obtain ⟨r17, h18, hf⟩ := ob1_e hf
            refine kcz (Wx := (oTape C a0 a1 v [])) (va_runV (As := [.ref (E (10 + 4))]) (rest := []) ⟨hx, hb, hml, hown, hts⟩ (c_X4_isWord l E D C a0 a1 H.size N v 4 (by decide) r17 h18) (cwV 1 hts gX4_kindNamed_X4_isWord rfl rfl rfl hdX4_isWord ⟨Nat.le_of_ble_eq_true rfl, Nat.le_of_ble_eq_true rfl⟩) (kpreV hP hD hK hS hE hA [0, 1] rfl rfl 0 rfl rfl rfl) rfl rfl hl.1 rfl (lv_room (Nat.le_of_ble_eq_true rfl)) dX4_kindNamed_47 ⟨Nat.zero_le _, Nat.zero_le _⟩) hP hD hS hA [0, 1] rfl rfl rfl (fun H locs hz19 hP hD hS => ?_)
            refine lv_if_eq (tgt := 55) hx hb dX4_kindNamed_50 (by decide) (fun c20 => ?_) (fun c20 => ?_)
            · replace hf := if_te c20 hf
              refine lv_aload_n hx hb dX4_kindNamed_55 rfl (lv_at hl 0 rfl) ?_
              refine va_ldcS hx hb hown (hE.2.1 5 _ rfl) dX4_kindNamed_56 ?_
              obtain ⟨r21, h22, hf⟩ := ob1_e hf
              refine kcz (Wx := (oTape C a0 a1 v [])) (va_runV (As := [.ref (E (10 + 5))]) (rest := []) ⟨hx, hb, hml, hown, hts⟩ (c_X4_isWord l E D C a0 a1 H.size N v 5 (by decide) r21 h22) (cwV 1 hts gX4_kindNamed_X4_isWord rfl rfl rfl hdX4_isWord ⟨Nat.le_of_ble_eq_true rfl, Nat.le_of_ble_eq_true rfl⟩) (kpreV hP hD hK hS hE hA [0, 1] rfl rfl 0 rfl rfl rfl) rfl rfl hl.1 rfl (lv_room (Nat.le_of_ble_eq_true rfl)) dX4_kindNamed_58 ⟨Nat.zero_le _, Nat.zero_le _⟩) hP hD hS hA [0, 1] rfl rfl rfl (fun H locs hz23 hP hD hS => ?_)
              refine lv_if_eq (tgt := 68) hx hb dX4_kindNamed_61 (by decide) (fun c24 => ?_) (fun c24 => ?_)
              · replace hf := if_te c24 hf
                refine lv_iconst (v := (-1)) hx hb dX4_kindNamed_68 rfl ?_
                cases hf
                exact kri hQ hAe hx hb hr hlocks hP hD hK hS dX4_kindNamed_69
              · replace hf := if_fe c24 hf
                refine lv_iconst (v := 5) hx hb dX4_kindNamed_64 rfl ?_
                refine lv_goto (tgt := 69) hx hb dX4_kindNamed_65 (by decide) ?_
                cases hf
                exact kri hQ hAe hx hb hr hlocks hP hD hK hS dX4_kindNamed_69
            · replace hf := if_fe c20 hf
              refine lv_iconst (v := 4) hx hb dX4_kindNamed_53 rfl ?_
              cases hf
              exact kri hQ hAe hx hb hr hlocks hP hD hK hS dX4_kindNamed_54
          · replace hf := if_fe c16 hf
            refine lv_iconst (v := 3) hx hb dX4_kindNamed_42 rfl ?_
            cases hf
            exact kri hQ hAe hx hb hr hlocks hP hD hK hS dX4_kindNamed_43
        · replace hf := if_fe c12 hf
          refine lv_iconst (v := 2) hx hb dX4_kindNamed_31 rfl ?_
          cases hf
          exact kri hQ hAe hx hb hr hlocks hP hD hK hS dX4_kindNamed_32
      · replace hf := if_fe c8 hf
        refine lv_iconst (v := 1) hx hb dX4_kindNamed_20 rfl ?_
        cases hf
        exact kri hQ hAe hx hb hr hlocks hP hD hK hS dX4_kindNamed_21
    · replace hf := if_fe c4 hf
      refine lv_iconst (v := 0) hx hb dX4_kindNamed_9 rfl ?_
      cases hf
      exact kri hQ hAe hx hb hr hlocks hP hD hK hS dX4_kindNamed_10
  exact main _ _ hP hD hS

def rmX4_readWord : Room := { frames := 9, cells := 0, slots := 0, locals := 422 }
theorem hdX4_readWord : yX4_readWord.cls = RX4 ∧ yX4_readWord.cls ≠ "java/lang/invoke/MethodHandle" ∧ yX4_readWord.cls ≠ "java/lang/invoke/VarHandle" ∧ (parseMethodDescriptor yX4_readWord.desc).map (fun d => d.parameters.length) = some 1 := by decide +kernel
set_option maxHeartbeats 40000000 in
set_option maxRecDepth 100000 in
theorem c_X4_readWord (l : Launch) (E : Nat → Nat) (D : va_G) (C : Nat → ClassId) (a0 a1 : Nat) (sz : Nat) (N : Nat) (v : TV) (ws0 : Nat) (hw : ws0 < 14)  (r : Int32) (v' : TV) (hf : f_X4_readWord N v ws0 = some (r, v')) : Met l yX4_readWord wsX4_readWord rmX4_readWord (PC E D C [.ref a0, .ref (E (10 + ws0))] (oTape C a0 a1 v []) sz) (QZ D C (oTape C a0 a1 v []) (oTape C a0 a1 (v') []) sz r) 0 0 (va_A (oTape C a0 a1 v []) sz) := by
  refine Met.ofW (cc := cX4_readWord) (maxL := 3) (ret := (some .boolean)) (by decide) rfl ?_
  intro p e s m args below meth c s₁ B hml hv
  obtain ⟨rfl, hsz, hP, hK, hD0, hE⟩ := hv
  have hx := B.exec
  have hb := B.bytes
  have hr := B.returns
  have hts := atoms_spec (ws := wsX4_readWord) B.pre
  have hown : s.vm.findClass RX4 = some m.cls := findClass_of_methodNamed B.named
  have hlocks := B.notSynchronized
  subst hsz
  have hD := hD0.self (sz := s.heap.size)
  obtain ⟨A, hAe⟩ := nm_ex (va_A (oTape C a0 a1 v []) s.heap.size)
  rw [← hAe] at hD hE ⊢
  have hA : ∀ q : Nat, s.heap.size ≤ q → A q := fun q h => by rw [hAe]; exact Or.inr h
  have hS : va_S A s.heap s.heap [] := va_S.rf
  have hl := lv_entry ([.ref a0, .ref (E (10 + ws0))]) (n := 3) (Nat.le_of_ble_eq_true rfl)
  rw [lg_entry_eq]
  generalize (lg_sl ([.ref a0, .ref (E (10 + ws0))]) ++ List.replicate (3 - (lg_sl ([.ref a0, .ref (E (10 + ws0))])).length) Slot.unset).toArray = ls at hl ⊢
  have hl : lv_has ls 3 [(0, .ref a0), (1, .ref (E (10 + ws0)))] := hl
  obtain ⟨Q, hQ⟩ := nm_ex (MQ below (QZ D C (oTape C a0 a1 v []) (oTape C a0 a1 (v') []) s.heap.size r) (List.toArray [Value.ref a0, Value.ref (E (10 + ws0))]) s 0 0 A)
  show W p l e (headSpec wsX4_readWord (rmX4_readWord)).room s m (List.toArray [Value.ref a0, Value.ref (E (10 + ws0))]) below meth c s.heap [] 0 0 (MQ below (QZ D C (oTape C a0 a1 v []) (oTape C a0 a1 (v') []) s.heap.size r) (List.toArray [Value.ref a0, Value.ref (E (10 + ws0))]) s 0 0 A) _
  rw [← hQ]
  unfold f_X4_readWord at hf
  have main : ∀ (H : Heap) (locs : List Loc), va_P D vwCl (oTape C a0 a1 v []) H → va_D A (oTape C a0 a1 v []) → va_S A s.heap H locs → W p l e (headSpec wsX4_readWord (rmX4_readWord)).room s m (List.toArray [Value.ref a0, Value.ref (E (10 + ws0))]) below meth c H locs 0 0 Q (F0 m 0 ls []) := by
    intro H locs hP hD hS
    refine lv_aload_n hx hb dX4_readWord_0 rfl (lv_at hl 0 rfl) ?_
    refine lv_aload_n hx hb dX4_readWord_1 rfl (lv_at hl 1 rfl) ?_
    obtain ⟨r1, h2, hf⟩ := ob1_e hf
    refine kcz (Wx := (oTape C a0 a1 v [])) (va_runV (As := [.ref (E (10 + ws0))]) (rest := []) ⟨hx, hb, hml, hown, hts⟩ (c_X4_isWord l E D C a0 a1 H.size N v ws0 hw r1 h2) (cwV 1 hts gX4_readWord_X4_isWord rfl rfl rfl hdX4_isWord ⟨Nat.le_of_ble_eq_true rfl, Nat.le_of_ble_eq_true rfl⟩) (kpreV hP hD hK hS hE hA [0, 1] rfl rfl 0 rfl rfl rfl) rfl rfl hl.1 rfl (lv_room (Nat.le_of_ble_eq_true rfl)) dX4_readWord_2 ⟨Nat.zero_le _, Nat.zero_le _⟩) hP hD hS hA [0, 1] rfl rfl rfl (fun H locs hz3 hP hD hS => ?_)
    refine lv_istore_n (lv' := [(2, .int r1), (0, .ref a0), (1, .ref (E (10 + ws0)))]) hx hb dX4_readWord_5 rfl hl (by decide) rfl (fun ls hl => ?_)
    refine lv_iload_n hx hb dX4_readWord_6 rfl (lv_at hl 0 rfl) ?_
    refine lv_if_eq (tgt := 14) hx hb dX4_readWord_7 (by decide) (fun c4 => ?_) (fun c4 => ?_)
    · replace hf := if_te c4 hf
      refine lv_iload_n hx hb dX4_readWord_14 rfl (lv_at hl 0 rfl) ?_
      cases hf
      exact krz hQ hAe hx hb hr hlocks hz3 hP hD hK hS dX4_readWord_15
    · replace hf := if_fe c4 hf
      refine lv_aload_n hx hb dX4_readWord_10 rfl (lv_at hl 1 rfl) ?_
      obtain ⟨v5, h6, hf⟩ := ob1_e hf
      refine kcv (Wx := (oTape C a0 a1 v5 [])) (va_runV (As := []) (rest := []) ⟨hx, hb, hml, hown, hts⟩ (c_X4_next l E D C a0 a1 H.size N v v5 h6) (cwV 0 hts gX4_readWord_X4_next rfl rfl rfl hdX4_next ⟨Nat.le_of_ble_eq_true rfl, Nat.le_of_ble_eq_true rfl⟩) (kpreV hP hD hK hS hE hA [0, 1] rfl rfl 0 rfl rfl rfl) rfl rfl hl.1 rfl (lv_room (Nat.le_of_ble_eq_true rfl)) dX4_readWord_11 ⟨Nat.zero_le _, Nat.zero_le _⟩) hP hD hS hA [0, 1] rfl rfl rfl (fun H locs hP hD hS => ?_)
      refine lv_iload_n hx hb dX4_readWord_14 rfl (lv_at hl 0 rfl) ?_
      cases hf
      exact krz hQ hAe hx hb hr hlocks hz3 hP hD hK hS dX4_readWord_15
  exact main _ _ hP hD hS

def rmX4_readMark : Room := { frames := 10, cells := 0, slots := 0, locals := 444 }
theorem hdX4_readMark : yX4_readMark.cls = RX4 ∧ yX4_readMark.cls ≠ "java/lang/invoke/MethodHandle" ∧ yX4_readMark.cls ≠ "java/lang/invoke/VarHandle" ∧ (parseMethodDescriptor yX4_readMark.desc).map (fun d => d.parameters.length) = some 2 := by decide +kernel
set_option maxHeartbeats 40000000 in
set_option maxRecDepth 100000 in
theorem c_X4_readMark (l : Launch) (E : Nat → Nat) (D : va_G) (C : Nat → ClassId) (a0 a1 b0_0 b0_1 b0_2 b0_3 b0_4 b0_5 b0_6 : Nat) (sz : Nat) (N : Nat) (v : TV) (w0 : PV) (x1 : Int32) (r : Int32) (v' : TV) (w0' : PV) (hf : f_X4_readMark N v w0 x1 = some (r, v', w0')) : Met l yX4_readMark wsX4_readMark rmX4_readMark (PC E D C [.ref a0, .ref b0_0, .int x1] (oTape C a0 a1 v (oPort C b0_0 b0_1 b0_2 b0_3 b0_4 b0_5 b0_6 w0 [])) sz) (QZ D C (oTape C a0 a1 v (oPort C b0_0 b0_1 b0_2 b0_3 b0_4 b0_5 b0_6 w0 [])) (oTape C a0 a1 (v') (oPort C b0_0 b0_1 b0_2 b0_3 b0_4 b0_5 b0_6 (w0') [])) sz r) 0 0 (va_A (oTape C a0 a1 v (oPort C b0_0 b0_1 b0_2 b0_3 b0_4 b0_5 b0_6 w0 [])) sz) := by
  refine Met.ofW (cc := cX4_readMark) (maxL := 5) (ret := (some .boolean)) (by decide) rfl ?_
  intro p e s m args below meth c s₁ B hml hv
  obtain ⟨rfl, hsz, hP, hK, hD0, hE⟩ := hv
  have hx := B.exec
  have hb := B.bytes
  have hr := B.returns
  have hts := atoms_spec (ws := wsX4_readMark) B.pre
  have hown : s.vm.findClass RX4 = some m.cls := findClass_of_methodNamed B.named
  have hlocks := B.notSynchronized
  subst hsz
  have hi_RX1 : ∀ w ∈ wsX10, w ∈ wsX4_readMark := fun _ h => List.mem_cons_of_mem _ (List.mem_append_left _ (List.mem_append_right _ h))
  have hD := hD0.self (sz := s.heap.size)
  obtain ⟨A, hAe⟩ := nm_ex (va_A (oTape C a0 a1 v (oPort C b0_0 b0_1 b0_2 b0_3 b0_4 b0_5 b0_6 w0 [])) s.heap.size)
  rw [← hAe] at hD hE ⊢
  have hA : ∀ q : Nat, s.heap.size ≤ q → A q := fun q h => by rw [hAe]; exact Or.inr h
  have hS : va_S A s.heap s.heap [] := va_S.rf
  have hl := lv_entry ([.ref a0, .ref b0_0, .int x1]) (n := 5) (Nat.le_of_ble_eq_true rfl)
  rw [lg_entry_eq]
  generalize (lg_sl ([.ref a0, .ref b0_0, .int x1]) ++ List.replicate (5 - (lg_sl ([.ref a0, .ref b0_0, .int x1])).length) Slot.unset).toArray = ls at hl ⊢
  have hl : lv_has ls 5 [(0, .ref a0), (1, .ref b0_0), (2, .int x1)] := hl
  obtain ⟨Q, hQ⟩ := nm_ex (MQ below (QZ D C (oTape C a0 a1 v (oPort C b0_0 b0_1 b0_2 b0_3 b0_4 b0_5 b0_6 w0 [])) (oTape C a0 a1 (v') (oPort C b0_0 b0_1 b0_2 b0_3 b0_4 b0_5 b0_6 (w0') [])) s.heap.size r) (List.toArray [Value.ref a0, Value.ref b0_0, Value.int x1]) s 0 0 A)
  show W p l e (headSpec wsX4_readMark (rmX4_readMark)).room s m (List.toArray [Value.ref a0, Value.ref b0_0, Value.int x1]) below meth c s.heap [] 0 0 (MQ below (QZ D C (oTape C a0 a1 v (oPort C b0_0 b0_1 b0_2 b0_3 b0_4 b0_5 b0_6 w0 [])) (oTape C a0 a1 (v') (oPort C b0_0 b0_1 b0_2 b0_3 b0_4 b0_5 b0_6 (w0') [])) s.heap.size r) (List.toArray [Value.ref a0, Value.ref b0_0, Value.int x1]) s 0 0 A) _
  rw [← hQ]
  unfold f_X4_readMark at hf
  have main : ∀ (H : Heap) (locs : List Loc), va_P D vwCl (oTape C a0 a1 v (oPort C b0_0 b0_1 b0_2 b0_3 b0_4 b0_5 b0_6 w0 [])) H → va_D A (oTape C a0 a1 v (oPort C b0_0 b0_1 b0_2 b0_3 b0_4 b0_5 b0_6 w0 [])) → va_S A s.heap H locs → W p l e (headSpec wsX4_readMark (rmX4_readMark)).room s m (List.toArray [Value.ref a0, Value.ref b0_0, Value.int x1]) below meth c H locs 0 0 Q (F0 m 0 ls []) := by
    intro H locs hP hD hS
    refine lv_aload_n hx hb dX4_readMark_0 rfl (lv_at hl 1 rfl) ?_
    refine va_get (D := D) (ci := 1) (v := .int (pCount w0)) (C := RX1) (T := TX1) (N := 10) hx hb hts hi_RX1 hown hK hP 2 rfl rfl 6 (by decide) (hts (.fieldLink RX4 71 "TravelMarks$Port" "count" "I") (List.mem_of_getElem? (i := 1) rfl)) (fun _ h9 => h9) rfl dX4_readMark_1 ?_
    refine lv_bipush (v := 8) hx hb dX4_readMark_4 rfl ?_
    refine lv_icmp_lt (tgt := 11) hx hb dX4_readMark_6 (by decide) (fun c1 => ?_) (fun c1 => ?_)
    · replace hf := if_te c1 hf
      refine lv_aload_n hx hb dX4_readMark_11 rfl (lv_at hl 0 rfl) ?_
      obtain ⟨v2, h3, hf⟩ := ob1_e hf
      refine kcv (Wx := (oTape C a0 a1 v2 (oPort C b0_0 b0_1 b0_2 b0_3 b0_4 b0_5 b0_6 w0 []))) (va_runV (As := []) (rest := []) ⟨hx, hb, hml, hown, hts⟩ (c_X4_next l E D C a0 a1 H.size N v v2 h3) (cwV 0 hts gX4_readMark_X4_next rfl rfl rfl hdX4_next ⟨Nat.le_of_ble_eq_true rfl, Nat.le_of_ble_eq_true rfl⟩) (kpreV hP hD hK hS hE hA [0, 1] rfl rfl 0 rfl rfl rfl) rfl rfl hl.1 rfl (lv_room (Nat.le_of_ble_eq_true rfl)) dX4_readMark_12 ⟨Nat.zero_le _, Nat.zero_le _⟩) hP hD hS hA [0, 1] rfl rfl rfl (fun H locs hP hD hS => ?_)
      refine lv_aload_n hx hb dX4_readMark_15 rfl (lv_at hl 0 rfl) ?_
      refine va_ldcS hx hb hown (hE.2.1 6 _ rfl) dX4_readMark_16 ?_
      obtain ⟨r4, v5, h6, hf⟩ := ob2_e hf
      refine kcz (Wx := (oTape C a0 a1 v5 (oPort C b0_0 b0_1 b0_2 b0_3 b0_4 b0_5 b0_6 w0 []))) (va_runV (As := [.ref (E (10 + 6))]) (rest := []) ⟨hx, hb, hml, hown, hts⟩ (c_X4_readWord l E D C a0 a1 H.size N v2 6 (by decide) r4 v5 h6) (cwV 1 hts gX4_readMark_X4_readWord rfl rfl rfl hdX4_readWord ⟨Nat.le_of_ble_eq_true rfl, Nat.le_of_ble_eq_true rfl⟩) (kpreV hP hD hK hS hE hA [0, 1] rfl rfl 0 rfl rfl rfl) rfl rfl hl.1 rfl (lv_room (Nat.le_of_ble_eq_true rfl)) dX4_readMark_18 ⟨Nat.zero_le _, Nat.zero_le _⟩) hP hD hS hA [0, 1] rfl rfl rfl (fun H locs hz7 hP hD hS => ?_)
      refine lv_if_ne (tgt := 26) hx hb dX4_readMark_21 (by decide) (fun c8 => ?_) (fun c8 => ?_)
      · replace hf := if_fe c8 hf
        refine lv_aload_n hx hb dX4_readMark_26 rfl (lv_at hl 0 rfl) ?_
        refine lv_iconst (v := 0) hx hb dX4_readMark_27 rfl ?_
        refine lv_bipush (v := 7) hx hb dX4_readMark_28 rfl ?_
        obtain ⟨r9, v10, h11, hf⟩ := ob2_e hf
        refine kci (Wx := (oTape C a0 a1 v10 (oPort C b0_0 b0_1 b0_2 b0_3 b0_4 b0_5 b0_6 w0 []))) (va_runV (As := [.int 0, .int 7]) (rest := []) ⟨hx, hb, hml, hown, hts⟩ (c_X4_readNumber l E D C a0 a1 H.size N v5 0 7 r9 v10 h11) (cwV 2 hts gX4_readMark_X4_readNumber rfl rfl rfl hdX4_readNumber ⟨Nat.le_of_ble_eq_true rfl, Nat.le_of_ble_eq_true rfl⟩) (kpreV hP hD hK hS hE hA [0, 1] rfl rfl 0 rfl rfl rfl) rfl rfl hl.1 rfl (lv_room (Nat.le_of_ble_eq_true rfl)) dX4_readMark_30 ⟨Nat.zero_le _, Nat.zero_le _⟩) hP hD hS hA [0, 1] rfl rfl rfl (fun H locs hP hD hS => ?_)
        refine lv_istore_n (lv' := [(3, .int r9), (0, .ref a0), (1, .ref b0_0), (2, .int x1)]) hx hb dX4_readMark_33 rfl hl (by decide) rfl (fun ls hl => ?_)
        refine lv_iload_n hx hb dX4_readMark_34 rfl (lv_at hl 0 rfl) ?_
        refine lv_if_ge (tgt := 40) hx hb dX4_readMark_35 (by decide) (fun c12 => ?_) (fun c12 => ?_)
        · replace hf := if_te c12 hf
          refine lv_bipush (v := 9) hx hb dX4_readMark_40 rfl ?_
          refine lv_istore (lv' := [(4, .int 9), (3, .int r9), (0, .ref a0), (1, .ref b0_0), (2, .int x1)]) hx hb dX4_readMark_42 hl (by decide) rfl (fun ls hl => ?_)
          refine lv_aload_n hx hb dX4_readMark_44 rfl (lv_at hl 2 rfl) ?_
          refine va_ldcS hx hb hown (hE.2.1 7 _ rfl) dX4_readMark_45 ?_
          obtain ⟨r13, h14, hf⟩ := ob1_e hf
          refine kcz (Wx := (oTape C a0 a1 v10 (oPort C b0_0 b0_1 b0_2 b0_3 b0_4 b0_5 b0_6 w0 []))) (va_runV (As := [.ref (E (10 + 7))]) (rest := []) ⟨hx, hb, hml, hown, hts⟩ (c_X4_isWord l E D C a0 a1 H.size N v10 7 (by decide) r13 h14) (cwV 1 hts gX4_readMark_X4_isWord rfl rfl rfl hdX4_isWord ⟨Nat.le_of_ble_eq_true rfl, Nat.le_of_ble_eq_true rfl⟩) (kpreV hP hD hK hS hE hA [0, 1] rfl rfl 0 rfl rfl rfl) rfl rfl hl.1 rfl (lv_room (Nat.le_of_ble_eq_true rfl)) dX4_readMark_47 ⟨Nat.zero_le _, Nat.zero_le _⟩) hP hD hS hA [0, 1] rfl rfl rfl (fun H locs hz15 hP hD hS => ?_)
          obtain ⟨j18, hj18, hf⟩ := lj_e hf
          have Hj18 : ∀ (i16 : Int32) (v17 : TV) (H : Heap) (locs : List Loc) (ls : Array Slot), va_P D vwCl (oTape C a0 a1 v17 (oPort C b0_0 b0_1 b0_2 b0_3 b0_4 b0_5 b0_6 w0 [])) H → va_D A (oTape C a0 a1 v17 (oPort C b0_0 b0_1 b0_2 b0_3 b0_4 b0_5 b0_6 w0 [])) → va_S A s.heap H locs → lv_has ls 5 [(4, .int i16), (3, .int r9), (0, .ref a0), (1, .ref b0_0), (2, .int x1)] → j18 i16 v17 = some (r, v', w0') → W p l e (headSpec wsX4_readMark (rmX4_readMark)).room s m (List.toArray [Value.ref a0, Value.ref b0_0, Value.int x1]) below meth c H locs 0 0 Q (F0 m 66 ls []) := by
            intro i16 v17 H locs ls hP hD hS hl hf
            rw [hj18] at hf
            refine lv_iload hx hb dX4_readMark_66 (lv_at hl 0 rfl) ?_
            refine lv_if_lt (tgt := 95) hx hb dX4_readMark_68 (by decide) (fun c19 => ?_) (fun c19 => ?_)
            · replace hf := if_te c19 hf
              refine lv_iconst (v := 0) hx hb dX4_readMark_95 rfl ?_
              cases hf
              exact krz hQ hAe hx hb hr hlocks zb_0 hP hD hK hS dX4_readMark_96
            · replace hf := if_fe c19 hf
              refine lv_aload_n hx hb dX4_readMark_71 rfl (lv_at hl 2 rfl) ?_
              refine lv_bipush (v := 59) hx hb dX4_readMark_72 rfl ?_
              obtain ⟨r20, v21, h22, hf⟩ := ob2_e hf
              refine kcz (Wx := (oTape C a0 a1 v21 (oPort C b0_0 b0_1 b0_2 b0_3 b0_4 b0_5 b0_6 w0 []))) (va_runV (As := [.int 59]) (rest := []) ⟨hx, hb, hml, hown, hts⟩ (c_X4_readSign l E D C a0 a1 H.size N v17 59 r20 v21 h22) (cwV 1 hts gX4_readMark_X4_readSign rfl rfl rfl hdX4_readSign ⟨Nat.le_of_ble_eq_true rfl, Nat.le_of_ble_eq_true rfl⟩) (kpreV hP hD hK hS hE hA [0, 1] rfl rfl 0 rfl rfl rfl) rfl rfl hl.1 rfl (lv_room (Nat.le_of_ble_eq_true rfl)) dX4_readMark_74 ⟨Nat.zero_le _, Nat.zero_le _⟩) hP hD hS hA [0, 1] rfl rfl rfl (fun H locs hz23 hP hD hS => ?_)
              refine lv_if_eq (tgt := 95) hx hb dX4_readMark_77 (by decide) (fun c24 => ?_) (fun c24 => ?_)
              · replace hf := if_te c24 hf
                refine lv_iconst (v := 0) hx hb dX4_readMark_95 rfl ?_
                cases hf
                exact krz hQ hAe hx hb hr hlocks zb_0 hP hD hK hS dX4_readMark_96
              · replace hf := if_fe c24 hf
                refine lv_aload_n hx hb dX4_readMark_80 rfl (lv_at hl 3 rfl) ?_
                refine lv_iload_n hx hb dX4_readMark_81 rfl (lv_at hl 4 rfl) ?_
                refine lv_iload hx hb dX4_readMark_82 (lv_at hl 0 rfl) ?_
                refine lv_iload_n hx hb dX4_readMark_84 rfl (lv_at hl 1 rfl) ?_
                obtain ⟨r25, v26, h27, hf⟩ := ob2_e hf
                refine kcz (Wx := (oTape C a0 a1 v21 (oPort C b0_0 b0_1 b0_2 b0_3 b0_4 b0_5 b0_6 v26 []))) (va_runV (As := [.int x1, .int i16, .int r9]) (rest := []) ⟨hx, hb, hml, hown, hts⟩ (c_X1_add l E D C b0_0 b0_1 b0_2 b0_3 b0_4 b0_5 b0_6 H.size w0 x1 i16 r9 r25 v26 h27) (cwV 3 hts gX4_readMark_X1_add rfl rfl rfl hdX1_add ⟨Nat.le_of_ble_eq_true rfl, Nat.le_of_ble_eq_true rfl⟩) (kpreV hP hD hK hS hE hA [2, 3, 4, 5, 6, 7, 8] rfl rfl 2 rfl rfl rfl) rfl rfl hl.1 rfl (lv_room (Nat.le_of_ble_eq_true rfl)) dX4_readMark_85 ⟨Nat.zero_le _, Nat.zero_le _⟩) hP hD hS hA [2, 3, 4, 5, 6, 7, 8] rfl rfl rfl (fun H locs hz28 hP hD hS => ?_)
                refine lv_if_eq (tgt := 95) hx hb dX4_readMark_88 (by decide) (fun c29 => ?_) (fun c29 => ?_)
                · replace hf := if_te c29 hf
                  refine lv_iconst (v := 0) hx hb dX4_readMark_95 rfl ?_
                  cases hf
                  exact krz hQ hAe hx hb hr hlocks zb_0 hP hD hK hS dX4_readMark_96
                · replace hf := if_fe c29 hf
                  refine lv_iconst (v := 1) hx hb dX4_readMark_91 rfl ?_
                  refine lv_goto (tgt := 96) hx hb dX4_readMark_92 (by decide) ?_
                  cases hf
                  exact krz hQ hAe hx hb hr hlocks zb_1 hP hD hK hS dX4_readMark_96
          refine lv_if_eq (tgt := 66) hx hb dX4_readMark_50 (by decide) (fun c30 => ?_) (fun c30 => ?_)
          · replace hf := if_te c30 hf
            exact Hj18 9 v10 H locs ls hP hD hS (lv_sub hl [0, 1, 2, 3, 4] rfl) hf
          · replace hf := if_fe c30 hf
            refine lv_aload_n hx hb dX4_readMark_53 rfl (lv_at hl 2 rfl) ?_
            obtain ⟨v31, h32, hf⟩ := ob1_e hf
            refine kcv (Wx := (oTape C a0 a1 v31 (oPort C b0_0 b0_1 b0_2 b0_3 b0_4 b0_5 b0_6 w0 []))) (va_runV (As := []) (rest := []) ⟨hx, hb, hml, hown, hts⟩ (c_X4_next l E D C a0 a1 H.size N v10 v31 h32) (cwV 0 hts gX4_readMark_X4_next rfl rfl rfl hdX4_next ⟨Nat.le_of_ble_eq_true rfl, Nat.le_of_ble_eq_true rfl⟩) (kpreV hP hD hK hS hE hA [0, 1] rfl rfl 0 rfl rfl rfl) rfl rfl hl.1 rfl (lv_room (Nat.le_of_ble_eq_true rfl)) dX4_readMark_54 ⟨Nat.zero_le _, Nat.zero_le _⟩) hP hD hS hA [0, 1] rfl rfl rfl (fun H locs hP hD hS => ?_)
            refine lv_aload_n hx hb dX4_readMark_57 rfl (lv_at hl 2 rfl) ?_
            refine lv_iconst (v := 0) hx hb dX4_readMark_58 rfl ?_
            refine lv_bipush (v := 99) hx hb dX4_readMark_59 rfl ?_
            obtain ⟨r33, v34, h35, hf⟩ := ob2_e hf
            refine kci (Wx := (oTape C a0 a1 v34 (oPort C b0_0 b0_1 b0_2 b0_3 b0_4 b0_5 b0_6 w0 []))) (va_runV (As := [.int 0, .int 99]) (rest := []) ⟨hx, hb, hml, hown, hts⟩ (c_X4_readNumber l E D C a0 a1 H.size N v31 0 99 r33 v34 h35) (cwV 2 hts gX4_readMark_X4_readNumber rfl rfl rfl hdX4_readNumber ⟨Nat.le_of_ble_eq_true rfl, Nat.le_of_ble_eq_true rfl⟩) (kpreV hP hD hK hS hE hA [0, 1] rfl rfl 0 rfl rfl rfl) rfl rfl hl.1 rfl (lv_room (Nat.le_of_ble_eq_true rfl)) dX4_readMark_61 ⟨Nat.zero_le _, Nat.zero_le _⟩) hP hD hS hA [0, 1] rfl rfl rfl (fun H locs hP hD hS => ?_)
            refine lv_istore (lv' := [(4, .int r33), (3, .int r9), (0, .ref a0), (1, .ref b0_0), (2, .int x1)]) hx hb dX4_readMark_64 hl (by decide) rfl (fun ls hl => ?_)
            exact Hj18 r33 v34 H locs ls hP hD hS (lv_sub hl [0, 1, 2, 3, 4] rfl) hf
        · replace hf := if_fe c12 hf
          refine lv_iconst (v := 0) hx hb dX4_readMark_38 rfl ?_
          cases hf
          exact krz hQ hAe hx hb hr hlocks zb_0 hP hD hK hS dX4_readMark_39
      · replace hf := if_te c8 hf
        refine lv_iconst (v := 0) hx hb dX4_readMark_24 rfl ?_
        cases hf
        exact krz hQ hAe hx hb hr hlocks zb_0 hP hD hK hS dX4_readMark_25
    · replace hf := if_fe c1 hf
      refine lv_iconst (v := 0) hx hb dX4_readMark_9 rfl ?_
      cases hf
      exact krz hQ hAe hx hb hr hlocks zb_0 hP hD hK hS dX4_readMark_10
  exact main _ _ hP hD hS

def rmX4_readTouch : Room := { frames := 10, cells := 0, slots := 0, locals := 444 }
theorem hdX4_readTouch : yX4_readTouch.cls = RX4 ∧ yX4_readTouch.cls ≠ "java/lang/invoke/MethodHandle" ∧ yX4_readTouch.cls ≠ "java/lang/invoke/VarHandle" ∧ (parseMethodDescriptor yX4_readTouch.desc).map (fun d => d.parameters.length) = some 1 := by decide +kernel
set_option maxHeartbeats 40000000 in
set_option maxRecDepth 100000 in
theorem c_X4_readTouch (l : Launch) (E : Nat → Nat) (D : va_G) (C : Nat → ClassId) (a0 a1 b0_0 b0_1 b0_2 b0_3 b0_4 b0_5 b0_6 : Nat) (sz : Nat) (N : Nat) (v : TV) (w0 : PV)  (r : Int32) (v' : TV) (w0' : PV) (hf : f_X4_readTouch N v w0 = some (r, v', w0')) : Met l yX4_readTouch wsX4_readTouch rmX4_readTouch (PC E D C [.ref a0, .ref b0_0] (oTape C a0 a1 v (oPort C b0_0 b0_1 b0_2 b0_3 b0_4 b0_5 b0_6 w0 [])) sz) (QZ D C (oTape C a0 a1 v (oPort C b0_0 b0_1 b0_2 b0_3 b0_4 b0_5 b0_6 w0 [])) (oTape C a0 a1 (v') (oPort C b0_0 b0_1 b0_2 b0_3 b0_4 b0_5 b0_6 (w0') [])) sz r) 0 0 (va_A (oTape C a0 a1 v (oPort C b0_0 b0_1 b0_2 b0_3 b0_4 b0_5 b0_6 w0 [])) sz) := by
  refine Met.ofW (cc := cX4_readTouch) (maxL := 5) (ret := (some .boolean)) (by decide) rfl ?_
  intro p e s m args below meth c s₁ B hml hv
  obtain ⟨rfl, hsz, hP, hK, hD0, hE⟩ := hv
  have hx := B.exec
  have hb := B.bytes
  have hr := B.returns
  have hts := atoms_spec (ws := wsX4_readTouch) B.pre
  have hown : s.vm.findClass RX4 = some m.cls := findClass_of_methodNamed B.named
  have hlocks := B.notSynchronized
  subst hsz
  have hi_RX4 : ∀ w ∈ wsX40, w ∈ wsX4_readTouch := fun _ h => List.mem_cons_of_mem _ (List.mem_append_left _ (List.mem_append_right _ h))
  have hD := hD0.self (sz := s.heap.size)
  obtain ⟨A, hAe⟩ := nm_ex (va_A (oTape C a0 a1 v (oPort C b0_0 b0_1 b0_2 b0_3 b0_4 b0_5 b0_6 w0 [])) s.heap.size)
  rw [← hAe] at hD hE ⊢
  have hA : ∀ q : Nat, s.heap.size ≤ q → A q := fun q h => by rw [hAe]; exact Or.inr h
  have hS : va_S A s.heap s.heap [] := va_S.rf
  have hl := lv_entry ([.ref a0, .ref b0_0]) (n := 5) (Nat.le_of_ble_eq_true rfl)
  rw [lg_entry_eq]
  generalize (lg_sl ([.ref a0, .ref b0_0]) ++ List.replicate (5 - (lg_sl ([.ref a0, .ref b0_0])).length) Slot.unset).toArray = ls at hl ⊢
  have hl : lv_has ls 5 [(0, .ref a0), (1, .ref b0_0)] := hl
  obtain ⟨Q, hQ⟩ := nm_ex (MQ below (QZ D C (oTape C a0 a1 v (oPort C b0_0 b0_1 b0_2 b0_3 b0_4 b0_5 b0_6 w0 [])) (oTape C a0 a1 (v') (oPort C b0_0 b0_1 b0_2 b0_3 b0_4 b0_5 b0_6 (w0') [])) s.heap.size r) (List.toArray [Value.ref a0, Value.ref b0_0]) s 0 0 A)
  show W p l e (headSpec wsX4_readTouch (rmX4_readTouch)).room s m (List.toArray [Value.ref a0, Value.ref b0_0]) below meth c s.heap [] 0 0 (MQ below (QZ D C (oTape C a0 a1 v (oPort C b0_0 b0_1 b0_2 b0_3 b0_4 b0_5 b0_6 w0 [])) (oTape C a0 a1 (v') (oPort C b0_0 b0_1 b0_2 b0_3 b0_4 b0_5 b0_6 (w0') [])) s.heap.size r) (List.toArray [Value.ref a0, Value.ref b0_0]) s 0 0 A) _
  rw [← hQ]
  unfold f_X4_readTouch at hf
  have main : ∀ (H : Heap) (locs : List Loc), va_P D vwCl (oTape C a0 a1 v (oPort C b0_0 b0_1 b0_2 b0_3 b0_4 b0_5 b0_6 w0 [])) H → va_D A (oTape C a0 a1 v (oPort C b0_0 b0_1 b0_2 b0_3 b0_4 b0_5 b0_6 w0 [])) → va_S A s.heap H locs → W p l e (headSpec wsX4_readTouch (rmX4_readTouch)).room s m (List.toArray [Value.ref a0, Value.ref b0_0]) below meth c H locs 0 0 Q (F0 m 0 ls []) := by
    intro H locs hP hD hS
    refine lv_aload_n hx hb dX4_readTouch_0 rfl (lv_at hl 0 rfl) ?_
    obtain ⟨v1, h2, hf⟩ := ob1_e hf
    refine kcv (Wx := (oTape C a0 a1 v1 (oPort C b0_0 b0_1 b0_2 b0_3 b0_4 b0_5 b0_6 w0 []))) (va_runV (As := []) (rest := []) ⟨hx, hb, hml, hown, hts⟩ (c_X4_next l E D C a0 a1 H.size N v v1 h2) (cwV 0 hts gX4_readTouch_X4_next rfl rfl rfl hdX4_next ⟨Nat.le_of_ble_eq_true rfl, Nat.le_of_ble_eq_true rfl⟩) (kpreV hP hD hK hS hE hA [0, 1] rfl rfl 0 rfl rfl rfl) rfl rfl hl.1 rfl (lv_room (Nat.le_of_ble_eq_true rfl)) dX4_readTouch_1 ⟨Nat.zero_le _, Nat.zero_le _⟩) hP hD hS hA [0, 1] rfl rfl rfl (fun H locs hP hD hS => ?_)
    refine lv_aload_n hx hb dX4_readTouch_4 rfl (lv_at hl 0 rfl) ?_
    refine lv_iconst (v := 0) hx hb dX4_readTouch_5 rfl ?_
    refine lv_iconst (v := 5) hx hb dX4_readTouch_6 rfl ?_
    obtain ⟨r3, v4, h5, hf⟩ := ob2_e hf
    refine kci (Wx := (oTape C a0 a1 v4 (oPort C b0_0 b0_1 b0_2 b0_3 b0_4 b0_5 b0_6 w0 []))) (va_runV (As := [.int 0, .int 5]) (rest := []) ⟨hx, hb, hml, hown, hts⟩ (c_X4_readNumber l E D C a0 a1 H.size N v1 0 5 r3 v4 h5) (cwV 2 hts gX4_readTouch_X4_readNumber rfl rfl rfl hdX4_readNumber ⟨Nat.le_of_ble_eq_true rfl, Nat.le_of_ble_eq_true rfl⟩) (kpreV hP hD hK hS hE hA [0, 1] rfl rfl 0 rfl rfl rfl) rfl rfl hl.1 rfl (lv_room (Nat.le_of_ble_eq_true rfl)) dX4_readTouch_7 ⟨Nat.zero_le _, Nat.zero_le _⟩) hP hD hS hA [0, 1] rfl rfl rfl (fun H locs hP hD hS => ?_)
    refine lv_istore_n (lv' := [(2, .int r3), (0, .ref a0), (1, .ref b0_0)]) hx hb dX4_readTouch_10 rfl hl (by decide) rfl (fun ls hl => ?_)
    refine lv_iload_n hx hb dX4_readTouch_11 rfl (lv_at hl 0 rfl) ?_
    refine lv_if_lt (tgt := 24) hx hb dX4_readTouch_12 (by decide) (fun c6 => ?_) (fun c6 => ?_)
    · replace hf := if_te c6 hf
      refine lv_iconst (v := 0) hx hb dX4_readTouch_24 rfl ?_
      cases hf
      exact krz hQ hAe hx hb hr hlocks zb_0 hP hD hK hS dX4_readTouch_25
    · replace hf := if_fe c6 hf
      refine lv_aload_n hx hb dX4_readTouch_15 rfl (lv_at hl 1 rfl) ?_
      refine lv_bipush (v := 58) hx hb dX4_readTouch_16 rfl ?_
      obtain ⟨r7, v8, h9, hf⟩ := ob2_e hf
      refine kcz (Wx := (oTape C a0 a1 v8 (oPort C b0_0 b0_1 b0_2 b0_3 b0_4 b0_5 b0_6 w0 []))) (va_runV (As := [.int 58]) (rest := []) ⟨hx, hb, hml, hown, hts⟩ (c_X4_readSign l E D C a0 a1 H.size N v4 58 r7 v8 h9) (cwV 1 hts gX4_readTouch_X4_readSign rfl rfl rfl hdX4_readSign ⟨Nat.le_of_ble_eq_true rfl, Nat.le_of_ble_eq_true rfl⟩) (kpreV hP hD hK hS hE hA [0, 1] rfl rfl 0 rfl rfl rfl) rfl rfl hl.1 rfl (lv_room (Nat.le_of_ble_eq_true rfl)) dX4_readTouch_18 ⟨Nat.zero_le _, Nat.zero_le _⟩) hP hD hS hA [0, 1] rfl rfl rfl (fun H locs hz10 hP hD hS => ?_)
      refine lv_if_ne (tgt := 26) hx hb dX4_readTouch_21 (by decide) (fun c11 => ?_) (fun c11 => ?_)
      · replace hf := if_fe c11 hf
        refine lv_aload_n hx hb dX4_readTouch_26 rfl (lv_at hl 1 rfl) ?_
        refine lv_iconst (v := 0) hx hb dX4_readTouch_27 rfl ?_
        refine lv_bipush (v := 7) hx hb dX4_readTouch_28 rfl ?_
        obtain ⟨r12, v13, h14, hf⟩ := ob2_e hf
        refine kci (Wx := (oTape C a0 a1 v13 (oPort C b0_0 b0_1 b0_2 b0_3 b0_4 b0_5 b0_6 w0 []))) (va_runV (As := [.int 0, .int 7]) (rest := []) ⟨hx, hb, hml, hown, hts⟩ (c_X4_readNumber l E D C a0 a1 H.size N v8 0 7 r12 v13 h14) (cwV 2 hts gX4_readTouch_X4_readNumber rfl rfl rfl hdX4_readNumber ⟨Nat.le_of_ble_eq_true rfl, Nat.le_of_ble_eq_true rfl⟩) (kpreV hP hD hK hS hE hA [0, 1] rfl rfl 0 rfl rfl rfl) rfl rfl hl.1 rfl (lv_room (Nat.le_of_ble_eq_true rfl)) dX4_readTouch_30 ⟨Nat.zero_le _, Nat.zero_le _⟩) hP hD hS hA [0, 1] rfl rfl rfl (fun H locs hP hD hS => ?_)
        refine lv_istore_n (lv' := [(3, .int r12), (2, .int r3), (0, .ref a0), (1, .ref b0_0)]) hx hb dX4_readTouch_33 rfl hl (by decide) rfl (fun ls hl => ?_)
        refine lv_iload_n hx hb dX4_readTouch_34 rfl (lv_at hl 0 rfl) ?_
        refine lv_if_lt (tgt := 63) hx hb dX4_readTouch_35 (by decide) (fun c15 => ?_) (fun c15 => ?_)
        · replace hf := if_te c15 hf
          refine lv_iconst (v := 0) hx hb dX4_readTouch_63 rfl ?_
          cases hf
          exact krz hQ hAe hx hb hr hlocks zb_0 hP hD hK hS dX4_readTouch_64
        · replace hf := if_fe c15 hf
          refine lv_aload_n hx hb dX4_readTouch_38 rfl (lv_at hl 2 rfl) ?_
          refine va_ldcS hx hb hown (hE.2.1 9 _ rfl) dX4_readTouch_39 ?_
          obtain ⟨r16, v17, h18, hf⟩ := ob2_e hf
          refine kcz (Wx := (oTape C a0 a1 v17 (oPort C b0_0 b0_1 b0_2 b0_3 b0_4 b0_5 b0_6 w0 []))) (va_runV (As := [.ref (E (10 + 9))]) (rest := []) ⟨hx, hb, hml, hown, hts⟩ (c_X4_readWord l E D C a0 a1 H.size N v13 9 (by decide) r16 v17 h18) (cwV 1 hts gX4_readTouch_X4_readWord rfl rfl rfl hdX4_readWord ⟨Nat.le_of_ble_eq_true rfl, Nat.le_of_ble_eq_true rfl⟩) (kpreV hP hD hK hS hE hA [0, 1] rfl rfl 0 rfl rfl rfl) rfl rfl hl.1 rfl (lv_room (Nat.le_of_ble_eq_true rfl)) dX4_readTouch_41 ⟨Nat.zero_le _, Nat.zero_le _⟩) hP hD hS hA [0, 1] rfl rfl rfl (fun H locs hz19 hP hD hS => ?_)
          refine lv_if_eq (tgt := 63) hx hb dX4_readTouch_44 (by decide) (fun c20 => ?_) (fun c20 => ?_)
          · replace hf := if_te c20 hf
            refine lv_iconst (v := 0) hx hb dX4_readTouch_63 rfl ?_
            cases hf
            exact krz hQ hAe hx hb hr hlocks zb_0 hP hD hK hS dX4_readTouch_64
          · replace hf := if_fe c20 hf
            refine lv_aload_n hx hb dX4_readTouch_47 rfl (lv_at hl 2 rfl) ?_
            refine va_get (D := D) (ci := 4) (v := .int (tpToken v17)) (C := RX4) (T := TX4) (N := 6) hx hb hts hi_RX4 hown hK hP 0 rfl rfl 2 (by decide) (hts (.fieldLink RX4 25 "TravelMarks$Tape" "token" "I") (List.mem_of_getElem? (i := 1) rfl)) (fun _ h9 => h9) rfl dX4_readTouch_48 ?_
            refine lv_iconst (v := 2) hx hb dX4_readTouch_51 rfl ?_
            obtain ⟨j21, hj21, hf⟩ := lj_e hf
            have Hj21 : ∀ (H : Heap) (locs : List Loc) (ls : Array Slot), va_P D vwCl (oTape C a0 a1 v17 (oPort C b0_0 b0_1 b0_2 b0_3 b0_4 b0_5 b0_6 w0 [])) H → va_D A (oTape C a0 a1 v17 (oPort C b0_0 b0_1 b0_2 b0_3 b0_4 b0_5 b0_6 w0 [])) → va_S A s.heap H locs → lv_has ls 5 [(3, .int r12), (2, .int r3), (0, .ref a0), (1, .ref b0_0)] → j21 = some (r, v', w0') → W p l e (headSpec wsX4_readTouch (rmX4_readTouch)).room s m (List.toArray [Value.ref a0, Value.ref b0_0]) below meth c H locs 0 0 Q (F0 m 65 ls []) := by
              intro H locs ls hP hD hS hl hf
              rw [hj21] at hf
              refine lv_aload_n hx hb dX4_readTouch_65 rfl (lv_at hl 2 rfl) ?_
              refine lv_iconst (v := 0) hx hb dX4_readTouch_66 rfl ?_
              refine lv_bipush (v := 7) hx hb dX4_readTouch_67 rfl ?_
              obtain ⟨r22, v23, h24, hf⟩ := ob2_e hf
              refine kci (Wx := (oTape C a0 a1 v23 (oPort C b0_0 b0_1 b0_2 b0_3 b0_4 b0_5 b0_6 w0 []))) (va_runV (As := [.int 0, .int 7]) (rest := []) ⟨hx, hb, hml, hown, hts⟩ (c_X4_readNumber l E D C a0 a1 H.size N v17 0 7 r22 v23 h24) (cwV 2 hts gX4_readTouch_X4_readNumber rfl rfl rfl hdX4_readNumber ⟨Nat.le_of_ble_eq_true rfl, Nat.le_of_ble_eq_true rfl⟩) (kpreV hP hD hK hS hE hA [0, 1] rfl rfl 0 rfl rfl rfl) rfl rfl hl.1 rfl (lv_room (Nat.le_of_ble_eq_true rfl)) dX4_readTouch_69 ⟨Nat.zero_le _, Nat.zero_le _⟩) hP hD hS hA [0, 1] rfl rfl rfl (fun H locs hP hD hS => ?_)
              refine lv_istore (lv' := [(4, .int r22), (3, .int r12), (2, .int r3), (0, .ref a0), (1, .ref b0_0)]) hx hb dX4_readTouch_72 hl (by decide) rfl (fun ls hl => ?_)
              refine lv_iload hx hb dX4_readTouch_74 (lv_at hl 0 rfl) ?_
              refine lv_if_lt (tgt := 88) hx hb dX4_readTouch_76 (by decide) (fun c25 => ?_) (fun c25 => ?_)
              · replace hf := if_te c25 hf
                refine lv_iconst (v := 0) hx hb dX4_readTouch_88 rfl ?_
                cases hf
                exact krz hQ hAe hx hb hr hlocks zb_0 hP hD hK hS dX4_readTouch_89
              · replace hf := if_fe c25 hf
                refine lv_aload_n hx hb dX4_readTouch_79 rfl (lv_at hl 3 rfl) ?_
                refine lv_bipush (v := 59) hx hb dX4_readTouch_80 rfl ?_
                obtain ⟨r26, v27, h28, hf⟩ := ob2_e hf
                refine kcz (Wx := (oTape C a0 a1 v27 (oPort C b0_0 b0_1 b0_2 b0_3 b0_4 b0_5 b0_6 w0 []))) (va_runV (As := [.int 59]) (rest := []) ⟨hx, hb, hml, hown, hts⟩ (c_X4_readSign l E D C a0 a1 H.size N v23 59 r26 v27 h28) (cwV 1 hts gX4_readTouch_X4_readSign rfl rfl rfl hdX4_readSign ⟨Nat.le_of_ble_eq_true rfl, Nat.le_of_ble_eq_true rfl⟩) (kpreV hP hD hK hS hE hA [0, 1] rfl rfl 0 rfl rfl rfl) rfl rfl hl.1 rfl (lv_room (Nat.le_of_ble_eq_true rfl)) dX4_readTouch_82 ⟨Nat.zero_le _, Nat.zero_le _⟩) hP hD hS hA [0, 1] rfl rfl rfl (fun H locs hz29 hP hD hS => ?_)
                refine lv_if_ne (tgt := 90) hx hb dX4_readTouch_85 (by decide) (fun c30 => ?_) (fun c30 => ?_)
                · replace hf := if_fe c30 hf
                  refine lv_aload_n hx hb dX4_readTouch_90 rfl (lv_at hl 4 rfl) ?_
                  refine lv_iload_n hx hb dX4_readTouch_91 rfl (lv_at hl 2 rfl) ?_
                  refine lv_iload_n hx hb dX4_readTouch_92 rfl (lv_at hl 1 rfl) ?_
                  refine lv_iload hx hb dX4_readTouch_93 (lv_at hl 0 rfl) ?_
                  obtain ⟨v31, h32, hf⟩ := ob1_e hf
                  refine kcv (Wx := (oTape C a0 a1 v27 (oPort C b0_0 b0_1 b0_2 b0_3 b0_4 b0_5 b0_6 v31 []))) (va_runV (As := [.int r3, .int r12, .int r22]) (rest := []) ⟨hx, hb, hml, hown, hts⟩ (c_X1_join l E D C b0_0 b0_1 b0_2 b0_3 b0_4 b0_5 b0_6 H.size w0 r3 r12 r22 v31 h32) (cwV 3 hts gX4_readTouch_X1_join rfl rfl rfl hdX1_join ⟨Nat.le_of_ble_eq_true rfl, Nat.le_of_ble_eq_true rfl⟩) (kpreV hP hD hK hS hE hA [2, 3, 4, 5, 6, 7, 8] rfl rfl 2 rfl rfl rfl) rfl rfl hl.1 rfl (lv_room (Nat.le_of_ble_eq_true rfl)) dX4_readTouch_95 ⟨Nat.zero_le _, Nat.zero_le _⟩) hP hD hS hA [2, 3, 4, 5, 6, 7, 8] rfl rfl rfl (fun H locs hP hD hS => ?_)
                  refine lv_iconst (v := 1) hx hb dX4_readTouch_98 rfl ?_
                  cases hf
                  exact krz hQ hAe hx hb hr hlocks zb_1 hP hD hK hS dX4_readTouch_99
                · replace hf := if_te c30 hf
                  refine lv_iconst (v := 0) hx hb dX4_readTouch_88 rfl ?_
                  cases hf
                  exact krz hQ hAe hx hb hr hlocks zb_0 hP hD hK hS dX4_readTouch_89
            refine lv_icmp_ne (tgt := 65) hx hb dX4_readTouch_52 (by decide) (fun c33 => ?_) (fun c33 => ?_)
            · replace hf := if_fe c33 hf
              exact Hj21 H locs ls hP hD hS (lv_sub hl [0, 1, 2, 3] rfl) hf
            · replace hf := if_te c33 hf
              refine lv_aload_n hx hb dX4_readTouch_55 rfl (lv_at hl 2 rfl) ?_
              refine va_get (D := D) (ci := 4) (v := .int (tpValue v17)) (C := RX4) (T := TX4) (N := 6) hx hb hts hi_RX4 hown hK hP 0 rfl rfl 5 (by decide) (hts (.fieldLink RX4 46 "TravelMarks$Tape" "value" "I") (List.mem_of_getElem? (i := 2) rfl)) (fun _ h9 => h9) rfl dX4_readTouch_56 ?_
              refine lv_iload_n hx hb dX4_readTouch_59 rfl (lv_at hl 0 rfl) ?_
              refine lv_icmp_ne (tgt := 65) hx hb dX4_readTouch_60 (by decide) (fun c34 => ?_) (fun c34 => ?_)
              · replace hf := if_fe c34 hf
                exact Hj21 H locs ls hP hD hS (lv_sub hl [0, 1, 2, 3] rfl) hf
              · replace hf := if_te c34 hf
                refine lv_iconst (v := 0) hx hb dX4_readTouch_63 rfl ?_
                cases hf
                exact krz hQ hAe hx hb hr hlocks zb_0 hP hD hK hS dX4_readTouch_64
      · replace hf := if_te c11 hf
        refine lv_iconst (v := 0) hx hb dX4_readTouch_24 rfl ?_
        cases hf
        exact krz hQ hAe hx hb hr hlocks zb_0 hP hD hK hS dX4_readTouch_25
  exact main _ _ hP hD hS

def rmX4_lawNamed : Room := { frames := 9, cells := 0, slots := 0, locals := 422 }
theorem hdX4_lawNamed : yX4_lawNamed.cls = RX4 ∧ yX4_lawNamed.cls ≠ "java/lang/invoke/MethodHandle" ∧ yX4_lawNamed.cls ≠ "java/lang/invoke/VarHandle" ∧ (parseMethodDescriptor yX4_lawNamed.desc).map (fun d => d.parameters.length) = some 0 := by decide +kernel
set_option maxHeartbeats 40000000 in
set_option maxRecDepth 100000 in
theorem c_X4_lawNamed (l : Launch) (E : Nat → Nat) (D : va_G) (C : Nat → ClassId) (a0 a1 : Nat) (sz : Nat) (N : Nat) (v : TV)  (r : Int32) (hf : f_X4_lawNamed N v = some r) : Met l yX4_lawNamed wsX4_lawNamed rmX4_lawNamed (PC E D C [.ref a0] (oTape C a0 a1 v []) sz) (QI D C (oTape C a0 a1 v []) (oTape C a0 a1 v []) sz r) 0 0 (va_A (oTape C a0 a1 v []) sz) := by
  refine Met.ofW (cc := cX4_lawNamed) (maxL := 1) (ret := (some .int)) (by decide) rfl ?_
  intro p e s m args below meth c s₁ B hml hv
  obtain ⟨rfl, hsz, hP, hK, hD0, hE⟩ := hv
  have hx := B.exec
  have hb := B.bytes
  have hr := B.returns
  have hts := atoms_spec (ws := wsX4_lawNamed) B.pre
  have hown : s.vm.findClass RX4 = some m.cls := findClass_of_methodNamed B.named
  have hlocks := B.notSynchronized
  subst hsz
  have hD := hD0.self (sz := s.heap.size)
  obtain ⟨A, hAe⟩ := nm_ex (va_A (oTape C a0 a1 v []) s.heap.size)
  rw [← hAe] at hD hE ⊢
  have hA : ∀ q : Nat, s.heap.size ≤ q → A q := fun q h => by rw [hAe]; exact Or.inr h
  have hS : va_S A s.heap s.heap [] := va_S.rf
  have hl := lv_entry ([.ref a0]) (n := 1) (Nat.le_of_ble_eq_true rfl)
  rw [lg_entry_eq]
  generalize (lg_sl ([.ref a0]) ++ List.replicate (1 - (lg_sl ([.ref a0])).length) Slot.unset).toArray = ls at hl ⊢
  have hl : lv_has ls 1 [(0, .ref a0)] := hl
  obtain ⟨Q, hQ⟩ := nm_ex (MQ below (QI D C (oTape C a0 a1 v []) (oTape C a0 a1 v []) s.heap.size r) (List.toArray [Value.ref a0]) s 0 0 A)
  show W p l e (headSpec wsX4_lawNamed (rmX4_lawNamed)).room s m (List.toArray [Value.ref a0]) below meth c s.heap [] 0 0 (MQ below (QI D C (oTape C a0 a1 v []) (oTape C a0 a1 v []) s.heap.size r) (List.toArray [Value.ref a0]) s 0 0 A) _
  rw [← hQ]
  unfold f_X4_lawNamed at hf
  have main : ∀ (H : Heap) (locs : List Loc), va_P D vwCl (oTape C a0 a1 v []) H → va_D A (oTape C a0 a1 v []) → va_S A s.heap H locs → W p l e (headSpec wsX4_lawNamed (rmX4_lawNamed)).room s m (List.toArray [Value.ref a0]) below meth c H locs 0 0 Q (F0 m 0 ls []) := by
    intro H locs hP hD hS
    refine lv_aload_n hx hb dX4_lawNamed_0 rfl (lv_at hl 0 rfl) ?_
    refine va_ldcS hx hb hown (hE.2.1 10 _ rfl) dX4_lawNamed_1 ?_
    obtain ⟨r1, h2, hf⟩ := ob1_e hf
    refine kcz (Wx := (oTape C a0 a1 v [])) (va_runV (As := [.ref (E (10 + 10))]) (rest := []) ⟨hx, hb, hml, hown, hts⟩ (c_X4_isWord l E D C a0 a1 H.size N v 10 (by decide) r1 h2) (cwV 1 hts gX4_lawNamed_X4_isWord rfl rfl rfl hdX4_isWord ⟨Nat.le_of_ble_eq_true rfl, Nat.le_of_ble_eq_true rfl⟩) (kpreV hP hD hK hS hE hA [0, 1] rfl rfl 0 rfl rfl rfl) rfl rfl hl.1 rfl (lv_room (Nat.le_of_ble_eq_true rfl)) dX4_lawNamed_3 ⟨Nat.zero_le _, Nat.zero_le _⟩) hP hD hS hA [0, 1] rfl rfl rfl (fun H locs hz3 hP hD hS => ?_)
    refine lv_if_eq (tgt := 11) hx hb dX4_lawNamed_6 (by decide) (fun c4 => ?_) (fun c4 => ?_)
    · replace hf := if_te c4 hf
      refine lv_aload_n hx hb dX4_lawNamed_11 rfl (lv_at hl 0 rfl) ?_
      refine va_ldcS hx hb hown (hE.2.1 11 _ rfl) dX4_lawNamed_12 ?_
      obtain ⟨r5, h6, hf⟩ := ob1_e hf
      refine kcz (Wx := (oTape C a0 a1 v [])) (va_runV (As := [.ref (E (10 + 11))]) (rest := []) ⟨hx, hb, hml, hown, hts⟩ (c_X4_isWord l E D C a0 a1 H.size N v 11 (by decide) r5 h6) (cwV 1 hts gX4_lawNamed_X4_isWord rfl rfl rfl hdX4_isWord ⟨Nat.le_of_ble_eq_true rfl, Nat.le_of_ble_eq_true rfl⟩) (kpreV hP hD hK hS hE hA [0, 1] rfl rfl 0 rfl rfl rfl) rfl rfl hl.1 rfl (lv_room (Nat.le_of_ble_eq_true rfl)) dX4_lawNamed_14 ⟨Nat.zero_le _, Nat.zero_le _⟩) hP hD hS hA [0, 1] rfl rfl rfl (fun H locs hz7 hP hD hS => ?_)
      refine lv_if_eq (tgt := 22) hx hb dX4_lawNamed_17 (by decide) (fun c8 => ?_) (fun c8 => ?_)
      · replace hf := if_te c8 hf
        refine lv_aload_n hx hb dX4_lawNamed_22 rfl (lv_at hl 0 rfl) ?_
        refine va_ldcS hx hb hown (hE.2.1 12 _ rfl) dX4_lawNamed_23 ?_
        obtain ⟨r9, h10, hf⟩ := ob1_e hf
        refine kcz (Wx := (oTape C a0 a1 v [])) (va_runV (As := [.ref (E (10 + 12))]) (rest := []) ⟨hx, hb, hml, hown, hts⟩ (c_X4_isWord l E D C a0 a1 H.size N v 12 (by decide) r9 h10) (cwV 1 hts gX4_lawNamed_X4_isWord rfl rfl rfl hdX4_isWord ⟨Nat.le_of_ble_eq_true rfl, Nat.le_of_ble_eq_true rfl⟩) (kpreV hP hD hK hS hE hA [0, 1] rfl rfl 0 rfl rfl rfl) rfl rfl hl.1 rfl (lv_room (Nat.le_of_ble_eq_true rfl)) dX4_lawNamed_25 ⟨Nat.zero_le _, Nat.zero_le _⟩) hP hD hS hA [0, 1] rfl rfl rfl (fun H locs hz11 hP hD hS => ?_)
        refine lv_if_eq (tgt := 33) hx hb dX4_lawNamed_28 (by decide) (fun c12 => ?_) (fun c12 => ?_)
        · replace hf := if_te c12 hf
          refine lv_aload_n hx hb dX4_lawNamed_33 rfl (lv_at hl 0 rfl) ?_
          refine va_ldcS hx hb hown (hE.2.1 13 _ rfl) dX4_lawNamed_34 ?_
          obtain ⟨r13, h14, hf⟩ := ob1_e hf
          refine kcz (Wx := (oTape C a0 a1 v [])) (va_runV (As := [.ref (E (10 + 13))]) (rest := []) ⟨hx, hb, hml, hown, hts⟩ (c_X4_isWord l E D C a0 a1 H.size N v 13 (by decide) r13 h14) (cwV 1 hts gX4_lawNamed_X4_isWord rfl rfl rfl hdX4_isWord ⟨Nat.le_of_ble_eq_true rfl, Nat.le_of_ble_eq_true rfl⟩) (kpreV hP hD hK hS hE hA [0, 1] rfl rfl 0 rfl rfl rfl) rfl rfl hl.1 rfl (lv_room (Nat.le_of_ble_eq_true rfl)) dX4_lawNamed_36 ⟨Nat.zero_le _, Nat.zero_le _⟩) hP hD hS hA [0, 1] rfl rfl rfl (fun H locs hz15 hP hD hS => ?_)
          refine lv_if_eq (tgt := 46) hx hb dX4_lawNamed_39 (by decide) (fun c16 => ?_) (fun c16 => ?_)
          · replace hf := if_te c16 hf
            refine lv_iconst (v := (-1)) hx hb dX4_lawNamed_46 rfl ?_
            cases hf
            exact kri hQ hAe hx hb hr hlocks hP hD hK hS dX4_lawNamed_47
          · replace hf := if_fe c16 hf
            refine lv_iconst (v := 3) hx hb dX4_lawNamed_42 rfl ?_
            refine lv_goto (tgt := 47) hx hb dX4_lawNamed_43 (by decide) ?_
            cases hf
            exact kri hQ hAe hx hb hr hlocks hP hD hK hS dX4_lawNamed_47
        · replace hf := if_fe c12 hf
          refine lv_iconst (v := 2) hx hb dX4_lawNamed_31 rfl ?_
          cases hf
          exact kri hQ hAe hx hb hr hlocks hP hD hK hS dX4_lawNamed_32
      · replace hf := if_fe c8 hf
        refine lv_iconst (v := 1) hx hb dX4_lawNamed_20 rfl ?_
        cases hf
        exact kri hQ hAe hx hb hr hlocks hP hD hK hS dX4_lawNamed_21
    · replace hf := if_fe c4 hf
      refine lv_iconst (v := 0) hx hb dX4_lawNamed_9 rfl ?_
      cases hf
      exact kri hQ hAe hx hb hr hlocks hP hD hK hS dX4_lawNamed_10
  exact main _ _ hP hD hS

def rmX4_readOrder : Room := { frames := 11, cells := 0, slots := 0, locals := 468 }
theorem hdX4_readOrder : yX4_readOrder.cls = RX4 ∧ yX4_readOrder.cls ≠ "java/lang/invoke/MethodHandle" ∧ yX4_readOrder.cls ≠ "java/lang/invoke/VarHandle" ∧ (parseMethodDescriptor yX4_readOrder.desc).map (fun d => d.parameters.length) = some 1 := by decide +kernel
set_option maxHeartbeats 40000000 in
set_option maxRecDepth 100000 in
theorem c_X4_readOrder (l : Launch) (E : Nat → Nat) (D : va_G) (C : Nat → ClassId) (a0 a1 b0_0 b0_1 b0_2 b0_3 b0_4 b0_5 b0_6 : Nat) (sz : Nat) (N : Nat) (v : TV) (w0 : PV)  (r : Int32) (v' : TV) (w0' : PV) (hf : f_X4_readOrder N v w0 = some (r, v', w0')) : Met l yX4_readOrder wsX4_readOrder rmX4_readOrder (PC E D C [.ref a0, .ref b0_0] (oTape C a0 a1 v (oPort C b0_0 b0_1 b0_2 b0_3 b0_4 b0_5 b0_6 w0 [])) sz) (QZ D C (oTape C a0 a1 v (oPort C b0_0 b0_1 b0_2 b0_3 b0_4 b0_5 b0_6 w0 [])) (oTape C a0 a1 (v') (oPort C b0_0 b0_1 b0_2 b0_3 b0_4 b0_5 b0_6 (w0') [])) sz r) 0 0 (va_A (oTape C a0 a1 v (oPort C b0_0 b0_1 b0_2 b0_3 b0_4 b0_5 b0_6 w0 [])) sz) := by
  refine Met.ofW (cc := cX4_readOrder) (maxL := 4) (ret := (some .boolean)) (by decide) rfl ?_
  intro p e s m args below meth c s₁ B hml hv
  obtain ⟨rfl, hsz, hP, hK, hD0, hE⟩ := hv
  have hx := B.exec
  have hb := B.bytes
  have hr := B.returns
  have hts := atoms_spec (ws := wsX4_readOrder) B.pre
  have hown : s.vm.findClass RX4 = some m.cls := findClass_of_methodNamed B.named
  have hlocks := B.notSynchronized
  subst hsz
  have hD := hD0.self (sz := s.heap.size)
  obtain ⟨A, hAe⟩ := nm_ex (va_A (oTape C a0 a1 v (oPort C b0_0 b0_1 b0_2 b0_3 b0_4 b0_5 b0_6 w0 [])) s.heap.size)
  rw [← hAe] at hD hE ⊢
  have hA : ∀ q : Nat, s.heap.size ≤ q → A q := fun q h => by rw [hAe]; exact Or.inr h
  have hS : va_S A s.heap s.heap [] := va_S.rf
  have hl := lv_entry ([.ref a0, .ref b0_0]) (n := 4) (Nat.le_of_ble_eq_true rfl)
  rw [lg_entry_eq]
  generalize (lg_sl ([.ref a0, .ref b0_0]) ++ List.replicate (4 - (lg_sl ([.ref a0, .ref b0_0])).length) Slot.unset).toArray = ls at hl ⊢
  have hl : lv_has ls 4 [(0, .ref a0), (1, .ref b0_0)] := hl
  obtain ⟨Q, hQ⟩ := nm_ex (MQ below (QZ D C (oTape C a0 a1 v (oPort C b0_0 b0_1 b0_2 b0_3 b0_4 b0_5 b0_6 w0 [])) (oTape C a0 a1 (v') (oPort C b0_0 b0_1 b0_2 b0_3 b0_4 b0_5 b0_6 (w0') [])) s.heap.size r) (List.toArray [Value.ref a0, Value.ref b0_0]) s 0 0 A)
  show W p l e (headSpec wsX4_readOrder (rmX4_readOrder)).room s m (List.toArray [Value.ref a0, Value.ref b0_0]) below meth c s.heap [] 0 0 (MQ below (QZ D C (oTape C a0 a1 v (oPort C b0_0 b0_1 b0_2 b0_3 b0_4 b0_5 b0_6 w0 [])) (oTape C a0 a1 (v') (oPort C b0_0 b0_1 b0_2 b0_3 b0_4 b0_5 b0_6 (w0') [])) s.heap.size r) (List.toArray [Value.ref a0, Value.ref b0_0]) s 0 0 A) _
  rw [← hQ]
  unfold f_X4_readOrder at hf
  have main : ∀ (H : Heap) (locs : List Loc), va_P D vwCl (oTape C a0 a1 v (oPort C b0_0 b0_1 b0_2 b0_3 b0_4 b0_5 b0_6 w0 [])) H → va_D A (oTape C a0 a1 v (oPort C b0_0 b0_1 b0_2 b0_3 b0_4 b0_5 b0_6 w0 [])) → va_S A s.heap H locs → W p l e (headSpec wsX4_readOrder (rmX4_readOrder)).room s m (List.toArray [Value.ref a0, Value.ref b0_0]) below meth c H locs 0 0 Q (F0 m 0 ls []) := by
    intro H locs hP hD hS
    refine lv_aload_n hx hb dX4_readOrder_0 rfl (lv_at hl 0 rfl) ?_
    obtain ⟨r1, h2, hf⟩ := ob1_e hf
    refine kci (Wx := (oTape C a0 a1 v (oPort C b0_0 b0_1 b0_2 b0_3 b0_4 b0_5 b0_6 w0 []))) (va_runV (As := []) (rest := []) ⟨hx, hb, hml, hown, hts⟩ (c_X4_kindNamed l E D C a0 a1 H.size N v r1 h2) (cwV 0 hts gX4_readOrder_X4_kindNamed rfl rfl rfl hdX4_kindNamed ⟨Nat.le_of_ble_eq_true rfl, Nat.le_of_ble_eq_true rfl⟩) (kpreV hP hD hK hS hE hA [0, 1] rfl rfl 0 rfl rfl rfl) rfl rfl hl.1 rfl (lv_room (Nat.le_of_ble_eq_true rfl)) dX4_readOrder_1 ⟨Nat.zero_le _, Nat.zero_le _⟩) hP hD hS hA [0, 1] rfl rfl rfl (fun H locs hP hD hS => ?_)
    refine lv_istore_n (lv' := [(2, .int r1), (0, .ref a0), (1, .ref b0_0)]) hx hb dX4_readOrder_4 rfl hl (by decide) rfl (fun ls hl => ?_)
    refine lv_iload_n hx hb dX4_readOrder_5 rfl (lv_at hl 0 rfl) ?_
    refine lv_iconst (v := (-1)) hx hb dX4_readOrder_6 rfl ?_
    refine lv_icmp_eq (tgt := 17) hx hb dX4_readOrder_7 (by decide) (fun c3 => ?_) (fun c3 => ?_)
    · replace hf := if_te c3 hf
      refine lv_aload_n hx hb dX4_readOrder_17 rfl (lv_at hl 1 rfl) ?_
      refine va_ldcS hx hb hown (hE.2.1 8 _ rfl) dX4_readOrder_18 ?_
      obtain ⟨r4, h5, hf⟩ := ob1_e hf
      refine kcz (Wx := (oTape C a0 a1 v (oPort C b0_0 b0_1 b0_2 b0_3 b0_4 b0_5 b0_6 w0 []))) (va_runV (As := [.ref (E (10 + 8))]) (rest := []) ⟨hx, hb, hml, hown, hts⟩ (c_X4_isWord l E D C a0 a1 H.size N v 8 (by decide) r4 h5) (cwV 1 hts gX4_readOrder_X4_isWord rfl rfl rfl hdX4_isWord ⟨Nat.le_of_ble_eq_true rfl, Nat.le_of_ble_eq_true rfl⟩) (kpreV hP hD hK hS hE hA [0, 1] rfl rfl 0 rfl rfl rfl) rfl rfl hl.1 rfl (lv_room (Nat.le_of_ble_eq_true rfl)) dX4_readOrder_20 ⟨Nat.zero_le _, Nat.zero_le _⟩) hP hD hS hA [0, 1] rfl rfl rfl (fun H locs hz6 hP hD hS => ?_)
      refine lv_if_eq (tgt := 32) hx hb dX4_readOrder_23 (by decide) (fun c7 => ?_) (fun c7 => ?_)
      · replace hf := if_te c7 hf
        refine lv_aload_n hx hb dX4_readOrder_32 rfl (lv_at hl 1 rfl) ?_
        obtain ⟨r8, h9, hf⟩ := ob1_e hf
        refine kci (Wx := (oTape C a0 a1 v (oPort C b0_0 b0_1 b0_2 b0_3 b0_4 b0_5 b0_6 w0 []))) (va_runV (As := []) (rest := []) ⟨hx, hb, hml, hown, hts⟩ (c_X4_lawNamed l E D C a0 a1 H.size N v r8 h9) (cwV 0 hts gX4_readOrder_X4_lawNamed rfl rfl rfl hdX4_lawNamed ⟨Nat.le_of_ble_eq_true rfl, Nat.le_of_ble_eq_true rfl⟩) (kpreV hP hD hK hS hE hA [0, 1] rfl rfl 0 rfl rfl rfl) rfl rfl hl.1 rfl (lv_room (Nat.le_of_ble_eq_true rfl)) dX4_readOrder_33 ⟨Nat.zero_le _, Nat.zero_le _⟩) hP hD hS hA [0, 1] rfl rfl rfl (fun H locs hP hD hS => ?_)
        refine lv_istore_n (lv' := [(3, .int r8), (2, .int r1), (0, .ref a0), (1, .ref b0_0)]) hx hb dX4_readOrder_36 rfl hl (by decide) rfl (fun ls hl => ?_)
        refine lv_iload_n hx hb dX4_readOrder_37 rfl (lv_at hl 0 rfl) ?_
        refine lv_if_lt (tgt := 54) hx hb dX4_readOrder_38 (by decide) (fun c10 => ?_) (fun c10 => ?_)
        · replace hf := if_te c10 hf
          refine lv_iconst (v := 0) hx hb dX4_readOrder_54 rfl ?_
          cases hf
          exact krz hQ hAe hx hb hr hlocks zb_0 hP hD hK hS dX4_readOrder_55
        · replace hf := if_fe c10 hf
          refine lv_aload_n hx hb dX4_readOrder_41 rfl (lv_at hl 2 rfl) ?_
          refine lv_aload_n hx hb dX4_readOrder_42 rfl (lv_at hl 3 rfl) ?_
          refine lv_iload_n hx hb dX4_readOrder_43 rfl (lv_at hl 0 rfl) ?_
          obtain ⟨r11, v12, v13, h14, hf⟩ := ob3_e hf
          refine kcz (Wx := (oTape C a0 a1 v12 (oPort C b0_0 b0_1 b0_2 b0_3 b0_4 b0_5 b0_6 v13 []))) (va_runV (As := [.ref b0_0, .int r8]) (rest := []) ⟨hx, hb, hml, hown, hts⟩ (c_X4_readLaw l E D C a0 a1 b0_0 b0_1 b0_2 b0_3 b0_4 b0_5 b0_6 H.size N v w0 r8 r11 v12 v13 h14) (cwV 2 hts gX4_readOrder_X4_readLaw rfl rfl rfl hdX4_readLaw ⟨Nat.le_of_ble_eq_true rfl, Nat.le_of_ble_eq_true rfl⟩) (kpreV hP hD hK hS hE hA [0, 1, 2, 3, 4, 5, 6, 7, 8] rfl rfl 0 rfl rfl rfl) rfl rfl hl.1 rfl (lv_room (Nat.le_of_ble_eq_true rfl)) dX4_readOrder_44 ⟨Nat.zero_le _, Nat.zero_le _⟩) hP hD hS hA [0, 1, 2, 3, 4, 5, 6, 7, 8] rfl rfl rfl (fun H locs hz15 hP hD hS => ?_)
          refine lv_if_eq (tgt := 54) hx hb dX4_readOrder_47 (by decide) (fun c16 => ?_) (fun c16 => ?_)
          · replace hf := if_te c16 hf
            refine lv_iconst (v := 0) hx hb dX4_readOrder_54 rfl ?_
            cases hf
            exact krz hQ hAe hx hb hr hlocks zb_0 hP hD hK hS dX4_readOrder_55
          · replace hf := if_fe c16 hf
            refine lv_iconst (v := 1) hx hb dX4_readOrder_50 rfl ?_
            refine lv_goto (tgt := 55) hx hb dX4_readOrder_51 (by decide) ?_
            cases hf
            exact krz hQ hAe hx hb hr hlocks zb_1 hP hD hK hS dX4_readOrder_55
      · replace hf := if_fe c7 hf
        refine lv_aload_n hx hb dX4_readOrder_26 rfl (lv_at hl 1 rfl) ?_
        refine lv_aload_n hx hb dX4_readOrder_27 rfl (lv_at hl 2 rfl) ?_
        obtain ⟨r17, v18, v19, h20, hf⟩ := ob3_e hf
        refine kcz (Wx := (oTape C a0 a1 v18 (oPort C b0_0 b0_1 b0_2 b0_3 b0_4 b0_5 b0_6 v19 []))) (va_runV (As := [.ref b0_0]) (rest := []) ⟨hx, hb, hml, hown, hts⟩ (c_X4_readTouch l E D C a0 a1 b0_0 b0_1 b0_2 b0_3 b0_4 b0_5 b0_6 H.size N v w0 r17 v18 v19 h20) (cwV 1 hts gX4_readOrder_X4_readTouch rfl rfl rfl hdX4_readTouch ⟨Nat.le_of_ble_eq_true rfl, Nat.le_of_ble_eq_true rfl⟩) (kpreV hP hD hK hS hE hA [0, 1, 2, 3, 4, 5, 6, 7, 8] rfl rfl 0 rfl rfl rfl) rfl rfl hl.1 rfl (lv_room (Nat.le_of_ble_eq_true rfl)) dX4_readOrder_28 ⟨Nat.zero_le _, Nat.zero_le _⟩) hP hD hS hA [0, 1, 2, 3, 4, 5, 6, 7, 8] rfl rfl rfl (fun H locs hz21 hP hD hS => ?_)
        cases hf
        exact krz hQ hAe hx hb hr hlocks hz21 hP hD hK hS dX4_readOrder_31
    · replace hf := if_fe c3 hf
      refine lv_aload_n hx hb dX4_readOrder_10 rfl (lv_at hl 1 rfl) ?_
      refine lv_aload_n hx hb dX4_readOrder_11 rfl (lv_at hl 2 rfl) ?_
      refine lv_iload_n hx hb dX4_readOrder_12 rfl (lv_at hl 0 rfl) ?_
      obtain ⟨r22, v23, v24, h25, hf⟩ := ob3_e hf
      refine kcz (Wx := (oTape C a0 a1 v23 (oPort C b0_0 b0_1 b0_2 b0_3 b0_4 b0_5 b0_6 v24 []))) (va_runV (As := [.ref b0_0, .int r1]) (rest := []) ⟨hx, hb, hml, hown, hts⟩ (c_X4_readMark l E D C a0 a1 b0_0 b0_1 b0_2 b0_3 b0_4 b0_5 b0_6 H.size N v w0 r1 r22 v23 v24 h25) (cwV 2 hts gX4_readOrder_X4_readMark rfl rfl rfl hdX4_readMark ⟨Nat.le_of_ble_eq_true rfl, Nat.le_of_ble_eq_true rfl⟩) (kpreV hP hD hK hS hE hA [0, 1, 2, 3, 4, 5, 6, 7, 8] rfl rfl 0 rfl rfl rfl) rfl rfl hl.1 rfl (lv_room (Nat.le_of_ble_eq_true rfl)) dX4_readOrder_13 ⟨Nat.zero_le _, Nat.zero_le _⟩) hP hD hS hA [0, 1, 2, 3, 4, 5, 6, 7, 8] rfl rfl rfl (fun H locs hz26 hP hD hS => ?_)
      cases hf
      exact krz hQ hAe hx hb hr hlocks hz26 hP hD hK hS dX4_readOrder_16
  exact main _ _ hP hD hS

def rmX4_readInto : Room := { frames := 12, cells := 0, slots := 0, locals := 491 }
theorem hdX4_readInto : yX4_readInto.cls = RX4 ∧ yX4_readInto.cls ≠ "java/lang/invoke/MethodHandle" ∧ yX4_readInto.cls ≠ "java/lang/invoke/VarHandle" ∧ (parseMethodDescriptor yX4_readInto.desc).map (fun d => d.parameters.length) = some 1 := by decide +kernel
set_option maxHeartbeats 40000000 in
set_option maxRecDepth 100000 in
theorem c_X4_readInto (l : Launch) (E : Nat → Nat) (D : va_G) (C : Nat → ClassId) (a0 a1 b0_0 b0_1 b0_2 b0_3 b0_4 b0_5 b0_6 : Nat) (sz : Nat) (N : Nat) (v : TV) (w0 : PV)  (r : Int32) (v' : TV) (w0' : PV) (hf : f_X4_readInto N v w0 = some (r, v', w0')) : Met l yX4_readInto wsX4_readInto rmX4_readInto (PC E D C [.ref a0, .ref b0_0] (oTape C a0 a1 v (oPort C b0_0 b0_1 b0_2 b0_3 b0_4 b0_5 b0_6 w0 [])) sz) (QI D C (oTape C a0 a1 v (oPort C b0_0 b0_1 b0_2 b0_3 b0_4 b0_5 b0_6 w0 [])) (oTape C a0 a1 (v') (oPort C b0_0 b0_1 b0_2 b0_3 b0_4 b0_5 b0_6 (w0') [])) sz r) 0 0 (va_A (oTape C a0 a1 v (oPort C b0_0 b0_1 b0_2 b0_3 b0_4 b0_5 b0_6 w0 [])) sz) := by
  refine Met.ofW (cc := cX4_readInto) (maxL := 3) (ret := (some .int)) (by decide) rfl ?_
  intro p e s m args below meth c s₁ B hml hv
  obtain ⟨rfl, hsz, hP, hK, hD0, hE⟩ := hv
  have hx := B.exec
  have hb := B.bytes
  have hr := B.returns
  have hts := atoms_spec (ws := wsX4_readInto) B.pre
  have hown : s.vm.findClass RX4 = some m.cls := findClass_of_methodNamed B.named
  have hlocks := B.notSynchronized
  subst hsz
  have hi_RX4 : ∀ w ∈ wsX40, w ∈ wsX4_readInto := fun _ h => List.mem_cons_of_mem _ (List.mem_append_left _ (List.mem_append_right _ h))
  have hD := hD0.self (sz := s.heap.size)
  obtain ⟨A, hAe⟩ := nm_ex (va_A (oTape C a0 a1 v (oPort C b0_0 b0_1 b0_2 b0_3 b0_4 b0_5 b0_6 w0 [])) s.heap.size)
  rw [← hAe] at hD hE ⊢
  have hA : ∀ q : Nat, s.heap.size ≤ q → A q := fun q h => by rw [hAe]; exact Or.inr h
  have hS : va_S A s.heap s.heap [] := va_S.rf
  have hl := lv_entry ([.ref a0, .ref b0_0]) (n := 3) (Nat.le_of_ble_eq_true rfl)
  rw [lg_entry_eq]
  generalize (lg_sl ([.ref a0, .ref b0_0]) ++ List.replicate (3 - (lg_sl ([.ref a0, .ref b0_0])).length) Slot.unset).toArray = ls at hl ⊢
  have hl : lv_has ls 3 [(0, .ref a0), (1, .ref b0_0)] := hl
  obtain ⟨Q, hQ⟩ := nm_ex (MQ below (QI D C (oTape C a0 a1 v (oPort C b0_0 b0_1 b0_2 b0_3 b0_4 b0_5 b0_6 w0 [])) (oTape C a0 a1 (v') (oPort C b0_0 b0_1 b0_2 b0_3 b0_4 b0_5 b0_6 (w0') [])) s.heap.size r) (List.toArray [Value.ref a0, Value.ref b0_0]) s 0 0 A)
  show W p l e (headSpec wsX4_readInto (rmX4_readInto)).room s m (List.toArray [Value.ref a0, Value.ref b0_0]) below meth c s.heap [] 0 0 (MQ below (QI D C (oTape C a0 a1 v (oPort C b0_0 b0_1 b0_2 b0_3 b0_4 b0_5 b0_6 w0 [])) (oTape C a0 a1 (v') (oPort C b0_0 b0_1 b0_2 b0_3 b0_4 b0_5 b0_6 (w0') [])) s.heap.size r) (List.toArray [Value.ref a0, Value.ref b0_0]) s 0 0 A) _
  rw [← hQ]
  unfold f_X4_readInto at hf
  have main : ∀ (H : Heap) (locs : List Loc), va_P D vwCl (oTape C a0 a1 v (oPort C b0_0 b0_1 b0_2 b0_3 b0_4 b0_5 b0_6 w0 [])) H → va_D A (oTape C a0 a1 v (oPort C b0_0 b0_1 b0_2 b0_3 b0_4 b0_5 b0_6 w0 [])) → va_S A s.heap H locs → W p l e (headSpec wsX4_readInto (rmX4_readInto)).room s m (List.toArray [Value.ref a0, Value.ref b0_0]) below meth c H locs 0 0 Q (F0 m 0 ls []) := by
    intro H locs hP hD hS
    refine lv_aload_n hx hb dX4_readInto_0 rfl (lv_at hl 0 rfl) ?_
    refine lv_iconst (v := 0) hx hb dX4_readInto_1 rfl ?_
    refine va_put (D := D) (ci := 4) (v := .int 0) (ty := .int) (C := RX4) (T := TX4) (N := 6) hx hb hts hi_RX4 tyX4 tyX4_ok nmX4 hown hK hP hD hS 0 rfl rfl 4 (by decide) (hts (.fieldLink RX4 19 "TravelMarks$Tape" "end" "I") (List.mem_of_getElem? (i := 1) rfl)) (fun _ h9 => h9) rfl (tyX4_ok 4 (by decide)) rfl rfl (Nat.le_of_ble_eq_true rfl) dX4_readInto_2 (fun H locs hP hD hS => ?_)
    obtain ⟨v1, ev1, hf⟩ := lj_e hf
    have hP : va_P D vwCl (oTape C a0 a1 v1 (oPort C b0_0 b0_1 b0_2 b0_3 b0_4 b0_5 b0_6 w0 [])) H := by rw [ev1]; exact hP
    have hD : va_D A (oTape C a0 a1 v1 (oPort C b0_0 b0_1 b0_2 b0_3 b0_4 b0_5 b0_6 w0 [])) := by rw [ev1]; exact hD
    refine lv_aload_n hx hb dX4_readInto_5 rfl (lv_at hl 0 rfl) ?_
    obtain ⟨v2, h3, hf⟩ := ob1_e hf
    refine kcv (Wx := (oTape C a0 a1 v2 (oPort C b0_0 b0_1 b0_2 b0_3 b0_4 b0_5 b0_6 w0 []))) (va_runV (As := []) (rest := []) ⟨hx, hb, hml, hown, hts⟩ (c_X4_next l E D C a0 a1 H.size N v1 v2 h3) (cwV 0 hts gX4_readInto_X4_next rfl rfl rfl hdX4_next ⟨Nat.le_of_ble_eq_true rfl, Nat.le_of_ble_eq_true rfl⟩) (kpreV hP hD hK hS hE hA [0, 1] rfl rfl 0 rfl rfl rfl) rfl rfl hl.1 rfl (lv_room (Nat.le_of_ble_eq_true rfl)) dX4_readInto_6 ⟨Nat.zero_le _, Nat.zero_le _⟩) hP hD hS hA [0, 1] rfl rfl rfl (fun H locs hP hD hS => ?_)
    refine lv_iconst (v := 0) hx hb dX4_readInto_9 rfl ?_
    refine lv_istore_n (lv' := [(2, .int 0), (0, .ref a0), (1, .ref b0_0)]) hx hb dX4_readInto_10 rfl hl (by decide) rfl (fun ls hl => ?_)
    have hL11 : ∀ (n : Nat) (i4 : Int32) (v5 : TV) (v6 : PV) (H : Heap) (locs : List Loc) (ls : Array Slot), va_P D vwCl (oTape C a0 a1 v5 (oPort C b0_0 b0_1 b0_2 b0_3 b0_4 b0_5 b0_6 v6 [])) H → va_D A (oTape C a0 a1 v5 (oPort C b0_0 b0_1 b0_2 b0_3 b0_4 b0_5 b0_6 v6 [])) → va_S A s.heap H locs → lv_has ls 3 [(2, .int i4), (0, .ref a0), (1, .ref b0_0)] → f_X4_readInto_L11 N n i4 v5 v6 = some (r, v', w0') → W p l e (headSpec wsX4_readInto (rmX4_readInto)).room s m (List.toArray [Value.ref a0, Value.ref b0_0]) below meth c H locs 0 0 Q (F0 m 11 ls []) := by
      intro n
      induction n with
      | zero =>
        intro i4 v5 v6 H locs ls hP hD hS hl hf
        exact absurd hf (fun h => by cases h)
      | succ n ih =>
        intro i4 v5 v6 H locs ls hP hD hS hl hf
        rw [f_X4_readInto_L11] at hf
        refine lv_iload_n hx hb dX4_readInto_11 rfl (lv_at hl 0 rfl) ?_
        refine lv_sipush (v := 200) hx hb dX4_readInto_12 rfl ?_
        refine lv_icmp_gt (tgt := 44) hx hb dX4_readInto_15 (by decide) (fun c7 => ?_) (fun c7 => ?_)
        · replace hf := if_te c7 hf
          refine lv_iconst (v := (-1)) hx hb dX4_readInto_44 rfl ?_
          cases hf
          exact kri hQ hAe hx hb hr hlocks hP hD hK hS dX4_readInto_45
        · replace hf := if_fe c7 hf
          refine lv_aload_n hx hb dX4_readInto_18 rfl (lv_at hl 1 rfl) ?_
          refine va_get (D := D) (ci := 4) (v := .int (tpToken v5)) (C := RX4) (T := TX4) (N := 6) hx hb hts hi_RX4 hown hK hP 0 rfl rfl 2 (by decide) (hts (.fieldLink RX4 25 "TravelMarks$Tape" "token" "I") (List.mem_of_getElem? (i := 2) rfl)) (fun _ h9 => h9) rfl dX4_readInto_19 ?_
          refine lv_if_eq (tgt := 44) hx hb dX4_readInto_22 (by decide) (fun c8 => ?_) (fun c8 => ?_)
          · replace hf := if_te c8 hf
            refine lv_iconst (v := (-1)) hx hb dX4_readInto_44 rfl ?_
            cases hf
            exact kri hQ hAe hx hb hr hlocks hP hD hK hS dX4_readInto_45
          · replace hf := if_fe c8 hf
            refine lv_aload_n hx hb dX4_readInto_25 rfl (lv_at hl 1 rfl) ?_
            refine lv_aload_n hx hb dX4_readInto_26 rfl (lv_at hl 2 rfl) ?_
            obtain ⟨r9, v10, v11, h12, hf⟩ := ob3_e hf
            refine kcz (Wx := (oTape C a0 a1 v10 (oPort C b0_0 b0_1 b0_2 b0_3 b0_4 b0_5 b0_6 v11 []))) (va_runV (As := [.ref b0_0]) (rest := []) ⟨hx, hb, hml, hown, hts⟩ (c_X4_readOrder l E D C a0 a1 b0_0 b0_1 b0_2 b0_3 b0_4 b0_5 b0_6 H.size N v5 v6 r9 v10 v11 h12) (cwV 1 hts gX4_readInto_X4_readOrder rfl rfl rfl hdX4_readOrder ⟨Nat.le_of_ble_eq_true rfl, Nat.le_of_ble_eq_true rfl⟩) (kpreV hP hD hK hS hE hA [0, 1, 2, 3, 4, 5, 6, 7, 8] rfl rfl 0 rfl rfl rfl) rfl rfl hl.1 rfl (lv_room (Nat.le_of_ble_eq_true rfl)) dX4_readInto_27 ⟨Nat.zero_le _, Nat.zero_le _⟩) hP hD hS hA [0, 1, 2, 3, 4, 5, 6, 7, 8] rfl rfl rfl (fun H locs hz13 hP hD hS => ?_)
            refine lv_if_ne (tgt := 38) hx hb dX4_readInto_30 (by decide) (fun c14 => ?_) (fun c14 => ?_)
            · replace hf := if_fe c14 hf
              obtain ⟨t15, et15, hf⟩ := lj_e hf
              refine lv_iinc (v := t15) (lv' := [(2, .int t15), (0, .ref a0), (1, .ref b0_0)]) hx hb dX4_readInto_38 hl (k := 0) rfl (by rw [et15]; rfl) (by decide) rfl (fun ls hl => ?_)
              refine lv_goto (tgt := 11) hx hb dX4_readInto_41 (by decide) ?_
              exact ih t15 v10 v11 H locs ls hP hD hS (lv_sub hl [0, 1, 2] rfl) hf
            · replace hf := if_te c14 hf
              refine lv_aload_n hx hb dX4_readInto_33 rfl (lv_at hl 1 rfl) ?_
              refine va_get (D := D) (ci := 4) (v := .int (tpStart v10)) (C := RX4) (T := TX4) (N := 6) hx hb hts hi_RX4 hown hK hP 0 rfl rfl 3 (by decide) (hts (.fieldLink RX4 32 "TravelMarks$Tape" "start" "I") (List.mem_of_getElem? (i := 3) rfl)) (fun _ h9 => h9) rfl dX4_readInto_34 ?_
              obtain ⟨t16, et16, hf⟩ := lj_e hf
              refine lv_ren et16 ?_
              cases hf
              exact kri hQ hAe hx hb hr hlocks hP hD hK hS dX4_readInto_37
    exact hL11 N 0 v2 w0 H locs ls hP hD hS (lv_sub hl [0, 1, 2] rfl) hf
  exact main _ _ hP hD hS

def rmX5_port : Room := { frames := 13, cells := 0, slots := 0, locals := 513 }
theorem hdX5_port : yX5_port.cls = RX5 ∧ yX5_port.cls ≠ "java/lang/invoke/MethodHandle" ∧ yX5_port.cls ≠ "java/lang/invoke/VarHandle" ∧ (parseMethodDescriptor yX5_port.desc).map (fun d => d.parameters.length) = some 0 := by decide +kernel
set_option maxHeartbeats 40000000 in
set_option maxRecDepth 100000 in
theorem c_X5_port (l : Launch) (E : Nat → Nat) (D : va_G) (C : Nat → ClassId) (q0 qn0 qk0 qr0 qc0 qt0 qd0 qs0 qf0 qw0 qn1 qn2 qn3 qn4 qn5 qn6 qr1 qr2 qr3 qr4 qr5 qr6 qt1 : Nat) (sz : Nat) (N : Nat) (rowCount : Int32) (anyKept : Int32) (now : PV) (trial : PV) (tape : TV)  (r : Int32) (rowCount' : Int32) (now' : PV) (trial' : PV) (tape' : TV) (hf : f_X5_port N rowCount now trial tape = some (r, rowCount', now', trial', tape')) : Met l yX5_port wsX5_port rmX5_port (PC E D C [.ref q0] (oTM q0 qn0 qk0 qr0 qc0 qt0 qd0 qs0 qf0 qw0 rowCount anyKept (oPort C qn0 qn1 qn2 qn3 qn4 qn5 qn6 now (oPort C qr0 qr1 qr2 qr3 qr4 qr5 qr6 trial (oTape C qt0 qt1 tape [])))) sz) (QI D C (oTM q0 qn0 qk0 qr0 qc0 qt0 qd0 qs0 qf0 qw0 rowCount anyKept (oPort C qn0 qn1 qn2 qn3 qn4 qn5 qn6 now (oPort C qr0 qr1 qr2 qr3 qr4 qr5 qr6 trial (oTape C qt0 qt1 tape [])))) (oTM q0 qn0 qk0 qr0 qc0 qt0 qd0 qs0 qf0 qw0 (rowCount') anyKept (oPort C qn0 qn1 qn2 qn3 qn4 qn5 qn6 (now') (oPort C qr0 qr1 qr2 qr3 qr4 qr5 qr6 (trial') (oTape C qt0 qt1 (tape') [])))) sz r) 0 0 (va_A (oTM q0 qn0 qk0 qr0 qc0 qt0 qd0 qs0 qf0 qw0 rowCount anyKept (oPort C qn0 qn1 qn2 qn3 qn4 qn5 qn6 now (oPort C qr0 qr1 qr2 qr3 qr4 qr5 qr6 trial (oTape C qt0 qt1 tape [])))) sz) := by
  refine Met.ofW (cc := cX5_port) (maxL := 2) (ret := (some .int)) (by decide) rfl ?_
  intro p e s m args below meth c s₁ B hml hv
  obtain ⟨rfl, hsz, hP, hK, hD0, hE⟩ := hv
  have hx := B.exec
  have hb := B.bytes
  have hr := B.returns
  have hts := atoms_spec (ws := wsX5_port) B.pre
  have hown : s.vm.findClass RX5 = some m.cls := findClass_of_methodNamed B.named
  have hlocks := B.notSynchronized
  subst hsz
  have hi_RX1 : ∀ w ∈ wsX10, w ∈ wsX5_port := fun _ h => List.mem_cons_of_mem _ (List.mem_append_left _ (List.mem_append_right _ h))
  have hi_RX4 : ∀ w ∈ wsX40, w ∈ wsX5_port := fun _ h => List.mem_cons_of_mem _ (List.mem_append_right _ h)
  have hi_RX5 : ∀ w ∈ wsX50, w ∈ wsX5_port := fun _ h => List.mem_cons_of_mem _ (List.mem_append_left _ (List.mem_append_left _ (List.mem_append_right _ h)))
  have hD := hD0.self (sz := s.heap.size)
  obtain ⟨A, hAe⟩ := nm_ex (va_A (oTM q0 qn0 qk0 qr0 qc0 qt0 qd0 qs0 qf0 qw0 rowCount anyKept (oPort C qn0 qn1 qn2 qn3 qn4 qn5 qn6 now (oPort C qr0 qr1 qr2 qr3 qr4 qr5 qr6 trial (oTape C qt0 qt1 tape [])))) s.heap.size)
  rw [← hAe] at hD hE ⊢
  have hA : ∀ q : Nat, s.heap.size ≤ q → A q := fun q h => by rw [hAe]; exact Or.inr h
  have hS : va_S A s.heap s.heap [] := va_S.rf
  have hl := lv_entry ([.ref q0]) (n := 2) (Nat.le_of_ble_eq_true rfl)
  rw [lg_entry_eq]
  generalize (lg_sl ([.ref q0]) ++ List.replicate (2 - (lg_sl ([.ref q0])).length) Slot.unset).toArray = ls at hl ⊢
  have hl : lv_has ls 2 [(0, .ref q0)] := hl
  obtain ⟨Q, hQ⟩ := nm_ex (MQ below (QI D C (oTM q0 qn0 qk0 qr0 qc0 qt0 qd0 qs0 qf0 qw0 rowCount anyKept (oPort C qn0 qn1 qn2 qn3 qn4 qn5 qn6 now (oPort C qr0 qr1 qr2 qr3 qr4 qr5 qr6 trial (oTape C qt0 qt1 tape [])))) (oTM q0 qn0 qk0 qr0 qc0 qt0 qd0 qs0 qf0 qw0 (rowCount') anyKept (oPort C qn0 qn1 qn2 qn3 qn4 qn5 qn6 (now') (oPort C qr0 qr1 qr2 qr3 qr4 qr5 qr6 (trial') (oTape C qt0 qt1 (tape') [])))) s.heap.size r) (List.toArray [Value.ref q0]) s 0 0 A)
  show W p l e (headSpec wsX5_port (rmX5_port)).room s m (List.toArray [Value.ref q0]) below meth c s.heap [] 0 0 (MQ below (QI D C (oTM q0 qn0 qk0 qr0 qc0 qt0 qd0 qs0 qf0 qw0 rowCount anyKept (oPort C qn0 qn1 qn2 qn3 qn4 qn5 qn6 now (oPort C qr0 qr1 qr2 qr3 qr4 qr5 qr6 trial (oTape C qt0 qt1 tape [])))) (oTM q0 qn0 qk0 qr0 qc0 qt0 qd0 qs0 qf0 qw0 (rowCount') anyKept (oPort C qn0 qn1 qn2 qn3 qn4 qn5 qn6 (now') (oPort C qr0 qr1 qr2 qr3 qr4 qr5 qr6 (trial') (oTape C qt0 qt1 (tape') [])))) s.heap.size r) (List.toArray [Value.ref q0]) s 0 0 A) _
  rw [← hQ]
  unfold f_X5_port at hf
  have main : ∀ (H : Heap) (locs : List Loc), va_P D vwCl (oTM q0 qn0 qk0 qr0 qc0 qt0 qd0 qs0 qf0 qw0 rowCount anyKept (oPort C qn0 qn1 qn2 qn3 qn4 qn5 qn6 now (oPort C qr0 qr1 qr2 qr3 qr4 qr5 qr6 trial (oTape C qt0 qt1 tape [])))) H → va_D A (oTM q0 qn0 qk0 qr0 qc0 qt0 qd0 qs0 qf0 qw0 rowCount anyKept (oPort C qn0 qn1 qn2 qn3 qn4 qn5 qn6 now (oPort C qr0 qr1 qr2 qr3 qr4 qr5 qr6 trial (oTape C qt0 qt1 tape [])))) → va_S A s.heap H locs → W p l e (headSpec wsX5_port (rmX5_port)).room s m (List.toArray [Value.ref q0]) below meth c H locs 0 0 Q (F0 m 0 ls []) := by
    intro H locs hP hD hS
    refine lv_aload_n hx hb dX5_port_0 rfl (lv_at hl 0 rfl) ?_
    refine va_get (D := D) (ci := 5) (v := .ref qr0) (C := RX5) (T := TX5) (N := 11) hx hb hts hi_RX5 hown hK hP 0 rfl rfl 2 (by decide) (hts (.fieldLink RX5 19 "TravelMarks" "trial" "LTravelMarks$Port;") (List.mem_of_getElem? (i := 1) rfl)) (fun _ h9 => h9) rfl dX5_port_1 ?_
    obtain ⟨v1, h2, hf⟩ := ob1_e hf
    refine kcv (Wx := (oTM q0 qn0 qk0 qr0 qc0 qt0 qd0 qs0 qf0 qw0 rowCount anyKept (oPort C qn0 qn1 qn2 qn3 qn4 qn5 qn6 now (oPort C qr0 qr1 qr2 qr3 qr4 qr5 qr6 v1 (oTape C qt0 qt1 tape []))))) (va_runV (As := []) (rest := []) ⟨hx, hb, hml, hown, hts⟩ (c_X1_clear l E D C qr0 qr1 qr2 qr3 qr4 qr5 qr6 H.size N trial v1 h2) (cwV 0 hts gX5_port_X1_clear rfl rfl rfl hdX1_clear ⟨Nat.le_of_ble_eq_true rfl, Nat.le_of_ble_eq_true rfl⟩) (kpreV hP hD hK hS hE hA [8, 9, 10, 11, 12, 13, 14] rfl rfl 8 rfl rfl rfl) rfl rfl hl.1 rfl (lv_room (Nat.le_of_ble_eq_true rfl)) dX5_port_4 ⟨Nat.zero_le _, Nat.zero_le _⟩) hP hD hS hA [8, 9, 10, 11, 12, 13, 14] rfl rfl rfl (fun H locs hP hD hS => ?_)
    refine lv_aload_n hx hb dX5_port_7 rfl (lv_at hl 0 rfl) ?_
    refine va_get (D := D) (ci := 5) (v := .ref qr0) (C := RX5) (T := TX5) (N := 11) hx hb hts hi_RX5 hown hK hP 0 rfl rfl 2 (by decide) (hts (.fieldLink RX5 19 "TravelMarks" "trial" "LTravelMarks$Port;") (List.mem_of_getElem? (i := 1) rfl)) (fun _ h9 => h9) rfl dX5_port_8 ?_
    refine lv_aload_n hx hb dX5_port_11 rfl (lv_at hl 0 rfl) ?_
    refine va_get (D := D) (ci := 5) (v := .ref qn0) (C := RX5) (T := TX5) (N := 11) hx hb hts hi_RX5 hown hK hP 0 rfl rfl 0 (by decide) (hts (.fieldLink RX5 10 "TravelMarks" "now" "LTravelMarks$Port;") (List.mem_of_getElem? (i := 2) rfl)) (fun _ h9 => h9) rfl dX5_port_12 ?_
    refine va_get (D := D) (ci := 1) (v := .int (pZ now)) (C := RX1) (T := TX1) (N := 10) hx hb hts hi_RX1 hown hK hP 1 rfl rfl 8 (by decide) (hts (.fieldLink RX5 68 "TravelMarks$Port" "z" "I") (List.mem_of_getElem? (i := 3) rfl)) (fun _ h9 => h9) rfl dX5_port_15 ?_
    obtain ⟨t3, et3, hf⟩ := lj_e hf
    refine lv_ren et3 ?_
    refine va_put (D := D) (ci := 1) (v := .int t3) (ty := .int) (C := RX1) (T := TX1) (N := 10) hx hb hts hi_RX1 tyX1 tyX1_ok nmX1 hown hK hP hD hS 8 rfl rfl 8 (by decide) (hts (.fieldLink RX5 68 "TravelMarks$Port" "z" "I") (List.mem_of_getElem? (i := 3) rfl)) (fun _ h9 => h9) rfl (tyX1_ok 8 (by decide)) rfl rfl (Nat.le_of_ble_eq_true rfl) dX5_port_18 (fun H locs hP hD hS => ?_)
    obtain ⟨v4, ev4, hf⟩ := lj_e hf
    have hP : va_P D vwCl (oTM q0 qn0 qk0 qr0 qc0 qt0 qd0 qs0 qf0 qw0 rowCount anyKept (oPort C qn0 qn1 qn2 qn3 qn4 qn5 qn6 now (oPort C qr0 qr1 qr2 qr3 qr4 qr5 qr6 v4 (oTape C qt0 qt1 tape [])))) H := by rw [ev4]; exact hP
    have hD : va_D A (oTM q0 qn0 qk0 qr0 qc0 qt0 qd0 qs0 qf0 qw0 rowCount anyKept (oPort C qn0 qn1 qn2 qn3 qn4 qn5 qn6 now (oPort C qr0 qr1 qr2 qr3 qr4 qr5 qr6 v4 (oTape C qt0 qt1 tape [])))) := by rw [ev4]; exact hD
    refine lv_aload_n hx hb dX5_port_21 rfl (lv_at hl 0 rfl) ?_
    refine va_get (D := D) (ci := 5) (v := .ref qt0) (C := RX5) (T := TX5) (N := 11) hx hb hts hi_RX5 hown hK hP 0 rfl rfl 4 (by decide) (hts (.fieldLink RX5 28 "TravelMarks" "tape" "LTravelMarks$Tape;") (List.mem_of_getElem? (i := 4) rfl)) (fun _ h9 => h9) rfl dX5_port_22 ?_
    refine lv_aload_n hx hb dX5_port_25 rfl (lv_at hl 0 rfl) ?_
    refine va_get (D := D) (ci := 5) (v := .ref qr0) (C := RX5) (T := TX5) (N := 11) hx hb hts hi_RX5 hown hK hP 0 rfl rfl 2 (by decide) (hts (.fieldLink RX5 19 "TravelMarks" "trial" "LTravelMarks$Port;") (List.mem_of_getElem? (i := 1) rfl)) (fun _ h9 => h9) rfl dX5_port_26 ?_
    obtain ⟨r5, v6, v7, h8, hf⟩ := ob3_e hf
    refine kci (Wx := (oTM q0 qn0 qk0 qr0 qc0 qt0 qd0 qs0 qf0 qw0 rowCount anyKept (oPort C qn0 qn1 qn2 qn3 qn4 qn5 qn6 now (oPort C qr0 qr1 qr2 qr3 qr4 qr5 qr6 v7 (oTape C qt0 qt1 v6 []))))) (va_runV (As := [.ref qr0]) (rest := []) ⟨hx, hb, hml, hown, hts⟩ (c_X4_readInto l E D C qt0 qt1 qr0 qr1 qr2 qr3 qr4 qr5 qr6 H.size N tape v4 r5 v6 v7 h8) (cwV 1 hts gX5_port_X4_readInto rfl rfl rfl hdX4_readInto ⟨Nat.le_of_ble_eq_true rfl, Nat.le_of_ble_eq_true rfl⟩) (kpreV hP hD hK hS hE hA [15, 16, 8, 9, 10, 11, 12, 13, 14] rfl rfl 15 rfl rfl rfl) rfl rfl hl.1 rfl (lv_room (Nat.le_of_ble_eq_true rfl)) dX5_port_29 ⟨Nat.zero_le _, Nat.zero_le _⟩) hP hD hS hA [15, 16, 8, 9, 10, 11, 12, 13, 14] rfl rfl rfl (fun H locs hP hD hS => ?_)
    refine lv_istore_n (lv' := [(1, .int r5), (0, .ref q0)]) hx hb dX5_port_32 rfl hl (by decide) rfl (fun ls hl => ?_)
    refine lv_aload_n hx hb dX5_port_33 rfl (lv_at hl 1 rfl) ?_
    refine va_get (D := D) (ci := 5) (v := .ref qt0) (C := RX5) (T := TX5) (N := 11) hx hb hts hi_RX5 hown hK hP 0 rfl rfl 4 (by decide) (hts (.fieldLink RX5 28 "TravelMarks" "tape" "LTravelMarks$Tape;") (List.mem_of_getElem? (i := 4) rfl)) (fun _ h9 => h9) rfl dX5_port_34 ?_
    refine lv_iconst (v := 0) hx hb dX5_port_37 rfl ?_
    refine va_put (D := D) (ci := 4) (v := .int 0) (ty := .int) (C := RX4) (T := TX4) (N := 6) hx hb hts hi_RX4 tyX4 tyX4_ok nmX4 hown hK hP hD hS 15 rfl rfl 1 (by decide) (hts (.fieldLink RX5 76 "TravelMarks$Tape" "length" "I") (List.mem_of_getElem? (i := 5) rfl)) (fun _ h9 => h9) rfl (tyX4_ok 1 (by decide)) rfl rfl (Nat.le_of_ble_eq_true rfl) dX5_port_38 (fun H locs hP hD hS => ?_)
    obtain ⟨v9, ev9, hf⟩ := lj_e hf
    have hP : va_P D vwCl (oTM q0 qn0 qk0 qr0 qc0 qt0 qd0 qs0 qf0 qw0 rowCount anyKept (oPort C qn0 qn1 qn2 qn3 qn4 qn5 qn6 now (oPort C qr0 qr1 qr2 qr3 qr4 qr5 qr6 v7 (oTape C qt0 qt1 v9 [])))) H := by rw [ev9]; exact hP
    have hD : va_D A (oTM q0 qn0 qk0 qr0 qc0 qt0 qd0 qs0 qf0 qw0 rowCount anyKept (oPort C qn0 qn1 qn2 qn3 qn4 qn5 qn6 now (oPort C qr0 qr1 qr2 qr3 qr4 qr5 qr6 v7 (oTape C qt0 qt1 v9 [])))) := by rw [ev9]; exact hD
    refine lv_iload_n hx hb dX5_port_41 rfl (lv_at hl 0 rfl) ?_
    refine lv_if_lt (tgt := 50) hx hb dX5_port_42 (by decide) (fun c10 => ?_) (fun c10 => ?_)
    · replace hf := if_te c10 hf
      refine lv_aload_n hx hb dX5_port_50 rfl (lv_at hl 1 rfl) ?_
      refine va_get (D := D) (ci := 5) (v := .ref qn0) (C := RX5) (T := TX5) (N := 11) hx hb hts hi_RX5 hown hK hP 0 rfl rfl 0 (by decide) (hts (.fieldLink RX5 10 "TravelMarks" "now" "LTravelMarks$Port;") (List.mem_of_getElem? (i := 2) rfl)) (fun _ h9 => h9) rfl dX5_port_51 ?_
      refine lv_aload_n hx hb dX5_port_54 rfl (lv_at hl 1 rfl) ?_
      refine va_get (D := D) (ci := 5) (v := .ref qr0) (C := RX5) (T := TX5) (N := 11) hx hb hts hi_RX5 hown hK hP 0 rfl rfl 2 (by decide) (hts (.fieldLink RX5 19 "TravelMarks" "trial" "LTravelMarks$Port;") (List.mem_of_getElem? (i := 1) rfl)) (fun _ h9 => h9) rfl dX5_port_55 ?_
      obtain ⟨v11, h12, hf⟩ := ob1_e hf
      refine kcv (Wx := (oTM q0 qn0 qk0 qr0 qc0 qt0 qd0 qs0 qf0 qw0 rowCount anyKept (oPort C qn0 qn1 qn2 qn3 qn4 qn5 qn6 v11 (oPort C qr0 qr1 qr2 qr3 qr4 qr5 qr6 v7 (oTape C qt0 qt1 v9 []))))) (va_runV (As := [.ref qr0]) (rest := []) ⟨hx, hb, hml, hown, hts⟩ (c_X1_become l E D C qn0 qn1 qn2 qn3 qn4 qn5 qn6 qr0 qr1 qr2 qr3 qr4 qr5 qr6 H.size now v7 v11 h12) (cwV 1 hts gX5_port_X1_become rfl rfl rfl hdX1_become ⟨Nat.le_of_ble_eq_true rfl, Nat.le_of_ble_eq_true rfl⟩) (kpreV hP hD hK hS hE hA [1, 2, 3, 4, 5, 6, 7, 8, 9, 10, 11, 12, 13, 14] rfl rfl 1 rfl rfl rfl) rfl rfl hl.1 rfl (lv_room (Nat.le_of_ble_eq_true rfl)) dX5_port_58 ⟨Nat.zero_le _, Nat.zero_le _⟩) hP hD hS hA [1, 2, 3, 4, 5, 6, 7, 8, 9, 10, 11, 12, 13, 14] rfl rfl rfl (fun H locs hP hD hS => ?_)
      refine lv_aload_n hx hb dX5_port_61 rfl (lv_at hl 1 rfl) ?_
      refine lv_iconst (v := 0) hx hb dX5_port_62 rfl ?_
      refine va_put (D := D) (ci := 5) (v := .int 0) (ty := .int) (C := RX5) (T := TX5) (N := 11) hx hb hts hi_RX5 tyX5 tyX5_ok nmX5 hown hK hP hD hS 0 rfl rfl 9 (by decide) (hts (.fieldLink RX5 83 "TravelMarks" "rowCount" "I") (List.mem_of_getElem? (i := 6) rfl)) (fun _ h9 => h9) rfl (tyX5_ok 9 (by decide)) rfl rfl (Nat.le_of_ble_eq_true rfl) dX5_port_63 (fun H locs hP hD hS => ?_)
      have hP : va_P D vwCl (oTM q0 qn0 qk0 qr0 qc0 qt0 qd0 qs0 qf0 qw0 0 anyKept (oPort C qn0 qn1 qn2 qn3 qn4 qn5 qn6 v11 (oPort C qr0 qr1 qr2 qr3 qr4 qr5 qr6 v7 (oTape C qt0 qt1 v9 [])))) H := hP
      have hD : va_D A (oTM q0 qn0 qk0 qr0 qc0 qt0 qd0 qs0 qf0 qw0 0 anyKept (oPort C qn0 qn1 qn2 qn3 qn4 qn5 qn6 v11 (oPort C qr0 qr1 qr2 qr3 qr4 qr5 qr6 v7 (oTape C qt0 qt1 v9 [])))) := hD
      refine lv_aload_n hx hb dX5_port_66 rfl (lv_at hl 1 rfl) ?_
      refine va_get (D := D) (ci := 5) (v := .ref qn0) (C := RX5) (T := TX5) (N := 11) hx hb hts hi_RX5 hown hK hP 0 rfl rfl 0 (by decide) (hts (.fieldLink RX5 10 "TravelMarks" "now" "LTravelMarks$Port;") (List.mem_of_getElem? (i := 2) rfl)) (fun _ h9 => h9) rfl dX5_port_67 ?_
      refine va_get (D := D) (ci := 1) (v := .int (pCount v11)) (C := RX1) (T := TX1) (N := 10) hx hb hts hi_RX1 hown hK hP 1 rfl rfl 6 (by decide) (hts (.fieldLink RX5 86 "TravelMarks$Port" "count" "I") (List.mem_of_getElem? (i := 7) rfl)) (fun _ h9 => h9) rfl dX5_port_70 ?_
      obtain ⟨t13, et13, hf⟩ := lj_e hf
      refine lv_ren et13 ?_
      cases hf
      exact kri hQ hAe hx hb hr hlocks hP hD hK hS dX5_port_73
    · replace hf := if_fe c10 hf
      refine lv_bipush (v := (-100)) hx hb dX5_port_45 rfl ?_
      refine lv_iload_n hx hb dX5_port_47 rfl (lv_at hl 0 rfl) ?_
      refine lv_isub hx hb dX5_port_48 ?_
      obtain ⟨t14, et14, hf⟩ := lj_e hf
      refine lv_ren et14 ?_
      cases hf
      exact kri hQ hAe hx hb hr hlocks hP hD hK hS dX5_port_49
  exact main _ _ hP hD hS

