def rmX5_dry : Room := { frames := 5, cells := 0, slots := 0, locals := 113 }
theorem hdX5_dry : yX5_dry.cls = RX5 ∧ yX5_dry.cls ≠ "java/lang/invoke/MethodHandle" ∧ yX5_dry.cls ≠ "java/lang/invoke/VarHandle" ∧ (parseMethodDescriptor yX5_dry.desc).map (fun d => d.parameters.length) = some 0 := by decide +kernel
set_option maxHeartbeats 40000000 in
set_option maxRecDepth 100000 in
theorem c_X5_dry (l : Launch) (E : Nat → Nat) (D : va_G) (C : Nat → ClassId) (q0 qn0 qk0 qr0 qc0 qt0 qd0 qs0 qf0 qw0 qn1 qn2 qn3 qn4 qn5 qn6 qr1 qr2 qr3 qr4 qr5 qr6 : Nat) (sz : Nat) (N : Nat) (rowCount : Int32) (anyKept : Int32) (now : PV) (trial : PV)  (r : Int32) (trial' : PV) (hf : f_X5_dry N now trial = some (r, trial')) : Met l yX5_dry wsX5_dry rmX5_dry (PC E D C [.ref q0] (oTM q0 qn0 qk0 qr0 qc0 qt0 qd0 qs0 qf0 qw0 rowCount anyKept (oPort C qn0 qn1 qn2 qn3 qn4 qn5 qn6 now (oPort C qr0 qr1 qr2 qr3 qr4 qr5 qr6 trial []))) sz) (QI D C (oTM q0 qn0 qk0 qr0 qc0 qt0 qd0 qs0 qf0 qw0 rowCount anyKept (oPort C qn0 qn1 qn2 qn3 qn4 qn5 qn6 now (oPort C qr0 qr1 qr2 qr3 qr4 qr5 qr6 trial []))) (oTM q0 qn0 qk0 qr0 qc0 qt0 qd0 qs0 qf0 qw0 rowCount anyKept (oPort C qn0 qn1 qn2 qn3 qn4 qn5 qn6 now (oPort C qr0 qr1 qr2 qr3 qr4 qr5 qr6 (trial') []))) sz r) 0 0 (va_A (oTM q0 qn0 qk0 qr0 qc0 qt0 qd0 qs0 qf0 qw0 rowCount anyKept (oPort C qn0 qn1 qn2 qn3 qn4 qn5 qn6 now (oPort C qr0 qr1 qr2 qr3 qr4 qr5 qr6 trial []))) sz) := by
  refine Met.ofW (cc := cX5_dry) (maxL := 1) (ret := (some .int)) (by decide) rfl ?_
  intro p e s m args below meth c s₁ B hml hv
  obtain ⟨rfl, hsz, hP, hK, hD0, hE⟩ := hv
  have hx := B.exec
  have hb := B.bytes
  have hr := B.returns
  have hts := atoms_spec (ws := wsX5_dry) B.pre
  have hown : s.vm.findClass RX5 = some m.cls := findClass_of_methodNamed B.named
  have hlocks := B.notSynchronized
  subst hsz
  have hi_RX5 : ∀ w ∈ wsX50, w ∈ wsX5_dry := fun _ h => List.mem_cons_of_mem _ (List.mem_append_left _ (List.mem_append_right _ h))
  have hD := hD0.self (sz := s.heap.size)
  obtain ⟨A, hAe⟩ := nm_ex (va_A (oTM q0 qn0 qk0 qr0 qc0 qt0 qd0 qs0 qf0 qw0 rowCount anyKept (oPort C qn0 qn1 qn2 qn3 qn4 qn5 qn6 now (oPort C qr0 qr1 qr2 qr3 qr4 qr5 qr6 trial []))) s.heap.size)
  rw [← hAe] at hD hE ⊢
  have hA : ∀ q : Nat, s.heap.size ≤ q → A q := fun q h => by rw [hAe]; exact Or.inr h
  have hS : va_S A s.heap s.heap [] := va_S.rf
  have hl := lv_entry ([.ref q0]) (n := 1) (Nat.le_of_ble_eq_true rfl)
  rw [lg_entry_eq]
  generalize (lg_sl ([.ref q0]) ++ List.replicate (1 - (lg_sl ([.ref q0])).length) Slot.unset).toArray = ls at hl ⊢
  have hl : lv_has ls 1 [(0, .ref q0)] := hl
  obtain ⟨Q, hQ⟩ := nm_ex (MQ below (QI D C (oTM q0 qn0 qk0 qr0 qc0 qt0 qd0 qs0 qf0 qw0 rowCount anyKept (oPort C qn0 qn1 qn2 qn3 qn4 qn5 qn6 now (oPort C qr0 qr1 qr2 qr3 qr4 qr5 qr6 trial []))) (oTM q0 qn0 qk0 qr0 qc0 qt0 qd0 qs0 qf0 qw0 rowCount anyKept (oPort C qn0 qn1 qn2 qn3 qn4 qn5 qn6 now (oPort C qr0 qr1 qr2 qr3 qr4 qr5 qr6 (trial') []))) s.heap.size r) (List.toArray [Value.ref q0]) s 0 0 A)
  show W p l e (headSpec wsX5_dry (rmX5_dry)).room s m (List.toArray [Value.ref q0]) below meth c s.heap [] 0 0 (MQ below (QI D C (oTM q0 qn0 qk0 qr0 qc0 qt0 qd0 qs0 qf0 qw0 rowCount anyKept (oPort C qn0 qn1 qn2 qn3 qn4 qn5 qn6 now (oPort C qr0 qr1 qr2 qr3 qr4 qr5 qr6 trial []))) (oTM q0 qn0 qk0 qr0 qc0 qt0 qd0 qs0 qf0 qw0 rowCount anyKept (oPort C qn0 qn1 qn2 qn3 qn4 qn5 qn6 now (oPort C qr0 qr1 qr2 qr3 qr4 qr5 qr6 (trial') []))) s.heap.size r) (List.toArray [Value.ref q0]) s 0 0 A) _
  rw [← hQ]
  unfold f_X5_dry at hf
  have main : ∀ (H : Heap) (locs : List Loc), va_P D vwCl (oTM q0 qn0 qk0 qr0 qc0 qt0 qd0 qs0 qf0 qw0 rowCount anyKept (oPort C qn0 qn1 qn2 qn3 qn4 qn5 qn6 now (oPort C qr0 qr1 qr2 qr3 qr4 qr5 qr6 trial []))) H → va_D A (oTM q0 qn0 qk0 qr0 qc0 qt0 qd0 qs0 qf0 qw0 rowCount anyKept (oPort C qn0 qn1 qn2 qn3 qn4 qn5 qn6 now (oPort C qr0 qr1 qr2 qr3 qr4 qr5 qr6 trial []))) → va_S A s.heap H locs → W p l e (headSpec wsX5_dry (rmX5_dry)).room s m (List.toArray [Value.ref q0]) below meth c H locs 0 0 Q (F0 m 0 ls []) := by
    intro H locs hP hD hS
    refine lv_aload_n hx hb dX5_dry_0 rfl (lv_at hl 0 rfl) ?_
    refine va_get (D := D) (ci := 5) (v := .ref qr0) (C := RX5) (T := TX5) (N := 11) hx hb hts hi_RX5 hown hK hP 0 rfl rfl 2 (by decide) (hts (.fieldLink RX5 19 "TravelMarks" "trial" "LTravelMarks$Port;") (List.mem_of_getElem? (i := 1) rfl)) (fun _ h9 => h9) rfl dX5_dry_1 ?_
    refine lv_aload_n hx hb dX5_dry_4 rfl (lv_at hl 0 rfl) ?_
    refine va_get (D := D) (ci := 5) (v := .ref qn0) (C := RX5) (T := TX5) (N := 11) hx hb hts hi_RX5 hown hK hP 0 rfl rfl 0 (by decide) (hts (.fieldLink RX5 10 "TravelMarks" "now" "LTravelMarks$Port;") (List.mem_of_getElem? (i := 2) rfl)) (fun _ h9 => h9) rfl dX5_dry_5 ?_
    obtain ⟨v1, h2, hf⟩ := ob1_e hf
    refine kcv (Wx := (oTM q0 qn0 qk0 qr0 qc0 qt0 qd0 qs0 qf0 qw0 rowCount anyKept (oPort C qn0 qn1 qn2 qn3 qn4 qn5 qn6 now (oPort C qr0 qr1 qr2 qr3 qr4 qr5 qr6 v1 [])))) (va_runV (As := [.ref qn0]) (rest := []) ⟨hx, hb, hml, hown, hts⟩ (c_X1_become l E D C qr0 qr1 qr2 qr3 qr4 qr5 qr6 qn0 qn1 qn2 qn3 qn4 qn5 qn6 H.size trial now v1 h2) (cwV 1 hts gX5_dry_X1_become rfl rfl rfl hdX1_become ⟨Nat.le_of_ble_eq_true rfl, Nat.le_of_ble_eq_true rfl⟩) (kpreV hP hD hK hS hE hA [8, 9, 10, 11, 12, 13, 14, 1, 2, 3, 4, 5, 6, 7] rfl rfl 8 rfl rfl rfl) rfl rfl hl.1 rfl (lv_room (Nat.le_of_ble_eq_true rfl)) dX5_dry_8 ⟨Nat.zero_le _, Nat.zero_le _⟩) hP hD hS hA [8, 9, 10, 11, 12, 13, 14, 1, 2, 3, 4, 5, 6, 7] rfl rfl rfl (fun H locs hP hD hS => ?_)
    refine lv_aload_n hx hb dX5_dry_11 rfl (lv_at hl 0 rfl) ?_
    refine va_get (D := D) (ci := 5) (v := .ref qr0) (C := RX5) (T := TX5) (N := 11) hx hb hts hi_RX5 hown hK hP 0 rfl rfl 2 (by decide) (hts (.fieldLink RX5 19 "TravelMarks" "trial" "LTravelMarks$Port;") (List.mem_of_getElem? (i := 1) rfl)) (fun _ h9 => h9) rfl dX5_dry_12 ?_
    refine lv_bipush (v := 60) hx hb dX5_dry_15 rfl ?_
    obtain ⟨r3, v4, h5, hf⟩ := ob2_e hf
    refine kci (Wx := (oTM q0 qn0 qk0 qr0 qc0 qt0 qd0 qs0 qf0 qw0 rowCount anyKept (oPort C qn0 qn1 qn2 qn3 qn4 qn5 qn6 now (oPort C qr0 qr1 qr2 qr3 qr4 qr5 qr6 v4 [])))) (va_runV (As := [.int 60]) (rest := []) ⟨hx, hb, hml, hown, hts⟩ (c_X1_hoursUntilDry l E D C qr0 qr1 qr2 qr3 qr4 qr5 qr6 H.size N v1 60 r3 v4 h5) (cwV 1 hts gX5_dry_X1_hoursUntilDry rfl rfl rfl hdX1_hoursUntilDry ⟨Nat.le_of_ble_eq_true rfl, Nat.le_of_ble_eq_true rfl⟩) (kpreV hP hD hK hS hE hA [8, 9, 10, 11, 12, 13, 14] rfl rfl 8 rfl rfl rfl) rfl rfl hl.1 rfl (lv_room (Nat.le_of_ble_eq_true rfl)) dX5_dry_17 ⟨Nat.zero_le _, Nat.zero_le _⟩) hP hD hS hA [8, 9, 10, 11, 12, 13, 14] rfl rfl rfl (fun H locs hP hD hS => ?_)
    cases hf
    exact kri hQ hAe hx hb hr hlocks hP hD hK hS dX5_dry_20
  exact main _ _ hP hD hS

def rmX5_isWish : Room := { frames := 2, cells := 0, slots := 0, locals := 43 }
theorem hdX5_isWish : yX5_isWish.cls = RX5 ∧ yX5_isWish.cls ≠ "java/lang/invoke/MethodHandle" ∧ yX5_isWish.cls ≠ "java/lang/invoke/VarHandle" ∧ (parseMethodDescriptor yX5_isWish.desc).map (fun d => d.parameters.length) = some 3 := by decide +kernel
set_option maxHeartbeats 40000000 in
set_option maxRecDepth 100000 in
theorem c_X5_isWish (l : Launch) (E : Nat → Nat) (D : va_G) (C : Nat → ClassId) (q0 qn0 qk0 qr0 qc0 qt0 qd0 qs0 qf0 qw0 qn1 qn2 qn3 qn4 qn5 qn6 : Nat) (sz : Nat) (rowCount : Int32) (anyKept : Int32) (now : PV) (x0 : Int32) (x1 : Int32) (x2 : Int32) (r : Int32) (hf : f_X5_isWish now x0 x1 x2 = r) : Met l yX5_isWish wsX5_isWish rmX5_isWish (PC E D C [.ref q0, .int x0, .int x1, .int x2] (oTM q0 qn0 qk0 qr0 qc0 qt0 qd0 qs0 qf0 qw0 rowCount anyKept (oPort C qn0 qn1 qn2 qn3 qn4 qn5 qn6 now [])) sz) (QZ D C (oTM q0 qn0 qk0 qr0 qc0 qt0 qd0 qs0 qf0 qw0 rowCount anyKept (oPort C qn0 qn1 qn2 qn3 qn4 qn5 qn6 now [])) (oTM q0 qn0 qk0 qr0 qc0 qt0 qd0 qs0 qf0 qw0 rowCount anyKept (oPort C qn0 qn1 qn2 qn3 qn4 qn5 qn6 now [])) sz r) 0 0 (va_A (oTM q0 qn0 qk0 qr0 qc0 qt0 qd0 qs0 qf0 qw0 rowCount anyKept (oPort C qn0 qn1 qn2 qn3 qn4 qn5 qn6 now [])) sz) := by
  refine Met.ofW (cc := cX5_isWish) (maxL := 4) (ret := (some .boolean)) (by decide) rfl ?_
  intro p e s m args below meth c s₁ B hml hv
  obtain ⟨rfl, hsz, hP, hK, hD0, hE⟩ := hv
  have hx := B.exec
  have hb := B.bytes
  have hr := B.returns
  have hts := atoms_spec (ws := wsX5_isWish) B.pre
  have hown : s.vm.findClass RX5 = some m.cls := findClass_of_methodNamed B.named
  have hlocks := B.notSynchronized
  subst hsz
  have hD := hD0.self (sz := s.heap.size)
  obtain ⟨A, hAe⟩ := nm_ex (va_A (oTM q0 qn0 qk0 qr0 qc0 qt0 qd0 qs0 qf0 qw0 rowCount anyKept (oPort C qn0 qn1 qn2 qn3 qn4 qn5 qn6 now [])) s.heap.size)
  rw [← hAe] at hD hE ⊢
  have hA : ∀ q : Nat, s.heap.size ≤ q → A q := fun q h => by rw [hAe]; exact Or.inr h
  have hS : va_S A s.heap s.heap [] := va_S.rf
  have hl := lv_entry ([.ref q0, .int x0, .int x1, .int x2]) (n := 4) (Nat.le_of_ble_eq_true rfl)
  rw [lg_entry_eq]
  generalize (lg_sl ([.ref q0, .int x0, .int x1, .int x2]) ++ List.replicate (4 - (lg_sl ([.ref q0, .int x0, .int x1, .int x2])).length) Slot.unset).toArray = ls at hl ⊢
  have hl : lv_has ls 4 [(0, .ref q0), (1, .int x0), (2, .int x1), (3, .int x2)] := hl
  obtain ⟨Q, hQ⟩ := nm_ex (MQ below (QZ D C (oTM q0 qn0 qk0 qr0 qc0 qt0 qd0 qs0 qf0 qw0 rowCount anyKept (oPort C qn0 qn1 qn2 qn3 qn4 qn5 qn6 now [])) (oTM q0 qn0 qk0 qr0 qc0 qt0 qd0 qs0 qf0 qw0 rowCount anyKept (oPort C qn0 qn1 qn2 qn3 qn4 qn5 qn6 now [])) s.heap.size r) (List.toArray [Value.ref q0, Value.int x0, Value.int x1, Value.int x2]) s 0 0 A)
  show W p l e (headSpec wsX5_isWish (rmX5_isWish)).room s m (List.toArray [Value.ref q0, Value.int x0, Value.int x1, Value.int x2]) below meth c s.heap [] 0 0 (MQ below (QZ D C (oTM q0 qn0 qk0 qr0 qc0 qt0 qd0 qs0 qf0 qw0 rowCount anyKept (oPort C qn0 qn1 qn2 qn3 qn4 qn5 qn6 now [])) (oTM q0 qn0 qk0 qr0 qc0 qt0 qd0 qs0 qf0 qw0 rowCount anyKept (oPort C qn0 qn1 qn2 qn3 qn4 qn5 qn6 now [])) s.heap.size r) (List.toArray [Value.ref q0, Value.int x0, Value.int x1, Value.int x2]) s 0 0 A) _
  rw [← hQ]
  unfold f_X5_isWish at hf
  have main : ∀ (H : Heap) (locs : List Loc), va_P D vwCl (oTM q0 qn0 qk0 qr0 qc0 qt0 qd0 qs0 qf0 qw0 rowCount anyKept (oPort C qn0 qn1 qn2 qn3 qn4 qn5 qn6 now [])) H → va_D A (oTM q0 qn0 qk0 qr0 qc0 qt0 qd0 qs0 qf0 qw0 rowCount anyKept (oPort C qn0 qn1 qn2 qn3 qn4 qn5 qn6 now [])) → va_S A s.heap H locs → W p l e (headSpec wsX5_isWish (rmX5_isWish)).room s m (List.toArray [Value.ref q0, Value.int x0, Value.int x1, Value.int x2]) below meth c H locs 0 0 Q (F0 m 0 ls []) := by
    intro H locs hP hD hS
    refine lv_aload_n hx hb dX5_isWish_0 rfl (lv_at hl 0 rfl) ?_
    refine lv_iload_n hx hb dX5_isWish_1 rfl (lv_at hl 1 rfl) ?_
    refine kcz (Wx := (oTM q0 qn0 qk0 qr0 qc0 qt0 qd0 qs0 qf0 qw0 rowCount anyKept (oPort C qn0 qn1 qn2 qn3 qn4 qn5 qn6 now []))) (va_runV (As := [.int x0]) (rest := []) ⟨hx, hb, hml, hown, hts⟩ (c_X5_isMark l E D C q0 qn0 qk0 qr0 qc0 qt0 qd0 qs0 qf0 qw0 qn1 qn2 qn3 qn4 qn5 qn6 H.size rowCount anyKept now x0 _ rfl) (cwV 1 hts gX5_isWish_X5_isMark rfl rfl rfl hdX5_isMark ⟨Nat.le_of_ble_eq_true rfl, Nat.le_of_ble_eq_true rfl⟩) (kpreV hP hD hK hS hE hA [0, 1, 2, 3, 4, 5, 6, 7] rfl rfl 0 rfl rfl rfl) rfl rfl hl.1 rfl (lv_room (Nat.le_of_ble_eq_true rfl)) dX5_isWish_2 ⟨Nat.zero_le _, Nat.zero_le _⟩) hP hD hS hA [0, 1, 2, 3, 4, 5, 6, 7] rfl rfl rfl (fun H locs hz1 hP hD hS => ?_)
    refine lv_if_eq (tgt := 29) hx hb dX5_isWish_5 (by decide) (fun c2 => ?_) (fun c2 => ?_)
    · replace hf := if_te c2 hf
      refine lv_iconst (v := 0) hx hb dX5_isWish_29 rfl ?_
      cases hf
      exact krz hQ hAe hx hb hr hlocks zb_0 hP hD hK hS dX5_isWish_30
    · replace hf := if_fe c2 hf
      refine lv_iload_n hx hb dX5_isWish_8 rfl (lv_at hl 2 rfl) ?_
      refine kcz (Wx := (oTM q0 qn0 qk0 qr0 qc0 qt0 qd0 qs0 qf0 qw0 rowCount anyKept (oPort C qn0 qn1 qn2 qn3 qn4 qn5 qn6 now []))) (va_runS (As := [.int x1]) (rest := []) ⟨hx, hb, hml, hown, hts⟩ (c_X5_isOne l E D C H.size x1 _ rfl) (va_cwS 1 hts gX5_isWish_X5_isOne rfl rfl rfl hdX5_isOne ⟨Nat.le_of_ble_eq_true rfl, Nat.le_of_ble_eq_true rfl⟩) (kpre hP hD hK hS hE hA [] rfl rfl) rfl rfl hl.1 rfl (lv_room (Nat.le_of_ble_eq_true rfl)) dX5_isWish_9 ⟨Nat.zero_le _, Nat.zero_le _⟩) hP hD hS hA [] rfl rfl rfl (fun H locs hz3 hP hD hS => ?_)
      refine lv_if_eq (tgt := 29) hx hb dX5_isWish_12 (by decide) (fun c4 => ?_) (fun c4 => ?_)
      · replace hf := if_te c4 hf
        refine lv_iconst (v := 0) hx hb dX5_isWish_29 rfl ?_
        cases hf
        exact krz hQ hAe hx hb hr hlocks zb_0 hP hD hK hS dX5_isWish_30
      · replace hf := if_fe c4 hf
        refine lv_iload_n hx hb dX5_isWish_15 rfl (lv_at hl 3 rfl) ?_
        refine lv_iconst (v := 0) hx hb dX5_isWish_16 rfl ?_
        refine lv_bipush (v := 30) hx hb dX5_isWish_17 rfl ?_
        refine kcz (Wx := (oTM q0 qn0 qk0 qr0 qc0 qt0 qd0 qs0 qf0 qw0 rowCount anyKept (oPort C qn0 qn1 qn2 qn3 qn4 qn5 qn6 now []))) (va_runS (As := [.int x2, .int 0, .int 30]) (rest := []) ⟨hx, hb, hml, hown, hts⟩ (c_X5_within l E D C H.size x2 0 30 _ rfl) (va_cwS 3 hts gX5_isWish_X5_within rfl rfl rfl hdX5_within ⟨Nat.le_of_ble_eq_true rfl, Nat.le_of_ble_eq_true rfl⟩) (kpre hP hD hK hS hE hA [] rfl rfl) rfl rfl hl.1 rfl (lv_room (Nat.le_of_ble_eq_true rfl)) dX5_isWish_19 ⟨Nat.zero_le _, Nat.zero_le _⟩) hP hD hS hA [] rfl rfl rfl (fun H locs hz5 hP hD hS => ?_)
        refine lv_if_eq (tgt := 29) hx hb dX5_isWish_22 (by decide) (fun c6 => ?_) (fun c6 => ?_)
        · replace hf := if_te c6 hf
          refine lv_iconst (v := 0) hx hb dX5_isWish_29 rfl ?_
          cases hf
          exact krz hQ hAe hx hb hr hlocks zb_0 hP hD hK hS dX5_isWish_30
        · replace hf := if_fe c6 hf
          refine lv_iconst (v := 1) hx hb dX5_isWish_25 rfl ?_
          refine lv_goto (tgt := 30) hx hb dX5_isWish_26 (by decide) ?_
          cases hf
          exact krz hQ hAe hx hb hr hlocks zb_1 hP hD hK hS dX5_isWish_30
  exact main _ _ hP hD hS

def rmX5_kindFor : Room := { frames := 5, cells := 0, slots := 0, locals := 115 }
theorem hdX5_kindFor : yX5_kindFor.cls = RX5 ∧ yX5_kindFor.cls ≠ "java/lang/invoke/MethodHandle" ∧ yX5_kindFor.cls ≠ "java/lang/invoke/VarHandle" ∧ (parseMethodDescriptor yX5_kindFor.desc).map (fun d => d.parameters.length) = some 3 := by decide +kernel
set_option maxHeartbeats 40000000 in
set_option maxRecDepth 100000 in
theorem c_X5_kindFor (l : Launch) (E : Nat → Nat) (D : va_G) (C : Nat → ClassId) (q0 qn0 qk0 qr0 qc0 qt0 qd0 qs0 qf0 qw0 qn1 qn2 qn3 qn4 qn5 qn6 qr1 qr2 qr3 qr4 qr5 qr6 : Nat) (sz : Nat) (N : Nat) (rowCount : Int32) (anyKept : Int32) (now : PV) (trial : PV) (x0 : Int32) (x1 : Int32) (x2 : Int32) (r : Int32) (trial' : PV) (hf : f_X5_kindFor N now trial x0 x1 x2 = some (r, trial')) : Met l yX5_kindFor wsX5_kindFor rmX5_kindFor (PC E D C [.ref q0, .int x0, .int x1, .int x2] (oTM q0 qn0 qk0 qr0 qc0 qt0 qd0 qs0 qf0 qw0 rowCount anyKept (oPort C qn0 qn1 qn2 qn3 qn4 qn5 qn6 now (oPort C qr0 qr1 qr2 qr3 qr4 qr5 qr6 trial []))) sz) (QI D C (oTM q0 qn0 qk0 qr0 qc0 qt0 qd0 qs0 qf0 qw0 rowCount anyKept (oPort C qn0 qn1 qn2 qn3 qn4 qn5 qn6 now (oPort C qr0 qr1 qr2 qr3 qr4 qr5 qr6 trial []))) (oTM q0 qn0 qk0 qr0 qc0 qt0 qd0 qs0 qf0 qw0 rowCount anyKept (oPort C qn0 qn1 qn2 qn3 qn4 qn5 qn6 now (oPort C qr0 qr1 qr2 qr3 qr4 qr5 qr6 (trial') []))) sz r) 0 0 (va_A (oTM q0 qn0 qk0 qr0 qc0 qt0 qd0 qs0 qf0 qw0 rowCount anyKept (oPort C qn0 qn1 qn2 qn3 qn4 qn5 qn6 now (oPort C qr0 qr1 qr2 qr3 qr4 qr5 qr6 trial []))) sz) := by
  refine Met.ofW (cc := cX5_kindFor) (maxL := 8) (ret := (some .int)) (by decide) rfl ?_
  intro p e s m args below meth c s₁ B hml hv
  obtain ⟨rfl, hsz, hP, hK, hD0, hE⟩ := hv
  have hx := B.exec
  have hb := B.bytes
  have hr := B.returns
  have hts := atoms_spec (ws := wsX5_kindFor) B.pre
  have hown : s.vm.findClass RX5 = some m.cls := findClass_of_methodNamed B.named
  have hlocks := B.notSynchronized
  subst hsz
  have hi_RX1 : ∀ w ∈ wsX10, w ∈ wsX5_kindFor := fun _ h => List.mem_cons_of_mem _ (List.mem_append_right _ h)
  have hi_RX5 : ∀ w ∈ wsX50, w ∈ wsX5_kindFor := fun _ h => List.mem_cons_of_mem _ (List.mem_append_left _ (List.mem_append_right _ h))
  have hD := hD0.self (sz := s.heap.size)
  obtain ⟨A, hAe⟩ := nm_ex (va_A (oTM q0 qn0 qk0 qr0 qc0 qt0 qd0 qs0 qf0 qw0 rowCount anyKept (oPort C qn0 qn1 qn2 qn3 qn4 qn5 qn6 now (oPort C qr0 qr1 qr2 qr3 qr4 qr5 qr6 trial []))) s.heap.size)
  rw [← hAe] at hD hE ⊢
  have hA : ∀ q : Nat, s.heap.size ≤ q → A q := fun q h => by rw [hAe]; exact Or.inr h
  have hS : va_S A s.heap s.heap [] := va_S.rf
  have hl := lv_entry ([.ref q0, .int x0, .int x1, .int x2]) (n := 8) (Nat.le_of_ble_eq_true rfl)
  rw [lg_entry_eq]
  generalize (lg_sl ([.ref q0, .int x0, .int x1, .int x2]) ++ List.replicate (8 - (lg_sl ([.ref q0, .int x0, .int x1, .int x2])).length) Slot.unset).toArray = ls at hl ⊢
  have hl : lv_has ls 8 [(0, .ref q0), (1, .int x0), (2, .int x1), (3, .int x2)] := hl
  obtain ⟨Q, hQ⟩ := nm_ex (MQ below (QI D C (oTM q0 qn0 qk0 qr0 qc0 qt0 qd0 qs0 qf0 qw0 rowCount anyKept (oPort C qn0 qn1 qn2 qn3 qn4 qn5 qn6 now (oPort C qr0 qr1 qr2 qr3 qr4 qr5 qr6 trial []))) (oTM q0 qn0 qk0 qr0 qc0 qt0 qd0 qs0 qf0 qw0 rowCount anyKept (oPort C qn0 qn1 qn2 qn3 qn4 qn5 qn6 now (oPort C qr0 qr1 qr2 qr3 qr4 qr5 qr6 (trial') []))) s.heap.size r) (List.toArray [Value.ref q0, Value.int x0, Value.int x1, Value.int x2]) s 0 0 A)
  show W p l e (headSpec wsX5_kindFor (rmX5_kindFor)).room s m (List.toArray [Value.ref q0, Value.int x0, Value.int x1, Value.int x2]) below meth c s.heap [] 0 0 (MQ below (QI D C (oTM q0 qn0 qk0 qr0 qc0 qt0 qd0 qs0 qf0 qw0 rowCount anyKept (oPort C qn0 qn1 qn2 qn3 qn4 qn5 qn6 now (oPort C qr0 qr1 qr2 qr3 qr4 qr5 qr6 trial []))) (oTM q0 qn0 qk0 qr0 qc0 qt0 qd0 qs0 qf0 qw0 rowCount anyKept (oPort C qn0 qn1 qn2 qn3 qn4 qn5 qn6 now (oPort C qr0 qr1 qr2 qr3 qr4 qr5 qr6 (trial') []))) s.heap.size r) (List.toArray [Value.ref q0, Value.int x0, Value.int x1, Value.int x2]) s 0 0 A) _
  rw [← hQ]
  unfold f_X5_kindFor at hf
  have main : ∀ (H : Heap) (locs : List Loc), va_P D vwCl (oTM q0 qn0 qk0 qr0 qc0 qt0 qd0 qs0 qf0 qw0 rowCount anyKept (oPort C qn0 qn1 qn2 qn3 qn4 qn5 qn6 now (oPort C qr0 qr1 qr2 qr3 qr4 qr5 qr6 trial []))) H → va_D A (oTM q0 qn0 qk0 qr0 qc0 qt0 qd0 qs0 qf0 qw0 rowCount anyKept (oPort C qn0 qn1 qn2 qn3 qn4 qn5 qn6 now (oPort C qr0 qr1 qr2 qr3 qr4 qr5 qr6 trial []))) → va_S A s.heap H locs → W p l e (headSpec wsX5_kindFor (rmX5_kindFor)).room s m (List.toArray [Value.ref q0, Value.int x0, Value.int x1, Value.int x2]) below meth c H locs 0 0 Q (F0 m 0 ls []) := by
    intro H locs hP hD hS
    refine lv_aload_n hx hb dX5_kindFor_0 rfl (lv_at hl 0 rfl) ?_
    refine lv_iload_n hx hb dX5_kindFor_1 rfl (lv_at hl 1 rfl) ?_
    refine lv_iload_n hx hb dX5_kindFor_2 rfl (lv_at hl 2 rfl) ?_
    refine lv_iload_n hx hb dX5_kindFor_3 rfl (lv_at hl 3 rfl) ?_
    refine kcz (Wx := (oTM q0 qn0 qk0 qr0 qc0 qt0 qd0 qs0 qf0 qw0 rowCount anyKept (oPort C qn0 qn1 qn2 qn3 qn4 qn5 qn6 now (oPort C qr0 qr1 qr2 qr3 qr4 qr5 qr6 trial [])))) (va_runV (As := [.int x0, .int x1, .int x2]) (rest := []) ⟨hx, hb, hml, hown, hts⟩ (c_X5_isWish l E D C q0 qn0 qk0 qr0 qc0 qt0 qd0 qs0 qf0 qw0 qn1 qn2 qn3 qn4 qn5 qn6 H.size rowCount anyKept now x0 x1 x2 _ rfl) (cwV 3 hts gX5_kindFor_X5_isWish rfl rfl rfl hdX5_isWish ⟨Nat.le_of_ble_eq_true rfl, Nat.le_of_ble_eq_true rfl⟩) (kpreV hP hD hK hS hE hA [0, 1, 2, 3, 4, 5, 6, 7] rfl rfl 0 rfl rfl rfl) rfl rfl hl.1 rfl (lv_room (Nat.le_of_ble_eq_true rfl)) dX5_kindFor_4 ⟨Nat.zero_le _, Nat.zero_le _⟩) hP hD hS hA [0, 1, 2, 3, 4, 5, 6, 7] rfl rfl rfl (fun H locs hz1 hP hD hS => ?_)
    refine lv_if_ne (tgt := 12) hx hb dX5_kindFor_7 (by decide) (fun c2 => ?_) (fun c2 => ?_)
    · replace hf := if_fe c2 hf
      refine lv_iconst (v := 0) hx hb dX5_kindFor_12 rfl ?_
      refine lv_istore (lv' := [(4, .int 0), (0, .ref q0), (1, .int x0), (2, .int x1), (3, .int x2)]) hx hb dX5_kindFor_13 hl (by decide) rfl (fun ls hl => ?_)
      refine lv_iload_n hx hb dX5_kindFor_15 rfl (lv_at hl 4 rfl) ?_
      refine lv_iconst (v := 1) hx hb dX5_kindFor_16 rfl ?_
      refine lv_iadd hx hb dX5_kindFor_17 ?_
      obtain ⟨t3, et3, hf⟩ := lj_e hf
      refine lv_ren et3 ?_
      refine lv_istore (lv' := [(5, .int t3), (4, .int 0), (0, .ref q0), (1, .int x0), (2, .int x1), (3, .int x2)]) hx hb dX5_kindFor_18 hl (by decide) rfl (fun ls hl => ?_)
      refine lv_iconst (v := 0) hx hb dX5_kindFor_20 rfl ?_
      refine lv_istore (lv' := [(6, .int 0), (5, .int t3), (4, .int 0), (0, .ref q0), (1, .int x0), (2, .int x1), (3, .int x2)]) hx hb dX5_kindFor_21 hl (by decide) rfl (fun ls hl => ?_)
      have hL23 : ∀ (n : Nat) (i4 : Int32) (i5 : Int32) (i6 : Int32) (v7 : PV) (H : Heap) (locs : List Loc) (ls : Array Slot), va_P D vwCl (oTM q0 qn0 qk0 qr0 qc0 qt0 qd0 qs0 qf0 qw0 rowCount anyKept (oPort C qn0 qn1 qn2 qn3 qn4 qn5 qn6 now (oPort C qr0 qr1 qr2 qr3 qr4 qr5 qr6 v7 []))) H → va_D A (oTM q0 qn0 qk0 qr0 qc0 qt0 qd0 qs0 qf0 qw0 rowCount anyKept (oPort C qn0 qn1 qn2 qn3 qn4 qn5 qn6 now (oPort C qr0 qr1 qr2 qr3 qr4 qr5 qr6 v7 []))) → va_S A s.heap H locs → lv_has ls 8 [(6, .int i4), (5, .int i5), (4, .int i6), (0, .ref q0), (1, .int x0), (2, .int x1)] → f_X5_kindFor_L23 N now x0 x1 n i4 i5 i6 v7 = some (r, trial') → W p l e (headSpec wsX5_kindFor (rmX5_kindFor)).room s m (List.toArray [Value.ref q0, Value.int x0, Value.int x1, Value.int x2]) below meth c H locs 0 0 Q (F0 m 23 ls []) := by
        intro n
        induction n with
        | zero =>
          intro i4 i5 i6 v7 H locs ls hP hD hS hl hf
          exact absurd hf (fun h => by cases h)
        | succ n ih =>
          intro i4 i5 i6 v7 H locs ls hP hD hS hl hf
          rw [f_X5_kindFor_L23] at hf
          refine lv_iload hx hb dX5_kindFor_23 (lv_at hl 0 rfl) ?_
          refine lv_bipush (v := 6) hx hb dX5_kindFor_25 rfl ?_
          refine lv_icmp_ge (tgt := 86) hx hb dX5_kindFor_27 (by decide) (fun c8 => ?_) (fun c8 => ?_)
          · replace hf := if_te c8 hf
            refine lv_iload hx hb dX5_kindFor_86 (lv_at hl 2 rfl) ?_
            cases hf
            exact kri hQ hAe hx hb hr hlocks hP hD hK hS dX5_kindFor_88
          · replace hf := if_fe c8 hf
            refine lv_aload_n hx hb dX5_kindFor_30 rfl (lv_at hl 3 rfl) ?_
            refine va_get (D := D) (ci := 5) (v := .ref qr0) (C := RX5) (T := TX5) (N := 11) hx hb hts hi_RX5 hown hK hP 0 rfl rfl 2 (by decide) (hts (.fieldLink RX5 19 "TravelMarks" "trial" "LTravelMarks$Port;") (List.mem_of_getElem? (i := 1) rfl)) (fun _ h9 => h9) rfl dX5_kindFor_31 ?_
            refine lv_aload_n hx hb dX5_kindFor_34 rfl (lv_at hl 3 rfl) ?_
            refine va_get (D := D) (ci := 5) (v := .ref qn0) (C := RX5) (T := TX5) (N := 11) hx hb hts hi_RX5 hown hK hP 0 rfl rfl 0 (by decide) (hts (.fieldLink RX5 10 "TravelMarks" "now" "LTravelMarks$Port;") (List.mem_of_getElem? (i := 2) rfl)) (fun _ h9 => h9) rfl dX5_kindFor_35 ?_
            obtain ⟨v9, h10, hf⟩ := ob1_e hf
            refine kcv (Wx := (oTM q0 qn0 qk0 qr0 qc0 qt0 qd0 qs0 qf0 qw0 rowCount anyKept (oPort C qn0 qn1 qn2 qn3 qn4 qn5 qn6 now (oPort C qr0 qr1 qr2 qr3 qr4 qr5 qr6 v9 [])))) (va_runV (As := [.ref qn0]) (rest := []) ⟨hx, hb, hml, hown, hts⟩ (c_X1_become l E D C qr0 qr1 qr2 qr3 qr4 qr5 qr6 qn0 qn1 qn2 qn3 qn4 qn5 qn6 H.size v7 now v9 h10) (cwV 1 hts gX5_kindFor_X1_become rfl rfl rfl hdX1_become ⟨Nat.le_of_ble_eq_true rfl, Nat.le_of_ble_eq_true rfl⟩) (kpreV hP hD hK hS hE hA [8, 9, 10, 11, 12, 13, 14, 1, 2, 3, 4, 5, 6, 7] rfl rfl 8 rfl rfl rfl) rfl rfl hl.1 rfl (lv_room (Nat.le_of_ble_eq_true rfl)) dX5_kindFor_38 ⟨Nat.zero_le _, Nat.zero_le _⟩) hP hD hS hA [8, 9, 10, 11, 12, 13, 14, 1, 2, 3, 4, 5, 6, 7] rfl rfl rfl (fun H locs hP hD hS => ?_)
            refine lv_aload_n hx hb dX5_kindFor_41 rfl (lv_at hl 3 rfl) ?_
            refine va_get (D := D) (ci := 5) (v := .ref qr0) (C := RX5) (T := TX5) (N := 11) hx hb hts hi_RX5 hown hK hP 0 rfl rfl 2 (by decide) (hts (.fieldLink RX5 19 "TravelMarks" "trial" "LTravelMarks$Port;") (List.mem_of_getElem? (i := 1) rfl)) (fun _ h9 => h9) rfl dX5_kindFor_42 ?_
            refine va_get (D := D) (ci := 1) (v := .ref qr2) (C := RX1) (T := TX1) (N := 10) hx hb hts hi_RX1 hown hK hP 8 rfl rfl 1 (by decide) (hts (.fieldLink RX5 114 "TravelMarks$Port" "kind" "[I") (List.mem_of_getElem? (i := 3) rfl)) (fun _ h9 => h9) rfl dX5_kindFor_45 ?_
            refine lv_iload_n hx hb dX5_kindFor_48 rfl (lv_at hl 4 rfl) ?_
            refine lv_iload hx hb dX5_kindFor_49 (lv_at hl 0 rfl) ?_
            obtain ⟨hi11, hf⟩ := ckA_e hf
            refine va_iast hx hb hK hP hD hS 10 0 rfl rfl hi11 dX5_kindFor_51 (fun H locs hP hD hS => ?_)
            obtain ⟨v12, ev12, hf⟩ := lj_e hf
            have hP : va_P D vwCl (oTM q0 qn0 qk0 qr0 qc0 qt0 qd0 qs0 qf0 qw0 rowCount anyKept (oPort C qn0 qn1 qn2 qn3 qn4 qn5 qn6 now (oPort C qr0 qr1 qr2 qr3 qr4 qr5 qr6 v12 []))) H := by rw [ev12]; exact hP
            have hD : va_D A (oTM q0 qn0 qk0 qr0 qc0 qt0 qd0 qs0 qf0 qw0 rowCount anyKept (oPort C qn0 qn1 qn2 qn3 qn4 qn5 qn6 now (oPort C qr0 qr1 qr2 qr3 qr4 qr5 qr6 v12 []))) := by rw [ev12]; exact hD
            refine lv_aload_n hx hb dX5_kindFor_52 rfl (lv_at hl 3 rfl) ?_
            refine va_get (D := D) (ci := 5) (v := .ref qr0) (C := RX5) (T := TX5) (N := 11) hx hb hts hi_RX5 hown hK hP 0 rfl rfl 2 (by decide) (hts (.fieldLink RX5 19 "TravelMarks" "trial" "LTravelMarks$Port;") (List.mem_of_getElem? (i := 1) rfl)) (fun _ h9 => h9) rfl dX5_kindFor_53 ?_
            refine lv_iload_n hx hb dX5_kindFor_56 rfl (lv_at hl 4 rfl) ?_
            refine lv_iload_n hx hb dX5_kindFor_57 rfl (lv_at hl 5 rfl) ?_
            refine lv_iload hx hb dX5_kindFor_58 (lv_at hl 1 rfl) ?_
            refine lv_iconst (v := 1) hx hb dX5_kindFor_60 rfl ?_
            refine lv_isub hx hb dX5_kindFor_61 ?_
            obtain ⟨r13, v14, h15, hf⟩ := ob2_e hf
            refine kci (Wx := (oTM q0 qn0 qk0 qr0 qc0 qt0 qd0 qs0 qf0 qw0 rowCount anyKept (oPort C qn0 qn1 qn2 qn3 qn4 qn5 qn6 now (oPort C qr0 qr1 qr2 qr3 qr4 qr5 qr6 v14 [])))) (va_runV (As := [.int x0, .int x1, .int (i5 - 1)]) (rest := []) ⟨hx, hb, hml, hown, hts⟩ (c_X1_hoursUntilOn l E D C qr0 qr1 qr2 qr3 qr4 qr5 qr6 H.size N v12 x0 x1 (i5 - 1) r13 v14 h15) (cwV 3 hts gX5_kindFor_X1_hoursUntilOn rfl rfl rfl hdX1_hoursUntilOn ⟨Nat.le_of_ble_eq_true rfl, Nat.le_of_ble_eq_true rfl⟩) (kpreV hP hD hK hS hE hA [8, 9, 10, 11, 12, 13, 14] rfl rfl 8 rfl rfl rfl) rfl rfl hl.1 rfl (lv_room (Nat.le_of_ble_eq_true rfl)) dX5_kindFor_62 ⟨Nat.zero_le _, Nat.zero_le _⟩) hP hD hS hA [8, 9, 10, 11, 12, 13, 14] rfl rfl rfl (fun H locs hP hD hS => ?_)
            refine lv_istore (lv' := [(7, .int r13), (6, .int i4), (5, .int i5), (4, .int i6), (0, .ref q0), (1, .int x0), (2, .int x1)]) hx hb dX5_kindFor_65 hl (by decide) rfl (fun ls hl => ?_)
            refine lv_iload hx hb dX5_kindFor_67 (lv_at hl 0 rfl) ?_
            obtain ⟨j18, hj18, hf⟩ := lj_e hf
            have Hj18 : ∀ (i16 : Int32) (i17 : Int32) (H : Heap) (locs : List Loc) (ls : Array Slot), va_P D vwCl (oTM q0 qn0 qk0 qr0 qc0 qt0 qd0 qs0 qf0 qw0 rowCount anyKept (oPort C qn0 qn1 qn2 qn3 qn4 qn5 qn6 now (oPort C qr0 qr1 qr2 qr3 qr4 qr5 qr6 v14 []))) H → va_D A (oTM q0 qn0 qk0 qr0 qc0 qt0 qd0 qs0 qf0 qw0 rowCount anyKept (oPort C qn0 qn1 qn2 qn3 qn4 qn5 qn6 now (oPort C qr0 qr1 qr2 qr3 qr4 qr5 qr6 v14 []))) → va_S A s.heap H locs → lv_has ls 8 [(6, .int i4), (5, .int i16), (4, .int i17), (0, .ref q0), (1, .int x0), (2, .int x1)] → j18 i16 i17 = some (r, trial') → W p l e (headSpec wsX5_kindFor (rmX5_kindFor)).room s m (List.toArray [Value.ref q0, Value.int x0, Value.int x1, Value.int x2]) below meth c H locs 0 0 Q (F0 m 80 ls []) := by
              intro i16 i17 H locs ls hP hD hS hl hf
              rw [hj18] at hf
              obtain ⟨t19, et19, hf⟩ := lj_e hf
              refine lv_iinc (v := t19) (lv' := [(6, .int t19), (5, .int i16), (4, .int i17), (0, .ref q0), (1, .int x0), (2, .int x1)]) hx hb dX5_kindFor_80 hl (k := 0) rfl (by rw [et19]; rfl) (by decide) rfl (fun ls hl => ?_)
              refine lv_goto (tgt := 23) hx hb dX5_kindFor_83 (by decide) ?_
              exact ih t19 i16 i17 v14 H locs ls hP hD hS (lv_sub hl [0, 1, 2, 3, 4, 5] rfl) hf
            refine lv_if_lt (tgt := 80) hx hb dX5_kindFor_69 (by decide) (fun c20 => ?_) (fun c20 => ?_)
            · replace hf := if_te c20 hf
              exact Hj18 i5 i6 H locs ls hP hD hS (lv_sub hl [1, 2, 3, 4, 5, 6] rfl) hf
            · replace hf := if_fe c20 hf
              refine lv_iload hx hb dX5_kindFor_72 (lv_at hl 1 rfl) ?_
              refine lv_istore (lv' := [(4, .int i4), (7, .int r13), (6, .int i4), (5, .int i5), (0, .ref q0), (1, .int x0), (2, .int x1)]) hx hb dX5_kindFor_74 hl (by decide) rfl (fun ls hl => ?_)
              refine lv_iload hx hb dX5_kindFor_76 (lv_at hl 1 rfl) ?_
              refine lv_istore (lv' := [(5, .int r13), (4, .int i4), (7, .int r13), (6, .int i4), (0, .ref q0), (1, .int x0), (2, .int x1)]) hx hb dX5_kindFor_78 hl (by decide) rfl (fun ls hl => ?_)
              exact Hj18 r13 i4 H locs ls hP hD hS (lv_sub hl [3, 0, 1, 4, 5, 6] rfl) hf
      exact hL23 N 0 t3 0 trial H locs ls hP hD hS (lv_sub hl [0, 1, 2, 3, 4, 5] rfl) hf
    · replace hf := if_te c2 hf
      refine lv_iconst (v := (-1)) hx hb dX5_kindFor_10 rfl ?_
      cases hf
      exact kri hQ hAe hx hb hr hlocks hP hD hK hS dX5_kindFor_11
  exact main _ _ hP hD hS

def rmX5_inkFor : Room := { frames := 5, cells := 0, slots := 0, locals := 115 }
theorem hdX5_inkFor : yX5_inkFor.cls = RX5 ∧ yX5_inkFor.cls ≠ "java/lang/invoke/MethodHandle" ∧ yX5_inkFor.cls ≠ "java/lang/invoke/VarHandle" ∧ (parseMethodDescriptor yX5_inkFor.desc).map (fun d => d.parameters.length) = some 3 := by decide +kernel
set_option maxHeartbeats 40000000 in
set_option maxRecDepth 100000 in
theorem c_X5_inkFor (l : Launch) (E : Nat → Nat) (D : va_G) (C : Nat → ClassId) (q0 qn0 qk0 qr0 qc0 qt0 qd0 qs0 qf0 qw0 qn1 qn2 qn3 qn4 qn5 qn6 qr1 qr2 qr3 qr4 qr5 qr6 : Nat) (sz : Nat) (N : Nat) (rowCount : Int32) (anyKept : Int32) (now : PV) (trial : PV) (x0 : Int32) (x1 : Int32) (x2 : Int32) (r : Int32) (trial' : PV) (hf : f_X5_inkFor N now trial x0 x1 x2 = some (r, trial')) : Met l yX5_inkFor wsX5_inkFor rmX5_inkFor (PC E D C [.ref q0, .int x0, .int x1, .int x2] (oTM q0 qn0 qk0 qr0 qc0 qt0 qd0 qs0 qf0 qw0 rowCount anyKept (oPort C qn0 qn1 qn2 qn3 qn4 qn5 qn6 now (oPort C qr0 qr1 qr2 qr3 qr4 qr5 qr6 trial []))) sz) (QI D C (oTM q0 qn0 qk0 qr0 qc0 qt0 qd0 qs0 qf0 qw0 rowCount anyKept (oPort C qn0 qn1 qn2 qn3 qn4 qn5 qn6 now (oPort C qr0 qr1 qr2 qr3 qr4 qr5 qr6 trial []))) (oTM q0 qn0 qk0 qr0 qc0 qt0 qd0 qs0 qf0 qw0 rowCount anyKept (oPort C qn0 qn1 qn2 qn3 qn4 qn5 qn6 now (oPort C qr0 qr1 qr2 qr3 qr4 qr5 qr6 (trial') []))) sz r) 0 0 (va_A (oTM q0 qn0 qk0 qr0 qc0 qt0 qd0 qs0 qf0 qw0 rowCount anyKept (oPort C qn0 qn1 qn2 qn3 qn4 qn5 qn6 now (oPort C qr0 qr1 qr2 qr3 qr4 qr5 qr6 trial []))) sz) := by
  refine Met.ofW (cc := cX5_inkFor) (maxL := 5) (ret := (some .int)) (by decide) rfl ?_
  intro p e s m args below meth c s₁ B hml hv
  obtain ⟨rfl, hsz, hP, hK, hD0, hE⟩ := hv
  have hx := B.exec
  have hb := B.bytes
  have hr := B.returns
  have hts := atoms_spec (ws := wsX5_inkFor) B.pre
  have hown : s.vm.findClass RX5 = some m.cls := findClass_of_methodNamed B.named
  have hlocks := B.notSynchronized
  subst hsz
  have hi_RX1 : ∀ w ∈ wsX10, w ∈ wsX5_inkFor := fun _ h => List.mem_cons_of_mem _ (List.mem_append_right _ h)
  have hi_RX5 : ∀ w ∈ wsX50, w ∈ wsX5_inkFor := fun _ h => List.mem_cons_of_mem _ (List.mem_append_left _ (List.mem_append_right _ h))
  have hD := hD0.self (sz := s.heap.size)
  obtain ⟨A, hAe⟩ := nm_ex (va_A (oTM q0 qn0 qk0 qr0 qc0 qt0 qd0 qs0 qf0 qw0 rowCount anyKept (oPort C qn0 qn1 qn2 qn3 qn4 qn5 qn6 now (oPort C qr0 qr1 qr2 qr3 qr4 qr5 qr6 trial []))) s.heap.size)
  rw [← hAe] at hD hE ⊢
  have hA : ∀ q : Nat, s.heap.size ≤ q → A q := fun q h => by rw [hAe]; exact Or.inr h
  have hS : va_S A s.heap s.heap [] := va_S.rf
  have hl := lv_entry ([.ref q0, .int x0, .int x1, .int x2]) (n := 5) (Nat.le_of_ble_eq_true rfl)
  rw [lg_entry_eq]
  generalize (lg_sl ([.ref q0, .int x0, .int x1, .int x2]) ++ List.replicate (5 - (lg_sl ([.ref q0, .int x0, .int x1, .int x2])).length) Slot.unset).toArray = ls at hl ⊢
  have hl : lv_has ls 5 [(0, .ref q0), (1, .int x0), (2, .int x1), (3, .int x2)] := hl
  obtain ⟨Q, hQ⟩ := nm_ex (MQ below (QI D C (oTM q0 qn0 qk0 qr0 qc0 qt0 qd0 qs0 qf0 qw0 rowCount anyKept (oPort C qn0 qn1 qn2 qn3 qn4 qn5 qn6 now (oPort C qr0 qr1 qr2 qr3 qr4 qr5 qr6 trial []))) (oTM q0 qn0 qk0 qr0 qc0 qt0 qd0 qs0 qf0 qw0 rowCount anyKept (oPort C qn0 qn1 qn2 qn3 qn4 qn5 qn6 now (oPort C qr0 qr1 qr2 qr3 qr4 qr5 qr6 (trial') []))) s.heap.size r) (List.toArray [Value.ref q0, Value.int x0, Value.int x1, Value.int x2]) s 0 0 A)
  show W p l e (headSpec wsX5_inkFor (rmX5_inkFor)).room s m (List.toArray [Value.ref q0, Value.int x0, Value.int x1, Value.int x2]) below meth c s.heap [] 0 0 (MQ below (QI D C (oTM q0 qn0 qk0 qr0 qc0 qt0 qd0 qs0 qf0 qw0 rowCount anyKept (oPort C qn0 qn1 qn2 qn3 qn4 qn5 qn6 now (oPort C qr0 qr1 qr2 qr3 qr4 qr5 qr6 trial []))) (oTM q0 qn0 qk0 qr0 qc0 qt0 qd0 qs0 qf0 qw0 rowCount anyKept (oPort C qn0 qn1 qn2 qn3 qn4 qn5 qn6 now (oPort C qr0 qr1 qr2 qr3 qr4 qr5 qr6 (trial') []))) s.heap.size r) (List.toArray [Value.ref q0, Value.int x0, Value.int x1, Value.int x2]) s 0 0 A) _
  rw [← hQ]
  unfold f_X5_inkFor at hf
  have main : ∀ (H : Heap) (locs : List Loc), va_P D vwCl (oTM q0 qn0 qk0 qr0 qc0 qt0 qd0 qs0 qf0 qw0 rowCount anyKept (oPort C qn0 qn1 qn2 qn3 qn4 qn5 qn6 now (oPort C qr0 qr1 qr2 qr3 qr4 qr5 qr6 trial []))) H → va_D A (oTM q0 qn0 qk0 qr0 qc0 qt0 qd0 qs0 qf0 qw0 rowCount anyKept (oPort C qn0 qn1 qn2 qn3 qn4 qn5 qn6 now (oPort C qr0 qr1 qr2 qr3 qr4 qr5 qr6 trial []))) → va_S A s.heap H locs → W p l e (headSpec wsX5_inkFor (rmX5_inkFor)).room s m (List.toArray [Value.ref q0, Value.int x0, Value.int x1, Value.int x2]) below meth c H locs 0 0 Q (F0 m 0 ls []) := by
    intro H locs hP hD hS
    refine lv_aload_n hx hb dX5_inkFor_0 rfl (lv_at hl 0 rfl) ?_
    refine lv_iload_n hx hb dX5_inkFor_1 rfl (lv_at hl 1 rfl) ?_
    refine lv_iload_n hx hb dX5_inkFor_2 rfl (lv_at hl 2 rfl) ?_
    refine lv_iload_n hx hb dX5_inkFor_3 rfl (lv_at hl 3 rfl) ?_
    refine kcz (Wx := (oTM q0 qn0 qk0 qr0 qc0 qt0 qd0 qs0 qf0 qw0 rowCount anyKept (oPort C qn0 qn1 qn2 qn3 qn4 qn5 qn6 now (oPort C qr0 qr1 qr2 qr3 qr4 qr5 qr6 trial [])))) (va_runV (As := [.int x0, .int x1, .int x2]) (rest := []) ⟨hx, hb, hml, hown, hts⟩ (c_X5_isWish l E D C q0 qn0 qk0 qr0 qc0 qt0 qd0 qs0 qf0 qw0 qn1 qn2 qn3 qn4 qn5 qn6 H.size rowCount anyKept now x0 x1 x2 _ rfl) (cwV 3 hts gX5_inkFor_X5_isWish rfl rfl rfl hdX5_isWish ⟨Nat.le_of_ble_eq_true rfl, Nat.le_of_ble_eq_true rfl⟩) (kpreV hP hD hK hS hE hA [0, 1, 2, 3, 4, 5, 6, 7] rfl rfl 0 rfl rfl rfl) rfl rfl hl.1 rfl (lv_room (Nat.le_of_ble_eq_true rfl)) dX5_inkFor_4 ⟨Nat.zero_le _, Nat.zero_le _⟩) hP hD hS hA [0, 1, 2, 3, 4, 5, 6, 7] rfl rfl rfl (fun H locs hz1 hP hD hS => ?_)
    refine lv_if_ne (tgt := 12) hx hb dX5_inkFor_7 (by decide) (fun c2 => ?_) (fun c2 => ?_)
    · replace hf := if_fe c2 hf
      refine lv_iconst (v := 0) hx hb dX5_inkFor_12 rfl ?_
      refine lv_istore (lv' := [(4, .int 0), (0, .ref q0), (1, .int x0), (2, .int x1), (3, .int x2)]) hx hb dX5_inkFor_13 hl (by decide) rfl (fun ls hl => ?_)
      have hL15 : ∀ (n : Nat) (i3 : Int32) (v4 : PV) (H : Heap) (locs : List Loc) (ls : Array Slot), va_P D vwCl (oTM q0 qn0 qk0 qr0 qc0 qt0 qd0 qs0 qf0 qw0 rowCount anyKept (oPort C qn0 qn1 qn2 qn3 qn4 qn5 qn6 now (oPort C qr0 qr1 qr2 qr3 qr4 qr5 qr6 v4 []))) H → va_D A (oTM q0 qn0 qk0 qr0 qc0 qt0 qd0 qs0 qf0 qw0 rowCount anyKept (oPort C qn0 qn1 qn2 qn3 qn4 qn5 qn6 now (oPort C qr0 qr1 qr2 qr3 qr4 qr5 qr6 v4 []))) → va_S A s.heap H locs → lv_has ls 5 [(4, .int i3), (0, .ref q0), (1, .int x0), (2, .int x1), (3, .int x2)] → f_X5_inkFor_L15 N now x0 x1 x2 n i3 v4 = some (r, trial') → W p l e (headSpec wsX5_inkFor (rmX5_inkFor)).room s m (List.toArray [Value.ref q0, Value.int x0, Value.int x1, Value.int x2]) below meth c H locs 0 0 Q (F0 m 15 ls []) := by
        intro n
        induction n with
        | zero =>
          intro i3 v4 H locs ls hP hD hS hl hf
          exact absurd hf (fun h => by cases h)
        | succ n ih =>
          intro i3 v4 H locs ls hP hD hS hl hf
          rw [f_X5_inkFor_L15] at hf
          refine lv_iload hx hb dX5_inkFor_15 (lv_at hl 0 rfl) ?_
          refine lv_bipush (v := 99) hx hb dX5_inkFor_17 rfl ?_
          refine lv_icmp_gt (tgt := 66) hx hb dX5_inkFor_19 (by decide) (fun c5 => ?_) (fun c5 => ?_)
          · replace hf := if_te c5 hf
            refine lv_bipush (v := (-3)) hx hb dX5_inkFor_66 rfl ?_
            cases hf
            exact kri hQ hAe hx hb hr hlocks hP hD hK hS dX5_inkFor_68
          · replace hf := if_fe c5 hf
            refine lv_aload_n hx hb dX5_inkFor_22 rfl (lv_at hl 1 rfl) ?_
            refine va_get (D := D) (ci := 5) (v := .ref qr0) (C := RX5) (T := TX5) (N := 11) hx hb hts hi_RX5 hown hK hP 0 rfl rfl 2 (by decide) (hts (.fieldLink RX5 19 "TravelMarks" "trial" "LTravelMarks$Port;") (List.mem_of_getElem? (i := 1) rfl)) (fun _ h9 => h9) rfl dX5_inkFor_23 ?_
            refine lv_aload_n hx hb dX5_inkFor_26 rfl (lv_at hl 1 rfl) ?_
            refine va_get (D := D) (ci := 5) (v := .ref qn0) (C := RX5) (T := TX5) (N := 11) hx hb hts hi_RX5 hown hK hP 0 rfl rfl 0 (by decide) (hts (.fieldLink RX5 10 "TravelMarks" "now" "LTravelMarks$Port;") (List.mem_of_getElem? (i := 2) rfl)) (fun _ h9 => h9) rfl dX5_inkFor_27 ?_
            obtain ⟨v6, h7, hf⟩ := ob1_e hf
            refine kcv (Wx := (oTM q0 qn0 qk0 qr0 qc0 qt0 qd0 qs0 qf0 qw0 rowCount anyKept (oPort C qn0 qn1 qn2 qn3 qn4 qn5 qn6 now (oPort C qr0 qr1 qr2 qr3 qr4 qr5 qr6 v6 [])))) (va_runV (As := [.ref qn0]) (rest := []) ⟨hx, hb, hml, hown, hts⟩ (c_X1_become l E D C qr0 qr1 qr2 qr3 qr4 qr5 qr6 qn0 qn1 qn2 qn3 qn4 qn5 qn6 H.size v4 now v6 h7) (cwV 1 hts gX5_inkFor_X1_become rfl rfl rfl hdX1_become ⟨Nat.le_of_ble_eq_true rfl, Nat.le_of_ble_eq_true rfl⟩) (kpreV hP hD hK hS hE hA [8, 9, 10, 11, 12, 13, 14, 1, 2, 3, 4, 5, 6, 7] rfl rfl 8 rfl rfl rfl) rfl rfl hl.1 rfl (lv_room (Nat.le_of_ble_eq_true rfl)) dX5_inkFor_30 ⟨Nat.zero_le _, Nat.zero_le _⟩) hP hD hS hA [8, 9, 10, 11, 12, 13, 14, 1, 2, 3, 4, 5, 6, 7] rfl rfl rfl (fun H locs hP hD hS => ?_)
            refine lv_aload_n hx hb dX5_inkFor_33 rfl (lv_at hl 1 rfl) ?_
            refine va_get (D := D) (ci := 5) (v := .ref qr0) (C := RX5) (T := TX5) (N := 11) hx hb hts hi_RX5 hown hK hP 0 rfl rfl 2 (by decide) (hts (.fieldLink RX5 19 "TravelMarks" "trial" "LTravelMarks$Port;") (List.mem_of_getElem? (i := 1) rfl)) (fun _ h9 => h9) rfl dX5_inkFor_34 ?_
            refine va_get (D := D) (ci := 1) (v := .ref qr3) (C := RX1) (T := TX1) (N := 10) hx hb hts hi_RX1 hown hK hP 8 rfl rfl 2 (by decide) (hts (.fieldLink RX5 117 "TravelMarks$Port" "ink" "[I") (List.mem_of_getElem? (i := 3) rfl)) (fun _ h9 => h9) rfl dX5_inkFor_37 ?_
            refine lv_iload_n hx hb dX5_inkFor_40 rfl (lv_at hl 2 rfl) ?_
            refine lv_iload hx hb dX5_inkFor_41 (lv_at hl 0 rfl) ?_
            obtain ⟨hi8, hf⟩ := ckA_e hf
            refine va_iast hx hb hK hP hD hS 11 0 rfl rfl hi8 dX5_inkFor_43 (fun H locs hP hD hS => ?_)
            obtain ⟨v9, ev9, hf⟩ := lj_e hf
            have hP : va_P D vwCl (oTM q0 qn0 qk0 qr0 qc0 qt0 qd0 qs0 qf0 qw0 rowCount anyKept (oPort C qn0 qn1 qn2 qn3 qn4 qn5 qn6 now (oPort C qr0 qr1 qr2 qr3 qr4 qr5 qr6 v9 []))) H := by rw [ev9]; exact hP
            have hD : va_D A (oTM q0 qn0 qk0 qr0 qc0 qt0 qd0 qs0 qf0 qw0 rowCount anyKept (oPort C qn0 qn1 qn2 qn3 qn4 qn5 qn6 now (oPort C qr0 qr1 qr2 qr3 qr4 qr5 qr6 v9 []))) := by rw [ev9]; exact hD
            refine lv_aload_n hx hb dX5_inkFor_44 rfl (lv_at hl 1 rfl) ?_
            refine va_get (D := D) (ci := 5) (v := .ref qr0) (C := RX5) (T := TX5) (N := 11) hx hb hts hi_RX5 hown hK hP 0 rfl rfl 2 (by decide) (hts (.fieldLink RX5 19 "TravelMarks" "trial" "LTravelMarks$Port;") (List.mem_of_getElem? (i := 1) rfl)) (fun _ h9 => h9) rfl dX5_inkFor_45 ?_
            refine lv_iload_n hx hb dX5_inkFor_48 rfl (lv_at hl 2 rfl) ?_
            refine lv_iload_n hx hb dX5_inkFor_49 rfl (lv_at hl 3 rfl) ?_
            refine lv_iload_n hx hb dX5_inkFor_50 rfl (lv_at hl 4 rfl) ?_
            obtain ⟨r10, v11, h12, hf⟩ := ob2_e hf
            refine kci (Wx := (oTM q0 qn0 qk0 qr0 qc0 qt0 qd0 qs0 qf0 qw0 rowCount anyKept (oPort C qn0 qn1 qn2 qn3 qn4 qn5 qn6 now (oPort C qr0 qr1 qr2 qr3 qr4 qr5 qr6 v11 [])))) (va_runV (As := [.int x0, .int x1, .int x2]) (rest := []) ⟨hx, hb, hml, hown, hts⟩ (c_X1_hoursUntilOn l E D C qr0 qr1 qr2 qr3 qr4 qr5 qr6 H.size N v9 x0 x1 x2 r10 v11 h12) (cwV 3 hts gX5_inkFor_X1_hoursUntilOn rfl rfl rfl hdX1_hoursUntilOn ⟨Nat.le_of_ble_eq_true rfl, Nat.le_of_ble_eq_true rfl⟩) (kpreV hP hD hK hS hE hA [8, 9, 10, 11, 12, 13, 14] rfl rfl 8 rfl rfl rfl) rfl rfl hl.1 rfl (lv_room (Nat.le_of_ble_eq_true rfl)) dX5_inkFor_51 ⟨Nat.zero_le _, Nat.zero_le _⟩) hP hD hS hA [8, 9, 10, 11, 12, 13, 14] rfl rfl rfl (fun H locs hP hD hS => ?_)
            refine lv_if_lt (tgt := 60) hx hb dX5_inkFor_54 (by decide) (fun c13 => ?_) (fun c13 => ?_)
            · replace hf := if_te c13 hf
              obtain ⟨t14, et14, hf⟩ := lj_e hf
              refine lv_iinc (v := t14) (lv' := [(4, .int t14), (0, .ref q0), (1, .int x0), (2, .int x1), (3, .int x2)]) hx hb dX5_inkFor_60 hl (k := 0) rfl (by rw [et14]; rfl) (by decide) rfl (fun ls hl => ?_)
              refine lv_goto (tgt := 15) hx hb dX5_inkFor_63 (by decide) ?_
              exact ih t14 v11 H locs ls hP hD hS (lv_sub hl [0, 1, 2, 3, 4] rfl) hf
            · replace hf := if_fe c13 hf
              refine lv_iload hx hb dX5_inkFor_57 (lv_at hl 0 rfl) ?_
              cases hf
              exact kri hQ hAe hx hb hr hlocks hP hD hK hS dX5_inkFor_59
      exact hL15 N 0 trial H locs ls hP hD hS (lv_sub hl [0, 1, 2, 3, 4] rfl) hf
    · replace hf := if_te c2 hf
      refine lv_iconst (v := (-1)) hx hb dX5_inkFor_10 rfl ?_
      cases hf
      exact kri hQ hAe hx hb hr hlocks hP hD hK hS dX5_inkFor_11
  exact main _ _ hP hD hS

def rmX5_hoursByTouch : Room := { frames := 5, cells := 0, slots := 0, locals := 115 }
theorem hdX5_hoursByTouch : yX5_hoursByTouch.cls = RX5 ∧ yX5_hoursByTouch.cls ≠ "java/lang/invoke/MethodHandle" ∧ yX5_hoursByTouch.cls ≠ "java/lang/invoke/VarHandle" ∧ (parseMethodDescriptor yX5_hoursByTouch.desc).map (fun d => d.parameters.length) = some 6 := by decide +kernel
set_option maxHeartbeats 40000000 in
set_option maxRecDepth 100000 in
theorem c_X5_hoursByTouch (l : Launch) (E : Nat → Nat) (D : va_G) (C : Nat → ClassId) (q0 qn0 qk0 qr0 qc0 qt0 qd0 qs0 qf0 qw0 qn1 qn2 qn3 qn4 qn5 qn6 qr1 qr2 qr3 qr4 qr5 qr6 : Nat) (sz : Nat) (N : Nat) (rowCount : Int32) (anyKept : Int32) (now : PV) (trial : PV) (x0 : Int32) (x1 : Int32) (x2 : Int32) (x3 : Int32) (x4 : Int32) (x5 : Int32) (r : Int32) (trial' : PV) (hf : f_X5_hoursByTouch N now trial x0 x1 x2 x3 x4 x5 = some (r, trial')) : Met l yX5_hoursByTouch wsX5_hoursByTouch rmX5_hoursByTouch (PC E D C [.ref q0, .int x0, .int x1, .int x2, .int x3, .int x4, .int x5] (oTM q0 qn0 qk0 qr0 qc0 qt0 qd0 qs0 qf0 qw0 rowCount anyKept (oPort C qn0 qn1 qn2 qn3 qn4 qn5 qn6 now (oPort C qr0 qr1 qr2 qr3 qr4 qr5 qr6 trial []))) sz) (QI D C (oTM q0 qn0 qk0 qr0 qc0 qt0 qd0 qs0 qf0 qw0 rowCount anyKept (oPort C qn0 qn1 qn2 qn3 qn4 qn5 qn6 now (oPort C qr0 qr1 qr2 qr3 qr4 qr5 qr6 trial []))) (oTM q0 qn0 qk0 qr0 qc0 qt0 qd0 qs0 qf0 qw0 rowCount anyKept (oPort C qn0 qn1 qn2 qn3 qn4 qn5 qn6 now (oPort C qr0 qr1 qr2 qr3 qr4 qr5 qr6 (trial') []))) sz r) 0 0 (va_A (oTM q0 qn0 qk0 qr0 qc0 qt0 qd0 qs0 qf0 qw0 rowCount anyKept (oPort C qn0 qn1 qn2 qn3 qn4 qn5 qn6 now (oPort C qr0 qr1 qr2 qr3 qr4 qr5 qr6 trial []))) sz) := by
  refine Met.ofW (cc := cX5_hoursByTouch) (maxL := 7) (ret := (some .int)) (by decide) rfl ?_
  intro p e s m args below meth c s₁ B hml hv
  obtain ⟨rfl, hsz, hP, hK, hD0, hE⟩ := hv
  have hx := B.exec
  have hb := B.bytes
  have hr := B.returns
  have hts := atoms_spec (ws := wsX5_hoursByTouch) B.pre
  have hown : s.vm.findClass RX5 = some m.cls := findClass_of_methodNamed B.named
  have hlocks := B.notSynchronized
  subst hsz
  have hi_RX5 : ∀ w ∈ wsX50, w ∈ wsX5_hoursByTouch := fun _ h => List.mem_cons_of_mem _ (List.mem_append_left _ (List.mem_append_right _ h))
  have hD := hD0.self (sz := s.heap.size)
  obtain ⟨A, hAe⟩ := nm_ex (va_A (oTM q0 qn0 qk0 qr0 qc0 qt0 qd0 qs0 qf0 qw0 rowCount anyKept (oPort C qn0 qn1 qn2 qn3 qn4 qn5 qn6 now (oPort C qr0 qr1 qr2 qr3 qr4 qr5 qr6 trial []))) s.heap.size)
  rw [← hAe] at hD hE ⊢
  have hA : ∀ q : Nat, s.heap.size ≤ q → A q := fun q h => by rw [hAe]; exact Or.inr h
  have hS : va_S A s.heap s.heap [] := va_S.rf
  have hl := lv_entry ([.ref q0, .int x0, .int x1, .int x2, .int x3, .int x4, .int x5]) (n := 7) (Nat.le_of_ble_eq_true rfl)
  rw [lg_entry_eq]
  generalize (lg_sl ([.ref q0, .int x0, .int x1, .int x2, .int x3, .int x4, .int x5]) ++ List.replicate (7 - (lg_sl ([.ref q0, .int x0, .int x1, .int x2, .int x3, .int x4, .int x5])).length) Slot.unset).toArray = ls at hl ⊢
  have hl : lv_has ls 7 [(0, .ref q0), (1, .int x0), (2, .int x1), (3, .int x2), (4, .int x3), (5, .int x4), (6, .int x5)] := hl
  obtain ⟨Q, hQ⟩ := nm_ex (MQ below (QI D C (oTM q0 qn0 qk0 qr0 qc0 qt0 qd0 qs0 qf0 qw0 rowCount anyKept (oPort C qn0 qn1 qn2 qn3 qn4 qn5 qn6 now (oPort C qr0 qr1 qr2 qr3 qr4 qr5 qr6 trial []))) (oTM q0 qn0 qk0 qr0 qc0 qt0 qd0 qs0 qf0 qw0 rowCount anyKept (oPort C qn0 qn1 qn2 qn3 qn4 qn5 qn6 now (oPort C qr0 qr1 qr2 qr3 qr4 qr5 qr6 (trial') []))) s.heap.size r) (List.toArray [Value.ref q0, Value.int x0, Value.int x1, Value.int x2, Value.int x3, Value.int x4, Value.int x5]) s 0 0 A)
  show W p l e (headSpec wsX5_hoursByTouch (rmX5_hoursByTouch)).room s m (List.toArray [Value.ref q0, Value.int x0, Value.int x1, Value.int x2, Value.int x3, Value.int x4, Value.int x5]) below meth c s.heap [] 0 0 (MQ below (QI D C (oTM q0 qn0 qk0 qr0 qc0 qt0 qd0 qs0 qf0 qw0 rowCount anyKept (oPort C qn0 qn1 qn2 qn3 qn4 qn5 qn6 now (oPort C qr0 qr1 qr2 qr3 qr4 qr5 qr6 trial []))) (oTM q0 qn0 qk0 qr0 qc0 qt0 qd0 qs0 qf0 qw0 rowCount anyKept (oPort C qn0 qn1 qn2 qn3 qn4 qn5 qn6 now (oPort C qr0 qr1 qr2 qr3 qr4 qr5 qr6 (trial') []))) s.heap.size r) (List.toArray [Value.ref q0, Value.int x0, Value.int x1, Value.int x2, Value.int x3, Value.int x4, Value.int x5]) s 0 0 A) _
  rw [← hQ]
  unfold f_X5_hoursByTouch at hf
  have main : ∀ (H : Heap) (locs : List Loc), va_P D vwCl (oTM q0 qn0 qk0 qr0 qc0 qt0 qd0 qs0 qf0 qw0 rowCount anyKept (oPort C qn0 qn1 qn2 qn3 qn4 qn5 qn6 now (oPort C qr0 qr1 qr2 qr3 qr4 qr5 qr6 trial []))) H → va_D A (oTM q0 qn0 qk0 qr0 qc0 qt0 qd0 qs0 qf0 qw0 rowCount anyKept (oPort C qn0 qn1 qn2 qn3 qn4 qn5 qn6 now (oPort C qr0 qr1 qr2 qr3 qr4 qr5 qr6 trial []))) → va_S A s.heap H locs → W p l e (headSpec wsX5_hoursByTouch (rmX5_hoursByTouch)).room s m (List.toArray [Value.ref q0, Value.int x0, Value.int x1, Value.int x2, Value.int x3, Value.int x4, Value.int x5]) below meth c H locs 0 0 Q (F0 m 0 ls []) := by
    intro H locs hP hD hS
    refine lv_aload_n hx hb dX5_hoursByTouch_0 rfl (lv_at hl 0 rfl) ?_
    refine va_get (D := D) (ci := 5) (v := .ref qr0) (C := RX5) (T := TX5) (N := 11) hx hb hts hi_RX5 hown hK hP 0 rfl rfl 2 (by decide) (hts (.fieldLink RX5 19 "TravelMarks" "trial" "LTravelMarks$Port;") (List.mem_of_getElem? (i := 1) rfl)) (fun _ h9 => h9) rfl dX5_hoursByTouch_1 ?_
    refine lv_aload_n hx hb dX5_hoursByTouch_4 rfl (lv_at hl 0 rfl) ?_
    refine va_get (D := D) (ci := 5) (v := .ref qn0) (C := RX5) (T := TX5) (N := 11) hx hb hts hi_RX5 hown hK hP 0 rfl rfl 0 (by decide) (hts (.fieldLink RX5 10 "TravelMarks" "now" "LTravelMarks$Port;") (List.mem_of_getElem? (i := 2) rfl)) (fun _ h9 => h9) rfl dX5_hoursByTouch_5 ?_
    obtain ⟨v1, h2, hf⟩ := ob1_e hf
    refine kcv (Wx := (oTM q0 qn0 qk0 qr0 qc0 qt0 qd0 qs0 qf0 qw0 rowCount anyKept (oPort C qn0 qn1 qn2 qn3 qn4 qn5 qn6 now (oPort C qr0 qr1 qr2 qr3 qr4 qr5 qr6 v1 [])))) (va_runV (As := [.ref qn0]) (rest := []) ⟨hx, hb, hml, hown, hts⟩ (c_X1_become l E D C qr0 qr1 qr2 qr3 qr4 qr5 qr6 qn0 qn1 qn2 qn3 qn4 qn5 qn6 H.size trial now v1 h2) (cwV 1 hts gX5_hoursByTouch_X1_become rfl rfl rfl hdX1_become ⟨Nat.le_of_ble_eq_true rfl, Nat.le_of_ble_eq_true rfl⟩) (kpreV hP hD hK hS hE hA [8, 9, 10, 11, 12, 13, 14, 1, 2, 3, 4, 5, 6, 7] rfl rfl 8 rfl rfl rfl) rfl rfl hl.1 rfl (lv_room (Nat.le_of_ble_eq_true rfl)) dX5_hoursByTouch_8 ⟨Nat.zero_le _, Nat.zero_le _⟩) hP hD hS hA [8, 9, 10, 11, 12, 13, 14, 1, 2, 3, 4, 5, 6, 7] rfl rfl rfl (fun H locs hP hD hS => ?_)
    refine lv_aload_n hx hb dX5_hoursByTouch_11 rfl (lv_at hl 0 rfl) ?_
    refine va_get (D := D) (ci := 5) (v := .ref qr0) (C := RX5) (T := TX5) (N := 11) hx hb hts hi_RX5 hown hK hP 0 rfl rfl 2 (by decide) (hts (.fieldLink RX5 19 "TravelMarks" "trial" "LTravelMarks$Port;") (List.mem_of_getElem? (i := 1) rfl)) (fun _ h9 => h9) rfl dX5_hoursByTouch_12 ?_
    refine lv_iload hx hb dX5_hoursByTouch_15 (lv_at hl 4 rfl) ?_
    refine lv_iload hx hb dX5_hoursByTouch_17 (lv_at hl 5 rfl) ?_
    refine lv_iload hx hb dX5_hoursByTouch_19 (lv_at hl 6 rfl) ?_
    obtain ⟨v3, h4, hf⟩ := ob1_e hf
    refine kcv (Wx := (oTM q0 qn0 qk0 qr0 qc0 qt0 qd0 qs0 qf0 qw0 rowCount anyKept (oPort C qn0 qn1 qn2 qn3 qn4 qn5 qn6 now (oPort C qr0 qr1 qr2 qr3 qr4 qr5 qr6 v3 [])))) (va_runV (As := [.int x3, .int x4, .int x5]) (rest := []) ⟨hx, hb, hml, hown, hts⟩ (c_X1_join l E D C qr0 qr1 qr2 qr3 qr4 qr5 qr6 H.size v1 x3 x4 x5 v3 h4) (cwV 3 hts gX5_hoursByTouch_X1_join rfl rfl rfl hdX1_join ⟨Nat.le_of_ble_eq_true rfl, Nat.le_of_ble_eq_true rfl⟩) (kpreV hP hD hK hS hE hA [8, 9, 10, 11, 12, 13, 14] rfl rfl 8 rfl rfl rfl) rfl rfl hl.1 rfl (lv_room (Nat.le_of_ble_eq_true rfl)) dX5_hoursByTouch_21 ⟨Nat.zero_le _, Nat.zero_le _⟩) hP hD hS hA [8, 9, 10, 11, 12, 13, 14] rfl rfl rfl (fun H locs hP hD hS => ?_)
    refine lv_aload_n hx hb dX5_hoursByTouch_24 rfl (lv_at hl 0 rfl) ?_
    refine va_get (D := D) (ci := 5) (v := .ref qr0) (C := RX5) (T := TX5) (N := 11) hx hb hts hi_RX5 hown hK hP 0 rfl rfl 2 (by decide) (hts (.fieldLink RX5 19 "TravelMarks" "trial" "LTravelMarks$Port;") (List.mem_of_getElem? (i := 1) rfl)) (fun _ h9 => h9) rfl dX5_hoursByTouch_25 ?_
    refine lv_iload_n hx hb dX5_hoursByTouch_28 rfl (lv_at hl 1 rfl) ?_
    refine lv_iload_n hx hb dX5_hoursByTouch_29 rfl (lv_at hl 2 rfl) ?_
    refine lv_iload_n hx hb dX5_hoursByTouch_30 rfl (lv_at hl 3 rfl) ?_
    obtain ⟨r5, v6, h7, hf⟩ := ob2_e hf
    refine kci (Wx := (oTM q0 qn0 qk0 qr0 qc0 qt0 qd0 qs0 qf0 qw0 rowCount anyKept (oPort C qn0 qn1 qn2 qn3 qn4 qn5 qn6 now (oPort C qr0 qr1 qr2 qr3 qr4 qr5 qr6 v6 [])))) (va_runV (As := [.int x0, .int x1, .int x2]) (rest := []) ⟨hx, hb, hml, hown, hts⟩ (c_X1_hoursUntilOn l E D C qr0 qr1 qr2 qr3 qr4 qr5 qr6 H.size N v3 x0 x1 x2 r5 v6 h7) (cwV 3 hts gX5_hoursByTouch_X1_hoursUntilOn rfl rfl rfl hdX1_hoursUntilOn ⟨Nat.le_of_ble_eq_true rfl, Nat.le_of_ble_eq_true rfl⟩) (kpreV hP hD hK hS hE hA [8, 9, 10, 11, 12, 13, 14] rfl rfl 8 rfl rfl rfl) rfl rfl hl.1 rfl (lv_room (Nat.le_of_ble_eq_true rfl)) dX5_hoursByTouch_31 ⟨Nat.zero_le _, Nat.zero_le _⟩) hP hD hS hA [8, 9, 10, 11, 12, 13, 14] rfl rfl rfl (fun H locs hP hD hS => ?_)
    cases hf
    exact kri hQ hAe hx hb hr hlocks hP hD hK hS dX5_hoursByTouch_34
  exact main _ _ hP hD hS

def rmX5_touchFor : Room := { frames := 6, cells := 0, slots := 0, locals := 141 }
theorem hdX5_touchFor : yX5_touchFor.cls = RX5 ∧ yX5_touchFor.cls ≠ "java/lang/invoke/MethodHandle" ∧ yX5_touchFor.cls ≠ "java/lang/invoke/VarHandle" ∧ (parseMethodDescriptor yX5_touchFor.desc).map (fun d => d.parameters.length) = some 3 := by decide +kernel
set_option maxHeartbeats 40000000 in
set_option maxRecDepth 100000 in
theorem c_X5_touchFor (l : Launch) (E : Nat → Nat) (D : va_G) (C : Nat → ClassId) (q0 qn0 qk0 qr0 qc0 qt0 qd0 qs0 qf0 qw0 qn1 qn2 qn3 qn4 qn5 qn6 qr1 qr2 qr3 qr4 qr5 qr6 : Nat) (sz : Nat) (N : Nat) (rowCount : Int32) (anyKept : Int32) (now : PV) (trial : PV) (x0 : Int32) (x1 : Int32) (x2 : Int32) (r : Int32) (trial' : PV) (hf : f_X5_touchFor N now trial x0 x1 x2 = some (r, trial')) : Met l yX5_touchFor wsX5_touchFor rmX5_touchFor (PC E D C [.ref q0, .int x0, .int x1, .int x2] (oTM q0 qn0 qk0 qr0 qc0 qt0 qd0 qs0 qf0 qw0 rowCount anyKept (oPort C qn0 qn1 qn2 qn3 qn4 qn5 qn6 now (oPort C qr0 qr1 qr2 qr3 qr4 qr5 qr6 trial []))) sz) (QI D C (oTM q0 qn0 qk0 qr0 qc0 qt0 qd0 qs0 qf0 qw0 rowCount anyKept (oPort C qn0 qn1 qn2 qn3 qn4 qn5 qn6 now (oPort C qr0 qr1 qr2 qr3 qr4 qr5 qr6 trial []))) (oTM q0 qn0 qk0 qr0 qc0 qt0 qd0 qs0 qf0 qw0 rowCount anyKept (oPort C qn0 qn1 qn2 qn3 qn4 qn5 qn6 now (oPort C qr0 qr1 qr2 qr3 qr4 qr5 qr6 (trial') []))) sz r) 0 0 (va_A (oTM q0 qn0 qk0 qr0 qc0 qt0 qd0 qs0 qf0 qw0 rowCount anyKept (oPort C qn0 qn1 qn2 qn3 qn4 qn5 qn6 now (oPort C qr0 qr1 qr2 qr3 qr4 qr5 qr6 trial []))) sz) := by
  refine Met.ofW (cc := cX5_touchFor) (maxL := 12) (ret := (some .int)) (by decide) rfl ?_
  intro p e s m args below meth c s₁ B hml hv
  obtain ⟨rfl, hsz, hP, hK, hD0, hE⟩ := hv
  have hx := B.exec
  have hb := B.bytes
  have hr := B.returns
  have hts := atoms_spec (ws := wsX5_touchFor) B.pre
  have hown : s.vm.findClass RX5 = some m.cls := findClass_of_methodNamed B.named
  have hlocks := B.notSynchronized
  subst hsz
  have hi_RX5 : ∀ w ∈ wsX50, w ∈ wsX5_touchFor := fun _ h => List.mem_cons_of_mem _ (List.mem_append_left _ (List.mem_append_right _ h))
  have hD := hD0.self (sz := s.heap.size)
  obtain ⟨A, hAe⟩ := nm_ex (va_A (oTM q0 qn0 qk0 qr0 qc0 qt0 qd0 qs0 qf0 qw0 rowCount anyKept (oPort C qn0 qn1 qn2 qn3 qn4 qn5 qn6 now (oPort C qr0 qr1 qr2 qr3 qr4 qr5 qr6 trial []))) s.heap.size)
  rw [← hAe] at hD hE ⊢
  have hA : ∀ q : Nat, s.heap.size ≤ q → A q := fun q h => by rw [hAe]; exact Or.inr h
  have hS : va_S A s.heap s.heap [] := va_S.rf
  have hl := lv_entry ([.ref q0, .int x0, .int x1, .int x2]) (n := 12) (Nat.le_of_ble_eq_true rfl)
  rw [lg_entry_eq]
  generalize (lg_sl ([.ref q0, .int x0, .int x1, .int x2]) ++ List.replicate (12 - (lg_sl ([.ref q0, .int x0, .int x1, .int x2])).length) Slot.unset).toArray = ls at hl ⊢
  have hl : lv_has ls 12 [(0, .ref q0), (1, .int x0), (2, .int x1), (3, .int x2)] := hl
  obtain ⟨Q, hQ⟩ := nm_ex (MQ below (QI D C (oTM q0 qn0 qk0 qr0 qc0 qt0 qd0 qs0 qf0 qw0 rowCount anyKept (oPort C qn0 qn1 qn2 qn3 qn4 qn5 qn6 now (oPort C qr0 qr1 qr2 qr3 qr4 qr5 qr6 trial []))) (oTM q0 qn0 qk0 qr0 qc0 qt0 qd0 qs0 qf0 qw0 rowCount anyKept (oPort C qn0 qn1 qn2 qn3 qn4 qn5 qn6 now (oPort C qr0 qr1 qr2 qr3 qr4 qr5 qr6 (trial') []))) s.heap.size r) (List.toArray [Value.ref q0, Value.int x0, Value.int x1, Value.int x2]) s 0 0 A)
  show W p l e (headSpec wsX5_touchFor (rmX5_touchFor)).room s m (List.toArray [Value.ref q0, Value.int x0, Value.int x1, Value.int x2]) below meth c s.heap [] 0 0 (MQ below (QI D C (oTM q0 qn0 qk0 qr0 qc0 qt0 qd0 qs0 qf0 qw0 rowCount anyKept (oPort C qn0 qn1 qn2 qn3 qn4 qn5 qn6 now (oPort C qr0 qr1 qr2 qr3 qr4 qr5 qr6 trial []))) (oTM q0 qn0 qk0 qr0 qc0 qt0 qd0 qs0 qf0 qw0 rowCount anyKept (oPort C qn0 qn1 qn2 qn3 qn4 qn5 qn6 now (oPort C qr0 qr1 qr2 qr3 qr4 qr5 qr6 (trial') []))) s.heap.size r) (List.toArray [Value.ref q0, Value.int x0, Value.int x1, Value.int x2]) s 0 0 A) _
  rw [← hQ]
  unfold f_X5_touchFor at hf
  have main : ∀ (H : Heap) (locs : List Loc), va_P D vwCl (oTM q0 qn0 qk0 qr0 qc0 qt0 qd0 qs0 qf0 qw0 rowCount anyKept (oPort C qn0 qn1 qn2 qn3 qn4 qn5 qn6 now (oPort C qr0 qr1 qr2 qr3 qr4 qr5 qr6 trial []))) H → va_D A (oTM q0 qn0 qk0 qr0 qc0 qt0 qd0 qs0 qf0 qw0 rowCount anyKept (oPort C qn0 qn1 qn2 qn3 qn4 qn5 qn6 now (oPort C qr0 qr1 qr2 qr3 qr4 qr5 qr6 trial []))) → va_S A s.heap H locs → W p l e (headSpec wsX5_touchFor (rmX5_touchFor)).room s m (List.toArray [Value.ref q0, Value.int x0, Value.int x1, Value.int x2]) below meth c H locs 0 0 Q (F0 m 0 ls []) := by
    intro H locs hP hD hS
    refine lv_aload_n hx hb dX5_touchFor_0 rfl (lv_at hl 0 rfl) ?_
    refine lv_iload_n hx hb dX5_touchFor_1 rfl (lv_at hl 1 rfl) ?_
    refine lv_iload_n hx hb dX5_touchFor_2 rfl (lv_at hl 2 rfl) ?_
    refine lv_iload_n hx hb dX5_touchFor_3 rfl (lv_at hl 3 rfl) ?_
    refine kcz (Wx := (oTM q0 qn0 qk0 qr0 qc0 qt0 qd0 qs0 qf0 qw0 rowCount anyKept (oPort C qn0 qn1 qn2 qn3 qn4 qn5 qn6 now (oPort C qr0 qr1 qr2 qr3 qr4 qr5 qr6 trial [])))) (va_runV (As := [.int x0, .int x1, .int x2]) (rest := []) ⟨hx, hb, hml, hown, hts⟩ (c_X5_isWish l E D C q0 qn0 qk0 qr0 qc0 qt0 qd0 qs0 qf0 qw0 qn1 qn2 qn3 qn4 qn5 qn6 H.size rowCount anyKept now x0 x1 x2 _ rfl) (cwV 3 hts gX5_touchFor_X5_isWish rfl rfl rfl hdX5_isWish ⟨Nat.le_of_ble_eq_true rfl, Nat.le_of_ble_eq_true rfl⟩) (kpreV hP hD hK hS hE hA [0, 1, 2, 3, 4, 5, 6, 7] rfl rfl 0 rfl rfl rfl) rfl rfl hl.1 rfl (lv_room (Nat.le_of_ble_eq_true rfl)) dX5_touchFor_4 ⟨Nat.zero_le _, Nat.zero_le _⟩) hP hD hS hA [0, 1, 2, 3, 4, 5, 6, 7] rfl rfl rfl (fun H locs hz1 hP hD hS => ?_)
    refine lv_if_ne (tgt := 12) hx hb dX5_touchFor_7 (by decide) (fun c2 => ?_) (fun c2 => ?_)
    · replace hf := if_fe c2 hf
      refine lv_aload_n hx hb dX5_touchFor_12 rfl (lv_at hl 0 rfl) ?_
      refine va_get (D := D) (ci := 5) (v := .ref qr0) (C := RX5) (T := TX5) (N := 11) hx hb hts hi_RX5 hown hK hP 0 rfl rfl 2 (by decide) (hts (.fieldLink RX5 19 "TravelMarks" "trial" "LTravelMarks$Port;") (List.mem_of_getElem? (i := 1) rfl)) (fun _ h9 => h9) rfl dX5_touchFor_13 ?_
      refine lv_aload_n hx hb dX5_touchFor_16 rfl (lv_at hl 0 rfl) ?_
      refine va_get (D := D) (ci := 5) (v := .ref qn0) (C := RX5) (T := TX5) (N := 11) hx hb hts hi_RX5 hown hK hP 0 rfl rfl 0 (by decide) (hts (.fieldLink RX5 10 "TravelMarks" "now" "LTravelMarks$Port;") (List.mem_of_getElem? (i := 2) rfl)) (fun _ h9 => h9) rfl dX5_touchFor_17 ?_
      obtain ⟨v3, h4, hf⟩ := ob1_e hf
      refine kcv (Wx := (oTM q0 qn0 qk0 qr0 qc0 qt0 qd0 qs0 qf0 qw0 rowCount anyKept (oPort C qn0 qn1 qn2 qn3 qn4 qn5 qn6 now (oPort C qr0 qr1 qr2 qr3 qr4 qr5 qr6 v3 [])))) (va_runV (As := [.ref qn0]) (rest := []) ⟨hx, hb, hml, hown, hts⟩ (c_X1_become l E D C qr0 qr1 qr2 qr3 qr4 qr5 qr6 qn0 qn1 qn2 qn3 qn4 qn5 qn6 H.size trial now v3 h4) (cwV 1 hts gX5_touchFor_X1_become rfl rfl rfl hdX1_become ⟨Nat.le_of_ble_eq_true rfl, Nat.le_of_ble_eq_true rfl⟩) (kpreV hP hD hK hS hE hA [8, 9, 10, 11, 12, 13, 14, 1, 2, 3, 4, 5, 6, 7] rfl rfl 8 rfl rfl rfl) rfl rfl hl.1 rfl (lv_room (Nat.le_of_ble_eq_true rfl)) dX5_touchFor_20 ⟨Nat.zero_le _, Nat.zero_le _⟩) hP hD hS hA [8, 9, 10, 11, 12, 13, 14, 1, 2, 3, 4, 5, 6, 7] rfl rfl rfl (fun H locs hP hD hS => ?_)
      refine lv_aload_n hx hb dX5_touchFor_23 rfl (lv_at hl 0 rfl) ?_
      refine va_get (D := D) (ci := 5) (v := .ref qr0) (C := RX5) (T := TX5) (N := 11) hx hb hts hi_RX5 hown hK hP 0 rfl rfl 2 (by decide) (hts (.fieldLink RX5 19 "TravelMarks" "trial" "LTravelMarks$Port;") (List.mem_of_getElem? (i := 1) rfl)) (fun _ h9 => h9) rfl dX5_touchFor_24 ?_
      refine lv_iload_n hx hb dX5_touchFor_27 rfl (lv_at hl 1 rfl) ?_
      refine lv_iload_n hx hb dX5_touchFor_28 rfl (lv_at hl 2 rfl) ?_
      refine lv_iload_n hx hb dX5_touchFor_29 rfl (lv_at hl 3 rfl) ?_
      obtain ⟨r5, v6, h7, hf⟩ := ob2_e hf
      refine kci (Wx := (oTM q0 qn0 qk0 qr0 qc0 qt0 qd0 qs0 qf0 qw0 rowCount anyKept (oPort C qn0 qn1 qn2 qn3 qn4 qn5 qn6 now (oPort C qr0 qr1 qr2 qr3 qr4 qr5 qr6 v6 [])))) (va_runV (As := [.int x0, .int x1, .int x2]) (rest := []) ⟨hx, hb, hml, hown, hts⟩ (c_X1_hoursUntilOn l E D C qr0 qr1 qr2 qr3 qr4 qr5 qr6 H.size N v3 x0 x1 x2 r5 v6 h7) (cwV 3 hts gX5_touchFor_X1_hoursUntilOn rfl rfl rfl hdX1_hoursUntilOn ⟨Nat.le_of_ble_eq_true rfl, Nat.le_of_ble_eq_true rfl⟩) (kpreV hP hD hK hS hE hA [8, 9, 10, 11, 12, 13, 14] rfl rfl 8 rfl rfl rfl) rfl rfl hl.1 rfl (lv_room (Nat.le_of_ble_eq_true rfl)) dX5_touchFor_30 ⟨Nat.zero_le _, Nat.zero_le _⟩) hP hD hS hA [8, 9, 10, 11, 12, 13, 14] rfl rfl rfl (fun H locs hP hD hS => ?_)
      refine lv_istore (lv' := [(4, .int r5), (0, .ref q0), (1, .int x0), (2, .int x1), (3, .int x2)]) hx hb dX5_touchFor_33 hl (by decide) rfl (fun ls hl => ?_)
      refine lv_iload hx hb dX5_touchFor_35 (lv_at hl 0 rfl) ?_
      obtain ⟨j9, hj9, hf⟩ := lj_e hf
      have Hj9 : ∀ (k8 : Int32) (H : Heap) (locs : List Loc) (ls : Array Slot), va_P D vwCl (oTM q0 qn0 qk0 qr0 qc0 qt0 qd0 qs0 qf0 qw0 rowCount anyKept (oPort C qn0 qn1 qn2 qn3 qn4 qn5 qn6 now (oPort C qr0 qr1 qr2 qr3 qr4 qr5 qr6 v6 []))) H → va_D A (oTM q0 qn0 qk0 qr0 qc0 qt0 qd0 qs0 qf0 qw0 rowCount anyKept (oPort C qn0 qn1 qn2 qn3 qn4 qn5 qn6 now (oPort C qr0 qr1 qr2 qr3 qr4 qr5 qr6 v6 []))) → va_S A s.heap H locs → lv_has ls 12 [(0, .ref q0), (1, .int x0), (2, .int x1)] → j9 k8 = some (r, trial') → W p l e (headSpec wsX5_touchFor (rmX5_touchFor)).room s m (List.toArray [Value.ref q0, Value.int x0, Value.int x1, Value.int x2]) below meth c H locs 0 0 Q (F0 m 48 ls [.int k8]) := by
        intro k8 H locs ls hP hD hS hl hf
        rw [hj9] at hf
        refine lv_istore (lv' := [(5, .int k8), (0, .ref q0), (1, .int x0), (2, .int x1)]) hx hb dX5_touchFor_48 hl (by decide) rfl (fun ls hl => ?_)
        refine lv_bipush (v := (-3)) hx hb dX5_touchFor_50 rfl ?_
        refine lv_istore (lv' := [(6, .int (-3)), (5, .int k8), (0, .ref q0), (1, .int x0), (2, .int x1)]) hx hb dX5_touchFor_52 hl (by decide) rfl (fun ls hl => ?_)
        refine lv_iconst (v := 0) hx hb dX5_touchFor_54 rfl ?_
        refine lv_istore (lv' := [(7, .int 0), (6, .int (-3)), (5, .int k8), (0, .ref q0), (1, .int x0), (2, .int x1)]) hx hb dX5_touchFor_55 hl (by decide) rfl (fun ls hl => ?_)
        have hL57 : ∀ (n : Nat) (i10 : Int32) (i11 : Int32) (i12 : Int32) (v13 : PV) (H : Heap) (locs : List Loc) (ls : Array Slot), va_P D vwCl (oTM q0 qn0 qk0 qr0 qc0 qt0 qd0 qs0 qf0 qw0 rowCount anyKept (oPort C qn0 qn1 qn2 qn3 qn4 qn5 qn6 now (oPort C qr0 qr1 qr2 qr3 qr4 qr5 qr6 v13 []))) H → va_D A (oTM q0 qn0 qk0 qr0 qc0 qt0 qd0 qs0 qf0 qw0 rowCount anyKept (oPort C qn0 qn1 qn2 qn3 qn4 qn5 qn6 now (oPort C qr0 qr1 qr2 qr3 qr4 qr5 qr6 v13 []))) → va_S A s.heap H locs → lv_has ls 12 [(7, .int i10), (6, .int i11), (5, .int i12), (0, .ref q0), (1, .int x0), (2, .int x1)] → f_X5_touchFor_L57 N now x0 x1 n i10 i11 i12 v13 = some (r, trial') → W p l e (headSpec wsX5_touchFor (rmX5_touchFor)).room s m (List.toArray [Value.ref q0, Value.int x0, Value.int x1, Value.int x2]) below meth c H locs 0 0 Q (F0 m 57 ls []) := by
          intro n
          induction n with
          | zero =>
            intro i10 i11 i12 v13 H locs ls hP hD hS hl hf
            exact absurd hf (fun h => by cases h)
          | succ n ih =>
            intro i10 i11 i12 v13 H locs ls hP hD hS hl hf
            rw [f_X5_touchFor_L57] at hf
            refine lv_iload hx hb dX5_touchFor_57 (lv_at hl 0 rfl) ?_
            refine lv_bipush (v := 6) hx hb dX5_touchFor_59 rfl ?_
            refine lv_icmp_ge (tgt := 155) hx hb dX5_touchFor_61 (by decide) (fun c14 => ?_) (fun c14 => ?_)
            · replace hf := if_te c14 hf
              refine lv_iload hx hb dX5_touchFor_155 (lv_at hl 1 rfl) ?_
              cases hf
              exact kri hQ hAe hx hb hr hlocks hP hD hK hS dX5_touchFor_157
            · replace hf := if_fe c14 hf
              refine lv_iconst (v := 0) hx hb dX5_touchFor_64 rfl ?_
              refine lv_istore (lv' := [(8, .int 0), (7, .int i10), (6, .int i11), (5, .int i12), (0, .ref q0), (1, .int x0), (2, .int x1)]) hx hb dX5_touchFor_65 hl (by decide) rfl (fun ls hl => ?_)
              obtain ⟨j18, hj18, hf⟩ := lj_e hf
              have Hj18 : ∀ (i15 : Int32) (i16 : Int32) (v17 : PV) (H : Heap) (locs : List Loc) (ls : Array Slot), va_P D vwCl (oTM q0 qn0 qk0 qr0 qc0 qt0 qd0 qs0 qf0 qw0 rowCount anyKept (oPort C qn0 qn1 qn2 qn3 qn4 qn5 qn6 now (oPort C qr0 qr1 qr2 qr3 qr4 qr5 qr6 v17 []))) H → va_D A (oTM q0 qn0 qk0 qr0 qc0 qt0 qd0 qs0 qf0 qw0 rowCount anyKept (oPort C qn0 qn1 qn2 qn3 qn4 qn5 qn6 now (oPort C qr0 qr1 qr2 qr3 qr4 qr5 qr6 v17 []))) → va_S A s.heap H locs → lv_has ls 12 [(7, .int i10), (6, .int i15), (5, .int i16), (0, .ref q0), (1, .int x0), (2, .int x1)] → j18 i15 i16 v17 = some (r, trial') → W p l e (headSpec wsX5_touchFor (rmX5_touchFor)).room s m (List.toArray [Value.ref q0, Value.int x0, Value.int x1, Value.int x2]) below meth c H locs 0 0 Q (F0 m 149 ls []) := by
                intro i15 i16 v17 H locs ls hP hD hS hl hf
                rw [hj18] at hf
                obtain ⟨t19, et19, hf⟩ := lj_e hf
                refine lv_iinc (v := t19) (lv' := [(7, .int t19), (6, .int i15), (5, .int i16), (0, .ref q0), (1, .int x0), (2, .int x1)]) hx hb dX5_touchFor_149 hl (k := 0) rfl (by rw [et19]; rfl) (by decide) rfl (fun ls hl => ?_)
                refine lv_goto (tgt := 57) hx hb dX5_touchFor_152 (by decide) ?_
                exact ih t19 i15 i16 v17 H locs ls hP hD hS (lv_sub hl [0, 1, 2, 3, 4, 5] rfl) hf
              have hL67 : ∀ (n : Nat) (i20 : Int32) (i21 : Int32) (i22 : Int32) (v23 : PV) (H : Heap) (locs : List Loc) (ls : Array Slot), va_P D vwCl (oTM q0 qn0 qk0 qr0 qc0 qt0 qd0 qs0 qf0 qw0 rowCount anyKept (oPort C qn0 qn1 qn2 qn3 qn4 qn5 qn6 now (oPort C qr0 qr1 qr2 qr3 qr4 qr5 qr6 v23 []))) H → va_D A (oTM q0 qn0 qk0 qr0 qc0 qt0 qd0 qs0 qf0 qw0 rowCount anyKept (oPort C qn0 qn1 qn2 qn3 qn4 qn5 qn6 now (oPort C qr0 qr1 qr2 qr3 qr4 qr5 qr6 v23 []))) → va_S A s.heap H locs → lv_has ls 12 [(8, .int i20), (7, .int i10), (6, .int i21), (5, .int i22), (0, .ref q0), (1, .int x0), (2, .int x1)] → f_X5_touchFor_L67 N now x0 x1 i10 j18 n i20 i21 i22 v23 = some (r, trial') → W p l e (headSpec wsX5_touchFor (rmX5_touchFor)).room s m (List.toArray [Value.ref q0, Value.int x0, Value.int x1, Value.int x2]) below meth c H locs 0 0 Q (F0 m 67 ls []) := by
                intro n
                induction n with
                | zero =>
                  intro i20 i21 i22 v23 H locs ls hP hD hS hl hf
                  exact absurd hf (fun h => by cases h)
                | succ n ih =>
                  intro i20 i21 i22 v23 H locs ls hP hD hS hl hf
                  rw [f_X5_touchFor_L67] at hf
                  refine lv_iload hx hb dX5_touchFor_67 (lv_at hl 0 rfl) ?_
                  refine lv_bipush (v := 64) hx hb dX5_touchFor_69 rfl ?_
                  refine lv_icmp_ge (tgt := 149) hx hb dX5_touchFor_71 (by decide) (fun c24 => ?_) (fun c24 => ?_)
                  · replace hf := if_te c24 hf
                    exact Hj18 i21 i22 v23 H locs ls hP hD hS (lv_sub hl [1, 2, 3, 4, 5, 6] rfl) hf
                  · replace hf := if_fe c24 hf
                    refine lv_iload hx hb dX5_touchFor_74 (lv_at hl 0 rfl) ?_
                    refine lv_bipush (v := 8) hx hb dX5_touchFor_76 rfl ?_
                    refine lv_idiv hx hb dX5_touchFor_78 (by decide) ?_
                    obtain ⟨t25, et25, hf⟩ := lj_e hf
                    refine lv_ren et25 ?_
                    refine lv_istore (lv' := [(9, .int t25), (8, .int i20), (7, .int i10), (6, .int i21), (5, .int i22), (0, .ref q0), (1, .int x0), (2, .int x1)]) hx hb dX5_touchFor_79 hl (by decide) rfl (fun ls hl => ?_)
                    refine lv_iload hx hb dX5_touchFor_81 (lv_at hl 1 rfl) ?_
                    refine lv_bipush (v := 8) hx hb dX5_touchFor_83 rfl ?_
                    refine lv_irem hx hb dX5_touchFor_85 (by decide) ?_
                    obtain ⟨t26, et26, hf⟩ := lj_e hf
                    refine lv_ren et26 ?_
                    refine lv_istore (lv' := [(10, .int t26), (9, .int t25), (8, .int i20), (7, .int i10), (6, .int i21), (5, .int i22), (0, .ref q0), (1, .int x0), (2, .int x1)]) hx hb dX5_touchFor_86 hl (by decide) rfl (fun ls hl => ?_)
                    refine lv_iload hx hb dX5_touchFor_88 (lv_at hl 1 rfl) ?_
                    refine lv_iload hx hb dX5_touchFor_90 (lv_at hl 0 rfl) ?_
                    obtain ⟨j29, hj29, hf⟩ := lj_e hf
                    have Hj29 : ∀ (k27 : Int32) (v28 : PV) (H : Heap) (locs : List Loc) (ls : Array Slot), va_P D vwCl (oTM q0 qn0 qk0 qr0 qc0 qt0 qd0 qs0 qf0 qw0 rowCount anyKept (oPort C qn0 qn1 qn2 qn3 qn4 qn5 qn6 now (oPort C qr0 qr1 qr2 qr3 qr4 qr5 qr6 v28 []))) H → va_D A (oTM q0 qn0 qk0 qr0 qc0 qt0 qd0 qs0 qf0 qw0 rowCount anyKept (oPort C qn0 qn1 qn2 qn3 qn4 qn5 qn6 now (oPort C qr0 qr1 qr2 qr3 qr4 qr5 qr6 v28 []))) → va_S A s.heap H locs → lv_has ls 12 [(10, .int t26), (9, .int t25), (8, .int i20), (7, .int i10), (6, .int i21), (5, .int i22), (0, .ref q0), (1, .int x0), (2, .int x1)] → j29 k27 v28 = some (r, trial') → W p l e (headSpec wsX5_touchFor (rmX5_touchFor)).room s m (List.toArray [Value.ref q0, Value.int x0, Value.int x1, Value.int x2]) below meth c H locs 0 0 Q (F0 m 116 ls [.int k27]) := by
                      intro k27 v28 H locs ls hP hD hS hl hf
                      rw [hj29] at hf
                      refine lv_istore (lv' := [(11, .int k27), (10, .int t26), (9, .int t25), (8, .int i20), (7, .int i10), (6, .int i21), (5, .int i22), (0, .ref q0), (1, .int x0), (2, .int x1)]) hx hb dX5_touchFor_116 hl (by decide) rfl (fun ls hl => ?_)
                      refine lv_iload hx hb dX5_touchFor_118 (lv_at hl 0 rfl) ?_
                      obtain ⟨j32, hj32, hf⟩ := lj_e hf
                      have Hj32 : ∀ (i30 : Int32) (i31 : Int32) (H : Heap) (locs : List Loc) (ls : Array Slot), va_P D vwCl (oTM q0 qn0 qk0 qr0 qc0 qt0 qd0 qs0 qf0 qw0 rowCount anyKept (oPort C qn0 qn1 qn2 qn3 qn4 qn5 qn6 now (oPort C qr0 qr1 qr2 qr3 qr4 qr5 qr6 v28 []))) H → va_D A (oTM q0 qn0 qk0 qr0 qc0 qt0 qd0 qs0 qf0 qw0 rowCount anyKept (oPort C qn0 qn1 qn2 qn3 qn4 qn5 qn6 now (oPort C qr0 qr1 qr2 qr3 qr4 qr5 qr6 v28 []))) → va_S A s.heap H locs → lv_has ls 12 [(8, .int i20), (7, .int i10), (6, .int i30), (5, .int i31), (0, .ref q0), (1, .int x0), (2, .int x1)] → j32 i30 i31 = some (r, trial') → W p l e (headSpec wsX5_touchFor (rmX5_touchFor)).room s m (List.toArray [Value.ref q0, Value.int x0, Value.int x1, Value.int x2]) below meth c H locs 0 0 Q (F0 m 143 ls []) := by
                        intro i30 i31 H locs ls hP hD hS hl hf
                        rw [hj32] at hf
                        obtain ⟨t33, et33, hf⟩ := lj_e hf
                        refine lv_iinc (v := t33) (lv' := [(8, .int t33), (7, .int i10), (6, .int i30), (5, .int i31), (0, .ref q0), (1, .int x0), (2, .int x1)]) hx hb dX5_touchFor_143 hl (k := 0) rfl (by rw [et33]; rfl) (by decide) rfl (fun ls hl => ?_)
                        refine lv_goto (tgt := 67) hx hb dX5_touchFor_146 (by decide) ?_
                        exact ih t33 i30 i31 v28 H locs ls hP hD hS (lv_sub hl [0, 1, 2, 3, 4, 5, 6] rfl) hf
                      refine lv_if_lt (tgt := 143) hx hb dX5_touchFor_120 (by decide) (fun c34 => ?_) (fun c34 => ?_)
                      · replace hf := if_te c34 hf
                        exact Hj32 i21 i22 H locs ls hP hD hS (lv_sub hl [3, 4, 5, 6, 7, 8, 9] rfl) hf
                      · replace hf := if_fe c34 hf
                        refine lv_iload hx hb dX5_touchFor_123 (lv_at hl 4 rfl) ?_
                        refine lv_bipush (v := 100) hx hb dX5_touchFor_125 rfl ?_
                        refine lv_imul hx hb dX5_touchFor_127 ?_
                        refine lv_iload hx hb dX5_touchFor_128 (lv_at hl 2 rfl) ?_
                        refine lv_bipush (v := 10) hx hb dX5_touchFor_130 rfl ?_
                        refine lv_imul hx hb dX5_touchFor_132 ?_
                        refine lv_iadd hx hb dX5_touchFor_133 ?_
                        refine lv_iload hx hb dX5_touchFor_134 (lv_at hl 1 rfl) ?_
                        refine lv_iadd hx hb dX5_touchFor_136 ?_
                        obtain ⟨t35, et35, hf⟩ := lj_e hf
                        refine lv_ren et35 ?_
                        refine lv_istore (lv' := [(6, .int t35), (11, .int k27), (10, .int t26), (9, .int t25), (8, .int i20), (7, .int i10), (5, .int i22), (0, .ref q0), (1, .int x0), (2, .int x1)]) hx hb dX5_touchFor_137 hl (by decide) rfl (fun ls hl => ?_)
                        refine lv_iload hx hb dX5_touchFor_139 (lv_at hl 1 rfl) ?_
                        refine lv_istore (lv' := [(5, .int k27), (6, .int t35), (11, .int k27), (10, .int t26), (9, .int t25), (8, .int i20), (7, .int i10), (0, .ref q0), (1, .int x0), (2, .int x1)]) hx hb dX5_touchFor_141 hl (by decide) rfl (fun ls hl => ?_)
                        exact Hj32 t35 k27 H locs ls hP hD hS (lv_sub hl [5, 6, 1, 0, 7, 8, 9] rfl) hf
                    refine lv_icmp_ge (tgt := 114) hx hb dX5_touchFor_92 (by decide) (fun c36 => ?_) (fun c36 => ?_)
                    · replace hf := if_te c36 hf
                      refine lv_bipush (v := (-3)) hx hb dX5_touchFor_114 rfl ?_
                      exact Hj29 (-3) v23 H locs ls hP hD hS (lv_sub hl [0, 1, 2, 3, 4, 5, 6, 7, 8] rfl) hf
                    · replace hf := if_fe c36 hf
                      refine lv_aload_n hx hb dX5_touchFor_95 rfl (lv_at hl 6 rfl) ?_
                      refine lv_iload_n hx hb dX5_touchFor_96 rfl (lv_at hl 7 rfl) ?_
                      refine lv_iload_n hx hb dX5_touchFor_97 rfl (lv_at hl 8 rfl) ?_
                      refine lv_iload hx hb dX5_touchFor_98 (lv_at hl 5 rfl) ?_
                      refine lv_iconst (v := 1) hx hb dX5_touchFor_100 rfl ?_
                      refine lv_isub hx hb dX5_touchFor_101 ?_
                      refine lv_iload hx hb dX5_touchFor_102 (lv_at hl 3 rfl) ?_
                      refine lv_iload hx hb dX5_touchFor_104 (lv_at hl 1 rfl) ?_
                      refine lv_iload hx hb dX5_touchFor_106 (lv_at hl 0 rfl) ?_
                      obtain ⟨r37, v38, h39, hf⟩ := ob2_e hf
                      refine kci (Wx := (oTM q0 qn0 qk0 qr0 qc0 qt0 qd0 qs0 qf0 qw0 rowCount anyKept (oPort C qn0 qn1 qn2 qn3 qn4 qn5 qn6 now (oPort C qr0 qr1 qr2 qr3 qr4 qr5 qr6 v38 [])))) (va_runV (As := [.int x0, .int x1, .int (i22 - 1), .int i10, .int t25, .int t26]) (rest := []) ⟨hx, hb, hml, hown, hts⟩ (c_X5_hoursByTouch l E D C q0 qn0 qk0 qr0 qc0 qt0 qd0 qs0 qf0 qw0 qn1 qn2 qn3 qn4 qn5 qn6 qr1 qr2 qr3 qr4 qr5 qr6 H.size N rowCount anyKept now v23 x0 x1 (i22 - 1) i10 t25 t26 r37 v38 h39) (cwV 6 hts gX5_touchFor_X5_hoursByTouch rfl rfl rfl hdX5_hoursByTouch ⟨Nat.le_of_ble_eq_true rfl, Nat.le_of_ble_eq_true rfl⟩) (kpreV hP hD hK hS hE hA [0, 1, 2, 3, 4, 5, 6, 7, 8, 9, 10, 11, 12, 13, 14] rfl rfl 0 rfl rfl rfl) rfl rfl hl.1 rfl (lv_room (Nat.le_of_ble_eq_true rfl)) dX5_touchFor_108 ⟨Nat.zero_le _, Nat.zero_le _⟩) hP hD hS hA [0, 1, 2, 3, 4, 5, 6, 7, 8, 9, 10, 11, 12, 13, 14] rfl rfl rfl (fun H locs hP hD hS => ?_)
                      refine lv_goto (tgt := 116) hx hb dX5_touchFor_111 (by decide) ?_
                      exact Hj29 r37 v38 H locs ls hP hD hS (lv_sub hl [0, 1, 2, 3, 4, 5, 6, 7, 8] rfl) hf
              exact hL67 N 0 i11 i12 v13 H locs ls hP hD hS (lv_sub hl [0, 1, 2, 3, 4, 5, 6] rfl) hf
        exact hL57 N 0 (-3) k8 v6 H locs ls hP hD hS (lv_sub hl [0, 1, 2, 3, 4, 5] rfl) hf
      refine lv_if_lt (tgt := 45) hx hb dX5_touchFor_37 (by decide) (fun c40 => ?_) (fun c40 => ?_)
      · replace hf := if_te c40 hf
        refine lv_iload_n hx hb dX5_touchFor_45 rfl (lv_at hl 4 rfl) ?_
        refine lv_iconst (v := 1) hx hb dX5_touchFor_46 rfl ?_
        refine lv_iadd hx hb dX5_touchFor_47 ?_
        exact Hj9 (x2 + 1) H locs ls hP hD hS (lv_sub hl [1, 2, 3] rfl) hf
      · replace hf := if_fe c40 hf
        refine lv_iload hx hb dX5_touchFor_40 (lv_at hl 0 rfl) ?_
        refine lv_goto (tgt := 48) hx hb dX5_touchFor_42 (by decide) ?_
        exact Hj9 r5 H locs ls hP hD hS (lv_sub hl [1, 2, 3] rfl) hf
    · replace hf := if_te c2 hf
      refine lv_iconst (v := (-1)) hx hb dX5_touchFor_10 rfl ?_
      cases hf
      exact kri hQ hAe hx hb hr hlocks hP hD hK hS dX5_touchFor_11
  exact main _ _ hP hD hS

def rmX5_neverComesApart : Room := { frames := 5, cells := 0, slots := 0, locals := 115 }
theorem hdX5_neverComesApart : yX5_neverComesApart.cls = RX5 ∧ yX5_neverComesApart.cls ≠ "java/lang/invoke/MethodHandle" ∧ yX5_neverComesApart.cls ≠ "java/lang/invoke/VarHandle" ∧ (parseMethodDescriptor yX5_neverComesApart.desc).map (fun d => d.parameters.length) = some 4 := by decide +kernel
set_option maxHeartbeats 40000000 in
set_option maxRecDepth 100000 in
theorem c_X5_neverComesApart (l : Launch) (E : Nat → Nat) (D : va_G) (C : Nat → ClassId) (q0 qn0 qk0 qr0 qc0 qt0 qd0 qs0 qf0 qw0 qn1 qn2 qn3 qn4 qn5 qn6 qr1 qr2 qr3 qr4 qr5 qr6 : Nat) (sz : Nat) (N : Nat) (rowCount : Int32) (anyKept : Int32) (now : PV) (trial : PV) (x0 : Int32) (x1 : Int32) (x2 : Int32) (x3 : Int32) (r : Int32) (trial' : PV) (hf : f_X5_neverComesApart N now trial x0 x1 x2 x3 = some (r, trial')) : Met l yX5_neverComesApart wsX5_neverComesApart rmX5_neverComesApart (PC E D C [.ref q0, .int x0, .int x1, .int x2, .int x3] (oTM q0 qn0 qk0 qr0 qc0 qt0 qd0 qs0 qf0 qw0 rowCount anyKept (oPort C qn0 qn1 qn2 qn3 qn4 qn5 qn6 now (oPort C qr0 qr1 qr2 qr3 qr4 qr5 qr6 trial []))) sz) (QZ D C (oTM q0 qn0 qk0 qr0 qc0 qt0 qd0 qs0 qf0 qw0 rowCount anyKept (oPort C qn0 qn1 qn2 qn3 qn4 qn5 qn6 now (oPort C qr0 qr1 qr2 qr3 qr4 qr5 qr6 trial []))) (oTM q0 qn0 qk0 qr0 qc0 qt0 qd0 qs0 qf0 qw0 rowCount anyKept (oPort C qn0 qn1 qn2 qn3 qn4 qn5 qn6 now (oPort C qr0 qr1 qr2 qr3 qr4 qr5 qr6 (trial') []))) sz r) 0 0 (va_A (oTM q0 qn0 qk0 qr0 qc0 qt0 qd0 qs0 qf0 qw0 rowCount anyKept (oPort C qn0 qn1 qn2 qn3 qn4 qn5 qn6 now (oPort C qr0 qr1 qr2 qr3 qr4 qr5 qr6 trial []))) sz) := by
  refine Met.ofW (cc := cX5_neverComesApart) (maxL := 6) (ret := (some .boolean)) (by decide) rfl ?_
  intro p e s m args below meth c s₁ B hml hv
  obtain ⟨rfl, hsz, hP, hK, hD0, hE⟩ := hv
  have hx := B.exec
  have hb := B.bytes
  have hr := B.returns
  have hts := atoms_spec (ws := wsX5_neverComesApart) B.pre
  have hown : s.vm.findClass RX5 = some m.cls := findClass_of_methodNamed B.named
  have hlocks := B.notSynchronized
  subst hsz
  have hi_RX5 : ∀ w ∈ wsX50, w ∈ wsX5_neverComesApart := fun _ h => List.mem_cons_of_mem _ (List.mem_append_left _ (List.mem_append_right _ h))
  have hD := hD0.self (sz := s.heap.size)
  obtain ⟨A, hAe⟩ := nm_ex (va_A (oTM q0 qn0 qk0 qr0 qc0 qt0 qd0 qs0 qf0 qw0 rowCount anyKept (oPort C qn0 qn1 qn2 qn3 qn4 qn5 qn6 now (oPort C qr0 qr1 qr2 qr3 qr4 qr5 qr6 trial []))) s.heap.size)
  rw [← hAe] at hD hE ⊢
  have hA : ∀ q : Nat, s.heap.size ≤ q → A q := fun q h => by rw [hAe]; exact Or.inr h
  have hS : va_S A s.heap s.heap [] := va_S.rf
  have hl := lv_entry ([.ref q0, .int x0, .int x1, .int x2, .int x3]) (n := 6) (Nat.le_of_ble_eq_true rfl)
  rw [lg_entry_eq]
  generalize (lg_sl ([.ref q0, .int x0, .int x1, .int x2, .int x3]) ++ List.replicate (6 - (lg_sl ([.ref q0, .int x0, .int x1, .int x2, .int x3])).length) Slot.unset).toArray = ls at hl ⊢
  have hl : lv_has ls 6 [(0, .ref q0), (1, .int x0), (2, .int x1), (3, .int x2), (4, .int x3)] := hl
  obtain ⟨Q, hQ⟩ := nm_ex (MQ below (QZ D C (oTM q0 qn0 qk0 qr0 qc0 qt0 qd0 qs0 qf0 qw0 rowCount anyKept (oPort C qn0 qn1 qn2 qn3 qn4 qn5 qn6 now (oPort C qr0 qr1 qr2 qr3 qr4 qr5 qr6 trial []))) (oTM q0 qn0 qk0 qr0 qc0 qt0 qd0 qs0 qf0 qw0 rowCount anyKept (oPort C qn0 qn1 qn2 qn3 qn4 qn5 qn6 now (oPort C qr0 qr1 qr2 qr3 qr4 qr5 qr6 (trial') []))) s.heap.size r) (List.toArray [Value.ref q0, Value.int x0, Value.int x1, Value.int x2, Value.int x3]) s 0 0 A)
  show W p l e (headSpec wsX5_neverComesApart (rmX5_neverComesApart)).room s m (List.toArray [Value.ref q0, Value.int x0, Value.int x1, Value.int x2, Value.int x3]) below meth c s.heap [] 0 0 (MQ below (QZ D C (oTM q0 qn0 qk0 qr0 qc0 qt0 qd0 qs0 qf0 qw0 rowCount anyKept (oPort C qn0 qn1 qn2 qn3 qn4 qn5 qn6 now (oPort C qr0 qr1 qr2 qr3 qr4 qr5 qr6 trial []))) (oTM q0 qn0 qk0 qr0 qc0 qt0 qd0 qs0 qf0 qw0 rowCount anyKept (oPort C qn0 qn1 qn2 qn3 qn4 qn5 qn6 now (oPort C qr0 qr1 qr2 qr3 qr4 qr5 qr6 (trial') []))) s.heap.size r) (List.toArray [Value.ref q0, Value.int x0, Value.int x1, Value.int x2, Value.int x3]) s 0 0 A) _
  rw [← hQ]
  unfold f_X5_neverComesApart at hf
  have main : ∀ (H : Heap) (locs : List Loc), va_P D vwCl (oTM q0 qn0 qk0 qr0 qc0 qt0 qd0 qs0 qf0 qw0 rowCount anyKept (oPort C qn0 qn1 qn2 qn3 qn4 qn5 qn6 now (oPort C qr0 qr1 qr2 qr3 qr4 qr5 qr6 trial []))) H → va_D A (oTM q0 qn0 qk0 qr0 qc0 qt0 qd0 qs0 qf0 qw0 rowCount anyKept (oPort C qn0 qn1 qn2 qn3 qn4 qn5 qn6 now (oPort C qr0 qr1 qr2 qr3 qr4 qr5 qr6 trial []))) → va_S A s.heap H locs → W p l e (headSpec wsX5_neverComesApart (rmX5_neverComesApart)).room s m (List.toArray [Value.ref q0, Value.int x0, Value.int x1, Value.int x2, Value.int x3]) below meth c H locs 0 0 Q (F0 m 0 ls []) := by
    intro H locs hP hD hS
    refine lv_aload_n hx hb dX5_neverComesApart_0 rfl (lv_at hl 0 rfl) ?_
    refine va_get (D := D) (ci := 5) (v := .ref qr0) (C := RX5) (T := TX5) (N := 11) hx hb hts hi_RX5 hown hK hP 0 rfl rfl 2 (by decide) (hts (.fieldLink RX5 19 "TravelMarks" "trial" "LTravelMarks$Port;") (List.mem_of_getElem? (i := 1) rfl)) (fun _ h9 => h9) rfl dX5_neverComesApart_1 ?_
    refine lv_aload_n hx hb dX5_neverComesApart_4 rfl (lv_at hl 0 rfl) ?_
    refine va_get (D := D) (ci := 5) (v := .ref qn0) (C := RX5) (T := TX5) (N := 11) hx hb hts hi_RX5 hown hK hP 0 rfl rfl 0 (by decide) (hts (.fieldLink RX5 10 "TravelMarks" "now" "LTravelMarks$Port;") (List.mem_of_getElem? (i := 2) rfl)) (fun _ h9 => h9) rfl dX5_neverComesApart_5 ?_
    obtain ⟨v1, h2, hf⟩ := ob1_e hf
    refine kcv (Wx := (oTM q0 qn0 qk0 qr0 qc0 qt0 qd0 qs0 qf0 qw0 rowCount anyKept (oPort C qn0 qn1 qn2 qn3 qn4 qn5 qn6 now (oPort C qr0 qr1 qr2 qr3 qr4 qr5 qr6 v1 [])))) (va_runV (As := [.ref qn0]) (rest := []) ⟨hx, hb, hml, hown, hts⟩ (c_X1_become l E D C qr0 qr1 qr2 qr3 qr4 qr5 qr6 qn0 qn1 qn2 qn3 qn4 qn5 qn6 H.size trial now v1 h2) (cwV 1 hts gX5_neverComesApart_X1_become rfl rfl rfl hdX1_become ⟨Nat.le_of_ble_eq_true rfl, Nat.le_of_ble_eq_true rfl⟩) (kpreV hP hD hK hS hE hA [8, 9, 10, 11, 12, 13, 14, 1, 2, 3, 4, 5, 6, 7] rfl rfl 8 rfl rfl rfl) rfl rfl hl.1 rfl (lv_room (Nat.le_of_ble_eq_true rfl)) dX5_neverComesApart_8 ⟨Nat.zero_le _, Nat.zero_le _⟩) hP hD hS hA [8, 9, 10, 11, 12, 13, 14, 1, 2, 3, 4, 5, 6, 7] rfl rfl rfl (fun H locs hP hD hS => ?_)
    refine lv_iconst (v := 0) hx hb dX5_neverComesApart_11 rfl ?_
    refine lv_istore (lv' := [(5, .int 0), (0, .ref q0), (1, .int x0), (2, .int x1), (3, .int x2), (4, .int x3)]) hx hb dX5_neverComesApart_12 hl (by decide) rfl (fun ls hl => ?_)
    obtain ⟨j4, hj4, hf⟩ := lj_e hf
    have Hj4 : ∀ (v3 : PV) (H : Heap) (locs : List Loc) (ls : Array Slot), va_P D vwCl (oTM q0 qn0 qk0 qr0 qc0 qt0 qd0 qs0 qf0 qw0 rowCount anyKept (oPort C qn0 qn1 qn2 qn3 qn4 qn5 qn6 now (oPort C qr0 qr1 qr2 qr3 qr4 qr5 qr6 v3 []))) H → va_D A (oTM q0 qn0 qk0 qr0 qc0 qt0 qd0 qs0 qf0 qw0 rowCount anyKept (oPort C qn0 qn1 qn2 qn3 qn4 qn5 qn6 now (oPort C qr0 qr1 qr2 qr3 qr4 qr5 qr6 v3 []))) → va_S A s.heap H locs → lv_has ls 6 [(0, .ref q0), (1, .int x0), (2, .int x1), (3, .int x2)] → j4 v3 = some (r, trial') → W p l e (headSpec wsX5_neverComesApart (rmX5_neverComesApart)).room s m (List.toArray [Value.ref q0, Value.int x0, Value.int x1, Value.int x2, Value.int x3]) below meth c H locs 0 0 Q (F0 m 48 ls []) := by
      intro v3 H locs ls hP hD hS hl hf
      rw [hj4] at hf
      refine lv_aload_n hx hb dX5_neverComesApart_48 rfl (lv_at hl 0 rfl) ?_
      refine va_get (D := D) (ci := 5) (v := .ref qr0) (C := RX5) (T := TX5) (N := 11) hx hb hts hi_RX5 hown hK hP 0 rfl rfl 2 (by decide) (hts (.fieldLink RX5 19 "TravelMarks" "trial" "LTravelMarks$Port;") (List.mem_of_getElem? (i := 1) rfl)) (fun _ h9 => h9) rfl dX5_neverComesApart_49 ?_
      refine lv_iload_n hx hb dX5_neverComesApart_52 rfl (lv_at hl 1 rfl) ?_
      refine lv_iload_n hx hb dX5_neverComesApart_53 rfl (lv_at hl 2 rfl) ?_
      refine lv_iload_n hx hb dX5_neverComesApart_54 rfl (lv_at hl 3 rfl) ?_
      obtain ⟨r5, v6, h7, hf⟩ := ob2_e hf
      refine kci (Wx := (oTM q0 qn0 qk0 qr0 qc0 qt0 qd0 qs0 qf0 qw0 rowCount anyKept (oPort C qn0 qn1 qn2 qn3 qn4 qn5 qn6 now (oPort C qr0 qr1 qr2 qr3 qr4 qr5 qr6 v6 [])))) (va_runV (As := [.int x0, .int x1, .int x2]) (rest := []) ⟨hx, hb, hml, hown, hts⟩ (c_X1_hoursUntilOn l E D C qr0 qr1 qr2 qr3 qr4 qr5 qr6 H.size N v3 x0 x1 x2 r5 v6 h7) (cwV 3 hts gX5_neverComesApart_X1_hoursUntilOn rfl rfl rfl hdX1_hoursUntilOn ⟨Nat.le_of_ble_eq_true rfl, Nat.le_of_ble_eq_true rfl⟩) (kpreV hP hD hK hS hE hA [8, 9, 10, 11, 12, 13, 14] rfl rfl 8 rfl rfl rfl) rfl rfl hl.1 rfl (lv_room (Nat.le_of_ble_eq_true rfl)) dX5_neverComesApart_55 ⟨Nat.zero_le _, Nat.zero_le _⟩) hP hD hS hA [8, 9, 10, 11, 12, 13, 14] rfl rfl rfl (fun H locs hP hD hS => ?_)
      refine lv_if_ge (tgt := 65) hx hb dX5_neverComesApart_58 (by decide) (fun c8 => ?_) (fun c8 => ?_)
      · replace hf := if_te c8 hf
        refine lv_iconst (v := 0) hx hb dX5_neverComesApart_65 rfl ?_
        cases hf
        exact krz hQ hAe hx hb hr hlocks zb_0 hP hD hK hS dX5_neverComesApart_66
      · replace hf := if_fe c8 hf
        refine lv_iconst (v := 1) hx hb dX5_neverComesApart_61 rfl ?_
        refine lv_goto (tgt := 66) hx hb dX5_neverComesApart_62 (by decide) ?_
        cases hf
        exact krz hQ hAe hx hb hr hlocks zb_1 hP hD hK hS dX5_neverComesApart_66
    have hL14 : ∀ (n : Nat) (i9 : Int32) (v10 : PV) (H : Heap) (locs : List Loc) (ls : Array Slot), va_P D vwCl (oTM q0 qn0 qk0 qr0 qc0 qt0 qd0 qs0 qf0 qw0 rowCount anyKept (oPort C qn0 qn1 qn2 qn3 qn4 qn5 qn6 now (oPort C qr0 qr1 qr2 qr3 qr4 qr5 qr6 v10 []))) H → va_D A (oTM q0 qn0 qk0 qr0 qc0 qt0 qd0 qs0 qf0 qw0 rowCount anyKept (oPort C qn0 qn1 qn2 qn3 qn4 qn5 qn6 now (oPort C qr0 qr1 qr2 qr3 qr4 qr5 qr6 v10 []))) → va_S A s.heap H locs → lv_has ls 6 [(5, .int i9), (0, .ref q0), (1, .int x0), (2, .int x1), (3, .int x2), (4, .int x3)] → f_X5_neverComesApart_L14 x3 j4 n i9 v10 = some (r, trial') → W p l e (headSpec wsX5_neverComesApart (rmX5_neverComesApart)).room s m (List.toArray [Value.ref q0, Value.int x0, Value.int x1, Value.int x2, Value.int x3]) below meth c H locs 0 0 Q (F0 m 14 ls []) := by
      intro n
      induction n with
      | zero =>
        intro i9 v10 H locs ls hP hD hS hl hf
        exact absurd hf (fun h => by cases h)
      | succ n ih =>
        intro i9 v10 H locs ls hP hD hS hl hf
        rw [f_X5_neverComesApart_L14] at hf
        refine lv_iload hx hb dX5_neverComesApart_14 (lv_at hl 0 rfl) ?_
        refine lv_bipush (v := 6) hx hb dX5_neverComesApart_16 rfl ?_
        refine lv_icmp_ge (tgt := 48) hx hb dX5_neverComesApart_18 (by decide) (fun c11 => ?_) (fun c11 => ?_)
        · replace hf := if_te c11 hf
          exact Hj4 v10 H locs ls hP hD hS (lv_sub hl [1, 2, 3, 4] rfl) hf
        · replace hf := if_fe c11 hf
          refine lv_iload hx hb dX5_neverComesApart_21 (lv_at hl 5 rfl) ?_
          refine lv_iload hx hb dX5_neverComesApart_23 (lv_at hl 0 rfl) ?_
          refine kcz (Wx := (oTM q0 qn0 qk0 qr0 qc0 qt0 qd0 qs0 qf0 qw0 rowCount anyKept (oPort C qn0 qn1 qn2 qn3 qn4 qn5 qn6 now (oPort C qr0 qr1 qr2 qr3 qr4 qr5 qr6 v10 [])))) (va_runS (As := [.int x3, .int i9]) (rest := []) ⟨hx, hb, hml, hown, hts⟩ (c_X5_has l E D C H.size x3 i9 _ rfl) (va_cwS 2 hts gX5_neverComesApart_X5_has rfl rfl rfl hdX5_has ⟨Nat.le_of_ble_eq_true rfl, Nat.le_of_ble_eq_true rfl⟩) (kpre hP hD hK hS hE hA [] rfl rfl) rfl rfl hl.1 rfl (lv_room (Nat.le_of_ble_eq_true rfl)) dX5_neverComesApart_25 ⟨Nat.zero_le _, Nat.zero_le _⟩) hP hD hS hA [] rfl rfl rfl (fun H locs hz12 hP hD hS => ?_)
          obtain ⟨j14, hj14, hf⟩ := lj_e hf
          have Hj14 : ∀ (v13 : PV) (H : Heap) (locs : List Loc) (ls : Array Slot), va_P D vwCl (oTM q0 qn0 qk0 qr0 qc0 qt0 qd0 qs0 qf0 qw0 rowCount anyKept (oPort C qn0 qn1 qn2 qn3 qn4 qn5 qn6 now (oPort C qr0 qr1 qr2 qr3 qr4 qr5 qr6 v13 []))) H → va_D A (oTM q0 qn0 qk0 qr0 qc0 qt0 qd0 qs0 qf0 qw0 rowCount anyKept (oPort C qn0 qn1 qn2 qn3 qn4 qn5 qn6 now (oPort C qr0 qr1 qr2 qr3 qr4 qr5 qr6 v13 []))) → va_S A s.heap H locs → lv_has ls 6 [(5, .int i9), (0, .ref q0), (1, .int x0), (2, .int x1), (3, .int x2), (4, .int x3)] → j14 v13 = some (r, trial') → W p l e (headSpec wsX5_neverComesApart (rmX5_neverComesApart)).room s m (List.toArray [Value.ref q0, Value.int x0, Value.int x1, Value.int x2, Value.int x3]) below meth c H locs 0 0 Q (F0 m 42 ls []) := by
            intro v13 H locs ls hP hD hS hl hf
            rw [hj14] at hf
            obtain ⟨t15, et15, hf⟩ := lj_e hf
            refine lv_iinc (v := t15) (lv' := [(5, .int t15), (0, .ref q0), (1, .int x0), (2, .int x1), (3, .int x2), (4, .int x3)]) hx hb dX5_neverComesApart_42 hl (k := 0) rfl (by rw [et15]; rfl) (by decide) rfl (fun ls hl => ?_)
            refine lv_goto (tgt := 14) hx hb dX5_neverComesApart_45 (by decide) ?_
            exact ih t15 v13 H locs ls hP hD hS (lv_sub hl [0, 1, 2, 3, 4, 5] rfl) hf
          refine lv_if_eq (tgt := 42) hx hb dX5_neverComesApart_28 (by decide) (fun c16 => ?_) (fun c16 => ?_)
          · replace hf := if_te c16 hf
            exact Hj14 v10 H locs ls hP hD hS (lv_sub hl [0, 1, 2, 3, 4, 5] rfl) hf
          · replace hf := if_fe c16 hf
            refine lv_aload_n hx hb dX5_neverComesApart_31 rfl (lv_at hl 1 rfl) ?_
            refine va_get (D := D) (ci := 5) (v := .ref qr0) (C := RX5) (T := TX5) (N := 11) hx hb hts hi_RX5 hown hK hP 0 rfl rfl 2 (by decide) (hts (.fieldLink RX5 19 "TravelMarks" "trial" "LTravelMarks$Port;") (List.mem_of_getElem? (i := 1) rfl)) (fun _ h9 => h9) rfl dX5_neverComesApart_32 ?_
            refine lv_iload hx hb dX5_neverComesApart_35 (lv_at hl 0 rfl) ?_
            refine lv_iconst (v := (-1)) hx hb dX5_neverComesApart_37 rfl ?_
            refine lv_iconst (v := (-1)) hx hb dX5_neverComesApart_38 rfl ?_
            obtain ⟨v17, h18, hf⟩ := ob1_e hf
            refine kcv (Wx := (oTM q0 qn0 qk0 qr0 qc0 qt0 qd0 qs0 qf0 qw0 rowCount anyKept (oPort C qn0 qn1 qn2 qn3 qn4 qn5 qn6 now (oPort C qr0 qr1 qr2 qr3 qr4 qr5 qr6 v17 [])))) (va_runV (As := [.int i9, .int (-1), .int (-1)]) (rest := []) ⟨hx, hb, hml, hown, hts⟩ (c_X1_join l E D C qr0 qr1 qr2 qr3 qr4 qr5 qr6 H.size v10 i9 (-1) (-1) v17 h18) (cwV 3 hts gX5_neverComesApart_X1_join rfl rfl rfl hdX1_join ⟨Nat.le_of_ble_eq_true rfl, Nat.le_of_ble_eq_true rfl⟩) (kpreV hP hD hK hS hE hA [8, 9, 10, 11, 12, 13, 14] rfl rfl 8 rfl rfl rfl) rfl rfl hl.1 rfl (lv_room (Nat.le_of_ble_eq_true rfl)) dX5_neverComesApart_39 ⟨Nat.zero_le _, Nat.zero_le _⟩) hP hD hS hA [8, 9, 10, 11, 12, 13, 14] rfl rfl rfl (fun H locs hP hD hS => ?_)
            exact Hj14 v17 H locs ls hP hD hS (lv_sub hl [0, 1, 2, 3, 4, 5] rfl) hf
    exact hL14 N 0 v1 H locs ls hP hD hS (lv_sub hl [0, 1, 2, 3, 4, 5] rfl) hf
  exact main _ _ hP hD hS

def rmX5_apartFor : Room := { frames := 6, cells := 0, slots := 0, locals := 140 }
theorem hdX5_apartFor : yX5_apartFor.cls = RX5 ∧ yX5_apartFor.cls ≠ "java/lang/invoke/MethodHandle" ∧ yX5_apartFor.cls ≠ "java/lang/invoke/VarHandle" ∧ (parseMethodDescriptor yX5_apartFor.desc).map (fun d => d.parameters.length) = some 3 := by decide +kernel
set_option maxHeartbeats 40000000 in
set_option maxRecDepth 100000 in
theorem c_X5_apartFor (l : Launch) (E : Nat → Nat) (D : va_G) (C : Nat → ClassId) (q0 qn0 qk0 qr0 qc0 qt0 qd0 qs0 qf0 qw0 qn1 qn2 qn3 qn4 qn5 qn6 qr1 qr2 qr3 qr4 qr5 qr6 : Nat) (sz : Nat) (N : Nat) (rowCount : Int32) (anyKept : Int32) (now : PV) (trial : PV) (x0 : Int32) (x1 : Int32) (x2 : Int32) (r : Int32) (trial' : PV) (hf : f_X5_apartFor N now trial x0 x1 x2 = some (r, trial')) : Met l yX5_apartFor wsX5_apartFor rmX5_apartFor (PC E D C [.ref q0, .int x0, .int x1, .int x2] (oTM q0 qn0 qk0 qr0 qc0 qt0 qd0 qs0 qf0 qw0 rowCount anyKept (oPort C qn0 qn1 qn2 qn3 qn4 qn5 qn6 now (oPort C qr0 qr1 qr2 qr3 qr4 qr5 qr6 trial []))) sz) (QI D C (oTM q0 qn0 qk0 qr0 qc0 qt0 qd0 qs0 qf0 qw0 rowCount anyKept (oPort C qn0 qn1 qn2 qn3 qn4 qn5 qn6 now (oPort C qr0 qr1 qr2 qr3 qr4 qr5 qr6 trial []))) (oTM q0 qn0 qk0 qr0 qc0 qt0 qd0 qs0 qf0 qw0 rowCount anyKept (oPort C qn0 qn1 qn2 qn3 qn4 qn5 qn6 now (oPort C qr0 qr1 qr2 qr3 qr4 qr5 qr6 (trial') []))) sz r) 0 0 (va_A (oTM q0 qn0 qk0 qr0 qc0 qt0 qd0 qs0 qf0 qw0 rowCount anyKept (oPort C qn0 qn1 qn2 qn3 qn4 qn5 qn6 now (oPort C qr0 qr1 qr2 qr3 qr4 qr5 qr6 trial []))) sz) := by
  refine Met.ofW (cc := cX5_apartFor) (maxL := 6) (ret := (some .int)) (by decide) rfl ?_
  intro p e s m args below meth c s₁ B hml hv
  obtain ⟨rfl, hsz, hP, hK, hD0, hE⟩ := hv
  have hx := B.exec
  have hb := B.bytes
  have hr := B.returns
  have hts := atoms_spec (ws := wsX5_apartFor) B.pre
  have hown : s.vm.findClass RX5 = some m.cls := findClass_of_methodNamed B.named
  have hlocks := B.notSynchronized
  subst hsz
  have hD := hD0.self (sz := s.heap.size)
  obtain ⟨A, hAe⟩ := nm_ex (va_A (oTM q0 qn0 qk0 qr0 qc0 qt0 qd0 qs0 qf0 qw0 rowCount anyKept (oPort C qn0 qn1 qn2 qn3 qn4 qn5 qn6 now (oPort C qr0 qr1 qr2 qr3 qr4 qr5 qr6 trial []))) s.heap.size)
  rw [← hAe] at hD hE ⊢
  have hA : ∀ q : Nat, s.heap.size ≤ q → A q := fun q h => by rw [hAe]; exact Or.inr h
  have hS : va_S A s.heap s.heap [] := va_S.rf
  have hl := lv_entry ([.ref q0, .int x0, .int x1, .int x2]) (n := 6) (Nat.le_of_ble_eq_true rfl)
  rw [lg_entry_eq]
  generalize (lg_sl ([.ref q0, .int x0, .int x1, .int x2]) ++ List.replicate (6 - (lg_sl ([.ref q0, .int x0, .int x1, .int x2])).length) Slot.unset).toArray = ls at hl ⊢
  have hl : lv_has ls 6 [(0, .ref q0), (1, .int x0), (2, .int x1), (3, .int x2)] := hl
  obtain ⟨Q, hQ⟩ := nm_ex (MQ below (QI D C (oTM q0 qn0 qk0 qr0 qc0 qt0 qd0 qs0 qf0 qw0 rowCount anyKept (oPort C qn0 qn1 qn2 qn3 qn4 qn5 qn6 now (oPort C qr0 qr1 qr2 qr3 qr4 qr5 qr6 trial []))) (oTM q0 qn0 qk0 qr0 qc0 qt0 qd0 qs0 qf0 qw0 rowCount anyKept (oPort C qn0 qn1 qn2 qn3 qn4 qn5 qn6 now (oPort C qr0 qr1 qr2 qr3 qr4 qr5 qr6 (trial') []))) s.heap.size r) (List.toArray [Value.ref q0, Value.int x0, Value.int x1, Value.int x2]) s 0 0 A)
  show W p l e (headSpec wsX5_apartFor (rmX5_apartFor)).room s m (List.toArray [Value.ref q0, Value.int x0, Value.int x1, Value.int x2]) below meth c s.heap [] 0 0 (MQ below (QI D C (oTM q0 qn0 qk0 qr0 qc0 qt0 qd0 qs0 qf0 qw0 rowCount anyKept (oPort C qn0 qn1 qn2 qn3 qn4 qn5 qn6 now (oPort C qr0 qr1 qr2 qr3 qr4 qr5 qr6 trial []))) (oTM q0 qn0 qk0 qr0 qc0 qt0 qd0 qs0 qf0 qw0 rowCount anyKept (oPort C qn0 qn1 qn2 qn3 qn4 qn5 qn6 now (oPort C qr0 qr1 qr2 qr3 qr4 qr5 qr6 (trial') []))) s.heap.size r) (List.toArray [Value.ref q0, Value.int x0, Value.int x1, Value.int x2]) s 0 0 A) _
  rw [← hQ]
  unfold f_X5_apartFor at hf
  have main : ∀ (H : Heap) (locs : List Loc), va_P D vwCl (oTM q0 qn0 qk0 qr0 qc0 qt0 qd0 qs0 qf0 qw0 rowCount anyKept (oPort C qn0 qn1 qn2 qn3 qn4 qn5 qn6 now (oPort C qr0 qr1 qr2 qr3 qr4 qr5 qr6 trial []))) H → va_D A (oTM q0 qn0 qk0 qr0 qc0 qt0 qd0 qs0 qf0 qw0 rowCount anyKept (oPort C qn0 qn1 qn2 qn3 qn4 qn5 qn6 now (oPort C qr0 qr1 qr2 qr3 qr4 qr5 qr6 trial []))) → va_S A s.heap H locs → W p l e (headSpec wsX5_apartFor (rmX5_apartFor)).room s m (List.toArray [Value.ref q0, Value.int x0, Value.int x1, Value.int x2]) below meth c H locs 0 0 Q (F0 m 0 ls []) := by
    intro H locs hP hD hS
    refine lv_aload_n hx hb dX5_apartFor_0 rfl (lv_at hl 0 rfl) ?_
    refine lv_iload_n hx hb dX5_apartFor_1 rfl (lv_at hl 1 rfl) ?_
    refine lv_iload_n hx hb dX5_apartFor_2 rfl (lv_at hl 2 rfl) ?_
    refine lv_iload_n hx hb dX5_apartFor_3 rfl (lv_at hl 3 rfl) ?_
    refine kcz (Wx := (oTM q0 qn0 qk0 qr0 qc0 qt0 qd0 qs0 qf0 qw0 rowCount anyKept (oPort C qn0 qn1 qn2 qn3 qn4 qn5 qn6 now (oPort C qr0 qr1 qr2 qr3 qr4 qr5 qr6 trial [])))) (va_runV (As := [.int x0, .int x1, .int x2]) (rest := []) ⟨hx, hb, hml, hown, hts⟩ (c_X5_isWish l E D C q0 qn0 qk0 qr0 qc0 qt0 qd0 qs0 qf0 qw0 qn1 qn2 qn3 qn4 qn5 qn6 H.size rowCount anyKept now x0 x1 x2 _ rfl) (cwV 3 hts gX5_apartFor_X5_isWish rfl rfl rfl hdX5_isWish ⟨Nat.le_of_ble_eq_true rfl, Nat.le_of_ble_eq_true rfl⟩) (kpreV hP hD hK hS hE hA [0, 1, 2, 3, 4, 5, 6, 7] rfl rfl 0 rfl rfl rfl) rfl rfl hl.1 rfl (lv_room (Nat.le_of_ble_eq_true rfl)) dX5_apartFor_4 ⟨Nat.zero_le _, Nat.zero_le _⟩) hP hD hS hA [0, 1, 2, 3, 4, 5, 6, 7] rfl rfl rfl (fun H locs hz1 hP hD hS => ?_)
    refine lv_if_ne (tgt := 12) hx hb dX5_apartFor_7 (by decide) (fun c2 => ?_) (fun c2 => ?_)
    · replace hf := if_fe c2 hf
      refine lv_iconst (v := 0) hx hb dX5_apartFor_12 rfl ?_
      refine lv_istore (lv' := [(4, .int 0), (0, .ref q0), (1, .int x0), (2, .int x1), (3, .int x2)]) hx hb dX5_apartFor_13 hl (by decide) rfl (fun ls hl => ?_)
      have hL15 : ∀ (n : Nat) (i3 : Int32) (v4 : PV) (H : Heap) (locs : List Loc) (ls : Array Slot), va_P D vwCl (oTM q0 qn0 qk0 qr0 qc0 qt0 qd0 qs0 qf0 qw0 rowCount anyKept (oPort C qn0 qn1 qn2 qn3 qn4 qn5 qn6 now (oPort C qr0 qr1 qr2 qr3 qr4 qr5 qr6 v4 []))) H → va_D A (oTM q0 qn0 qk0 qr0 qc0 qt0 qd0 qs0 qf0 qw0 rowCount anyKept (oPort C qn0 qn1 qn2 qn3 qn4 qn5 qn6 now (oPort C qr0 qr1 qr2 qr3 qr4 qr5 qr6 v4 []))) → va_S A s.heap H locs → lv_has ls 6 [(4, .int i3), (0, .ref q0), (1, .int x0), (2, .int x1), (3, .int x2)] → f_X5_apartFor_L15 N now x0 x1 x2 n i3 v4 = some (r, trial') → W p l e (headSpec wsX5_apartFor (rmX5_apartFor)).room s m (List.toArray [Value.ref q0, Value.int x0, Value.int x1, Value.int x2]) below meth c H locs 0 0 Q (F0 m 15 ls []) := by
        intro n
        induction n with
        | zero =>
          intro i3 v4 H locs ls hP hD hS hl hf
          exact absurd hf (fun h => by cases h)
        | succ n ih =>
          intro i3 v4 H locs ls hP hD hS hl hf
          rw [f_X5_apartFor_L15] at hf
          refine lv_iload hx hb dX5_apartFor_15 (lv_at hl 0 rfl) ?_
          refine lv_bipush (v := 6) hx hb dX5_apartFor_17 rfl ?_
          refine lv_icmp_gt (tgt := 69) hx hb dX5_apartFor_19 (by decide) (fun c5 => ?_) (fun c5 => ?_)
          · replace hf := if_te c5 hf
            refine lv_bipush (v := (-3)) hx hb dX5_apartFor_69 rfl ?_
            cases hf
            exact kri hQ hAe hx hb hr hlocks hP hD hK hS dX5_apartFor_71
          · replace hf := if_fe c5 hf
            refine lv_iconst (v := 0) hx hb dX5_apartFor_22 rfl ?_
            refine lv_istore (lv' := [(5, .int 0), (4, .int i3), (0, .ref q0), (1, .int x0), (2, .int x1), (3, .int x2)]) hx hb dX5_apartFor_23 hl (by decide) rfl (fun ls hl => ?_)
            obtain ⟨j7, hj7, hf⟩ := lj_e hf
            have Hj7 : ∀ (v6 : PV) (H : Heap) (locs : List Loc) (ls : Array Slot), va_P D vwCl (oTM q0 qn0 qk0 qr0 qc0 qt0 qd0 qs0 qf0 qw0 rowCount anyKept (oPort C qn0 qn1 qn2 qn3 qn4 qn5 qn6 now (oPort C qr0 qr1 qr2 qr3 qr4 qr5 qr6 v6 []))) H → va_D A (oTM q0 qn0 qk0 qr0 qc0 qt0 qd0 qs0 qf0 qw0 rowCount anyKept (oPort C qn0 qn1 qn2 qn3 qn4 qn5 qn6 now (oPort C qr0 qr1 qr2 qr3 qr4 qr5 qr6 v6 []))) → va_S A s.heap H locs → lv_has ls 6 [(4, .int i3), (0, .ref q0), (1, .int x0), (2, .int x1), (3, .int x2)] → j7 v6 = some (r, trial') → W p l e (headSpec wsX5_apartFor (rmX5_apartFor)).room s m (List.toArray [Value.ref q0, Value.int x0, Value.int x1, Value.int x2]) below meth c H locs 0 0 Q (F0 m 63 ls []) := by
              intro v6 H locs ls hP hD hS hl hf
              rw [hj7] at hf
              obtain ⟨t8, et8, hf⟩ := lj_e hf
              refine lv_iinc (v := t8) (lv' := [(4, .int t8), (0, .ref q0), (1, .int x0), (2, .int x1), (3, .int x2)]) hx hb dX5_apartFor_63 hl (k := 0) rfl (by rw [et8]; rfl) (by decide) rfl (fun ls hl => ?_)
              refine lv_goto (tgt := 15) hx hb dX5_apartFor_66 (by decide) ?_
              exact ih t8 v6 H locs ls hP hD hS (lv_sub hl [0, 1, 2, 3, 4] rfl) hf
            have hL25 : ∀ (n : Nat) (i9 : Int32) (v10 : PV) (H : Heap) (locs : List Loc) (ls : Array Slot), va_P D vwCl (oTM q0 qn0 qk0 qr0 qc0 qt0 qd0 qs0 qf0 qw0 rowCount anyKept (oPort C qn0 qn1 qn2 qn3 qn4 qn5 qn6 now (oPort C qr0 qr1 qr2 qr3 qr4 qr5 qr6 v10 []))) H → va_D A (oTM q0 qn0 qk0 qr0 qc0 qt0 qd0 qs0 qf0 qw0 rowCount anyKept (oPort C qn0 qn1 qn2 qn3 qn4 qn5 qn6 now (oPort C qr0 qr1 qr2 qr3 qr4 qr5 qr6 v10 []))) → va_S A s.heap H locs → lv_has ls 6 [(5, .int i9), (4, .int i3), (0, .ref q0), (1, .int x0), (2, .int x1), (3, .int x2)] → f_X5_apartFor_L25 N now x0 x1 x2 i3 j7 n i9 v10 = some (r, trial') → W p l e (headSpec wsX5_apartFor (rmX5_apartFor)).room s m (List.toArray [Value.ref q0, Value.int x0, Value.int x1, Value.int x2]) below meth c H locs 0 0 Q (F0 m 25 ls []) := by
              intro n
              induction n with
              | zero =>
                intro i9 v10 H locs ls hP hD hS hl hf
                exact absurd hf (fun h => by cases h)
              | succ n ih =>
                intro i9 v10 H locs ls hP hD hS hl hf
                rw [f_X5_apartFor_L25] at hf
                refine lv_iload hx hb dX5_apartFor_25 (lv_at hl 0 rfl) ?_
                refine lv_bipush (v := 64) hx hb dX5_apartFor_27 rfl ?_
                refine lv_icmp_ge (tgt := 63) hx hb dX5_apartFor_29 (by decide) (fun c11 => ?_) (fun c11 => ?_)
                · replace hf := if_te c11 hf
                  exact Hj7 v10 H locs ls hP hD hS (lv_sub hl [1, 2, 3, 4, 5] rfl) hf
                · replace hf := if_fe c11 hf
                  refine lv_iload hx hb dX5_apartFor_32 (lv_at hl 0 rfl) ?_
                  refine kci (Wx := (oTM q0 qn0 qk0 qr0 qc0 qt0 qd0 qs0 qf0 qw0 rowCount anyKept (oPort C qn0 qn1 qn2 qn3 qn4 qn5 qn6 now (oPort C qr0 qr1 qr2 qr3 qr4 qr5 qr6 v10 [])))) (va_runS (As := [.int i9]) (rest := []) ⟨hx, hb, hml, hown, hts⟩ (c_J6_bitCount_0f7a4 l E D C H.size i9 _ rfl) (va_cwS 1 hts gX5_apartFor_J6_bitCount_0f7a4 rfl rfl rfl hdJ6_bitCount_0f7a4 ⟨Nat.le_of_ble_eq_true rfl, Nat.le_of_ble_eq_true rfl⟩) (kpre hP hD hK hS hE hA [] rfl rfl) rfl rfl hl.1 rfl (lv_room (Nat.le_of_ble_eq_true rfl)) dX5_apartFor_34 ⟨Nat.zero_le _, Nat.zero_le _⟩) hP hD hS hA [] rfl rfl rfl (fun H locs hP hD hS => ?_)
                  refine lv_iload hx hb dX5_apartFor_37 (lv_at hl 1 rfl) ?_
                  obtain ⟨j13, hj13, hf⟩ := lj_e hf
                  have Hj13 : ∀ (v12 : PV) (H : Heap) (locs : List Loc) (ls : Array Slot), va_P D vwCl (oTM q0 qn0 qk0 qr0 qc0 qt0 qd0 qs0 qf0 qw0 rowCount anyKept (oPort C qn0 qn1 qn2 qn3 qn4 qn5 qn6 now (oPort C qr0 qr1 qr2 qr3 qr4 qr5 qr6 v12 []))) H → va_D A (oTM q0 qn0 qk0 qr0 qc0 qt0 qd0 qs0 qf0 qw0 rowCount anyKept (oPort C qn0 qn1 qn2 qn3 qn4 qn5 qn6 now (oPort C qr0 qr1 qr2 qr3 qr4 qr5 qr6 v12 []))) → va_S A s.heap H locs → lv_has ls 6 [(5, .int i9), (4, .int i3), (0, .ref q0), (1, .int x0), (2, .int x1), (3, .int x2)] → j13 v12 = some (r, trial') → W p l e (headSpec wsX5_apartFor (rmX5_apartFor)).room s m (List.toArray [Value.ref q0, Value.int x0, Value.int x1, Value.int x2]) below meth c H locs 0 0 Q (F0 m 57 ls []) := by
                    intro v12 H locs ls hP hD hS hl hf
                    rw [hj13] at hf
                    obtain ⟨t14, et14, hf⟩ := lj_e hf
                    refine lv_iinc (v := t14) (lv' := [(5, .int t14), (4, .int i3), (0, .ref q0), (1, .int x0), (2, .int x1), (3, .int x2)]) hx hb dX5_apartFor_57 hl (k := 0) rfl (by rw [et14]; rfl) (by decide) rfl (fun ls hl => ?_)
                    refine lv_goto (tgt := 25) hx hb dX5_apartFor_60 (by decide) ?_
                    exact ih t14 v12 H locs ls hP hD hS (lv_sub hl [0, 1, 2, 3, 4, 5] rfl) hf
                  refine lv_icmp_ne (tgt := 57) hx hb dX5_apartFor_39 (by decide) (fun c15 => ?_) (fun c15 => ?_)
                  · replace hf := if_fe c15 hf
                    exact Hj13 v10 H locs ls hP hD hS (lv_sub hl [0, 1, 2, 3, 4, 5] rfl) hf
                  · replace hf := if_te c15 hf
                    refine lv_aload_n hx hb dX5_apartFor_42 rfl (lv_at hl 2 rfl) ?_
                    refine lv_iload_n hx hb dX5_apartFor_43 rfl (lv_at hl 3 rfl) ?_
                    refine lv_iload_n hx hb dX5_apartFor_44 rfl (lv_at hl 4 rfl) ?_
                    refine lv_iload_n hx hb dX5_apartFor_45 rfl (lv_at hl 5 rfl) ?_
                    refine lv_iload hx hb dX5_apartFor_46 (lv_at hl 0 rfl) ?_
                    obtain ⟨r16, v17, h18, hf⟩ := ob2_e hf
                    refine kcz (Wx := (oTM q0 qn0 qk0 qr0 qc0 qt0 qd0 qs0 qf0 qw0 rowCount anyKept (oPort C qn0 qn1 qn2 qn3 qn4 qn5 qn6 now (oPort C qr0 qr1 qr2 qr3 qr4 qr5 qr6 v17 [])))) (va_runV (As := [.int x0, .int x1, .int x2, .int i9]) (rest := []) ⟨hx, hb, hml, hown, hts⟩ (c_X5_neverComesApart l E D C q0 qn0 qk0 qr0 qc0 qt0 qd0 qs0 qf0 qw0 qn1 qn2 qn3 qn4 qn5 qn6 qr1 qr2 qr3 qr4 qr5 qr6 H.size N rowCount anyKept now v10 x0 x1 x2 i9 r16 v17 h18) (cwV 4 hts gX5_apartFor_X5_neverComesApart rfl rfl rfl hdX5_neverComesApart ⟨Nat.le_of_ble_eq_true rfl, Nat.le_of_ble_eq_true rfl⟩) (kpreV hP hD hK hS hE hA [0, 1, 2, 3, 4, 5, 6, 7, 8, 9, 10, 11, 12, 13, 14] rfl rfl 0 rfl rfl rfl) rfl rfl hl.1 rfl (lv_room (Nat.le_of_ble_eq_true rfl)) dX5_apartFor_48 ⟨Nat.zero_le _, Nat.zero_le _⟩) hP hD hS hA [0, 1, 2, 3, 4, 5, 6, 7, 8, 9, 10, 11, 12, 13, 14] rfl rfl rfl (fun H locs hz19 hP hD hS => ?_)
                    refine lv_if_eq (tgt := 57) hx hb dX5_apartFor_51 (by decide) (fun c20 => ?_) (fun c20 => ?_)
                    · replace hf := if_te c20 hf
                      exact Hj13 v17 H locs ls hP hD hS (lv_sub hl [0, 1, 2, 3, 4, 5] rfl) hf
                    · replace hf := if_fe c20 hf
                      refine lv_iload hx hb dX5_apartFor_54 (lv_at hl 0 rfl) ?_
                      cases hf
                      exact kri hQ hAe hx hb hr hlocks hP hD hK hS dX5_apartFor_56
            exact hL25 N 0 v4 H locs ls hP hD hS (lv_sub hl [0, 1, 2, 3, 4, 5] rfl) hf
      exact hL15 N 0 trial H locs ls hP hD hS (lv_sub hl [0, 1, 2, 3, 4] rfl) hf
    · replace hf := if_te c2 hf
      refine lv_iconst (v := (-1)) hx hb dX5_apartFor_10 rfl ?_
      cases hf
      exact kri hQ hAe hx hb hr hlocks hP hD hK hS dX5_apartFor_11
  exact main _ _ hP hD hS

def rmX5_fitsFrom : Room := { frames := 4, cells := 0, slots := 0, locals := 91 }
theorem hdX5_fitsFrom : yX5_fitsFrom.cls = RX5 ∧ yX5_fitsFrom.cls ≠ "java/lang/invoke/MethodHandle" ∧ yX5_fitsFrom.cls ≠ "java/lang/invoke/VarHandle" ∧ (parseMethodDescriptor yX5_fitsFrom.desc).map (fun d => d.parameters.length) = some 3 := by decide +kernel
set_option maxHeartbeats 40000000 in
set_option maxRecDepth 100000 in
theorem c_X5_fitsFrom (l : Launch) (E : Nat → Nat) (D : va_G) (C : Nat → ClassId) (q0 qn0 qk0 qr0 qc0 qt0 qd0 qs0 qf0 qw0 qn1 qn2 qn3 qn4 qn5 qn6 qr1 qr2 qr3 qr4 qr5 qr6 b0_0 b0_1 : Nat) (sz : Nat) (N : Nat) (rowCount : Int32) (anyKept : Int32) (now : PV) (trial : PV) (w0 : HV) (x1 : Int32) (x2 : Int32) (r : Int32) (trial' : PV) (hf : f_X5_fitsFrom N now trial w0 x1 x2 = some (r, trial')) : Met l yX5_fitsFrom wsX5_fitsFrom rmX5_fitsFrom (PC E D C [.ref q0, .ref b0_0, .int x1, .int x2] (oTM q0 qn0 qk0 qr0 qc0 qt0 qd0 qs0 qf0 qw0 rowCount anyKept (oPort C qn0 qn1 qn2 qn3 qn4 qn5 qn6 now (oPort C qr0 qr1 qr2 qr3 qr4 qr5 qr6 trial (oSheet C b0_0 b0_1 w0 [])))) sz) (QZ D C (oTM q0 qn0 qk0 qr0 qc0 qt0 qd0 qs0 qf0 qw0 rowCount anyKept (oPort C qn0 qn1 qn2 qn3 qn4 qn5 qn6 now (oPort C qr0 qr1 qr2 qr3 qr4 qr5 qr6 trial (oSheet C b0_0 b0_1 w0 [])))) (oTM q0 qn0 qk0 qr0 qc0 qt0 qd0 qs0 qf0 qw0 rowCount anyKept (oPort C qn0 qn1 qn2 qn3 qn4 qn5 qn6 now (oPort C qr0 qr1 qr2 qr3 qr4 qr5 qr6 (trial') (oSheet C b0_0 b0_1 w0 [])))) sz r) 0 0 (va_A (oTM q0 qn0 qk0 qr0 qc0 qt0 qd0 qs0 qf0 qw0 rowCount anyKept (oPort C qn0 qn1 qn2 qn3 qn4 qn5 qn6 now (oPort C qr0 qr1 qr2 qr3 qr4 qr5 qr6 trial (oSheet C b0_0 b0_1 w0 [])))) sz) := by
  refine Met.ofW (cc := cX5_fitsFrom) (maxL := 7) (ret := (some .boolean)) (by decide) rfl ?_
  intro p e s m args below meth c s₁ B hml hv
  obtain ⟨rfl, hsz, hP, hK, hD0, hE⟩ := hv
  have hx := B.exec
  have hb := B.bytes
  have hr := B.returns
  have hts := atoms_spec (ws := wsX5_fitsFrom) B.pre
  have hown : s.vm.findClass RX5 = some m.cls := findClass_of_methodNamed B.named
  have hlocks := B.notSynchronized
  subst hsz
  have hi_RX1 : ∀ w ∈ wsX10, w ∈ wsX5_fitsFrom := fun _ h => List.mem_cons_of_mem _ (List.mem_append_left _ (List.mem_append_right _ h))
  have hi_RX2 : ∀ w ∈ wsX20, w ∈ wsX5_fitsFrom := fun _ h => List.mem_cons_of_mem _ (List.mem_append_right _ h)
  have hi_RX5 : ∀ w ∈ wsX50, w ∈ wsX5_fitsFrom := fun _ h => List.mem_cons_of_mem _ (List.mem_append_left _ (List.mem_append_left _ (List.mem_append_right _ h)))
  have hD := hD0.self (sz := s.heap.size)
  obtain ⟨A, hAe⟩ := nm_ex (va_A (oTM q0 qn0 qk0 qr0 qc0 qt0 qd0 qs0 qf0 qw0 rowCount anyKept (oPort C qn0 qn1 qn2 qn3 qn4 qn5 qn6 now (oPort C qr0 qr1 qr2 qr3 qr4 qr5 qr6 trial (oSheet C b0_0 b0_1 w0 [])))) s.heap.size)
  rw [← hAe] at hD hE ⊢
  have hA : ∀ q : Nat, s.heap.size ≤ q → A q := fun q h => by rw [hAe]; exact Or.inr h
  have hS : va_S A s.heap s.heap [] := va_S.rf
  have hl := lv_entry ([.ref q0, .ref b0_0, .int x1, .int x2]) (n := 7) (Nat.le_of_ble_eq_true rfl)
  rw [lg_entry_eq]
  generalize (lg_sl ([.ref q0, .ref b0_0, .int x1, .int x2]) ++ List.replicate (7 - (lg_sl ([.ref q0, .ref b0_0, .int x1, .int x2])).length) Slot.unset).toArray = ls at hl ⊢
  have hl : lv_has ls 7 [(0, .ref q0), (1, .ref b0_0), (2, .int x1), (3, .int x2)] := hl
  obtain ⟨Q, hQ⟩ := nm_ex (MQ below (QZ D C (oTM q0 qn0 qk0 qr0 qc0 qt0 qd0 qs0 qf0 qw0 rowCount anyKept (oPort C qn0 qn1 qn2 qn3 qn4 qn5 qn6 now (oPort C qr0 qr1 qr2 qr3 qr4 qr5 qr6 trial (oSheet C b0_0 b0_1 w0 [])))) (oTM q0 qn0 qk0 qr0 qc0 qt0 qd0 qs0 qf0 qw0 rowCount anyKept (oPort C qn0 qn1 qn2 qn3 qn4 qn5 qn6 now (oPort C qr0 qr1 qr2 qr3 qr4 qr5 qr6 (trial') (oSheet C b0_0 b0_1 w0 [])))) s.heap.size r) (List.toArray [Value.ref q0, Value.ref b0_0, Value.int x1, Value.int x2]) s 0 0 A)
  show W p l e (headSpec wsX5_fitsFrom (rmX5_fitsFrom)).room s m (List.toArray [Value.ref q0, Value.ref b0_0, Value.int x1, Value.int x2]) below meth c s.heap [] 0 0 (MQ below (QZ D C (oTM q0 qn0 qk0 qr0 qc0 qt0 qd0 qs0 qf0 qw0 rowCount anyKept (oPort C qn0 qn1 qn2 qn3 qn4 qn5 qn6 now (oPort C qr0 qr1 qr2 qr3 qr4 qr5 qr6 trial (oSheet C b0_0 b0_1 w0 [])))) (oTM q0 qn0 qk0 qr0 qc0 qt0 qd0 qs0 qf0 qw0 rowCount anyKept (oPort C qn0 qn1 qn2 qn3 qn4 qn5 qn6 now (oPort C qr0 qr1 qr2 qr3 qr4 qr5 qr6 (trial') (oSheet C b0_0 b0_1 w0 [])))) s.heap.size r) (List.toArray [Value.ref q0, Value.ref b0_0, Value.int x1, Value.int x2]) s 0 0 A) _
  rw [← hQ]
  unfold f_X5_fitsFrom at hf
  have main : ∀ (H : Heap) (locs : List Loc), va_P D vwCl (oTM q0 qn0 qk0 qr0 qc0 qt0 qd0 qs0 qf0 qw0 rowCount anyKept (oPort C qn0 qn1 qn2 qn3 qn4 qn5 qn6 now (oPort C qr0 qr1 qr2 qr3 qr4 qr5 qr6 trial (oSheet C b0_0 b0_1 w0 [])))) H → va_D A (oTM q0 qn0 qk0 qr0 qc0 qt0 qd0 qs0 qf0 qw0 rowCount anyKept (oPort C qn0 qn1 qn2 qn3 qn4 qn5 qn6 now (oPort C qr0 qr1 qr2 qr3 qr4 qr5 qr6 trial (oSheet C b0_0 b0_1 w0 [])))) → va_S A s.heap H locs → W p l e (headSpec wsX5_fitsFrom (rmX5_fitsFrom)).room s m (List.toArray [Value.ref q0, Value.ref b0_0, Value.int x1, Value.int x2]) below meth c H locs 0 0 Q (F0 m 0 ls []) := by
    intro H locs hP hD hS
    refine lv_aload_n hx hb dX5_fitsFrom_0 rfl (lv_at hl 0 rfl) ?_
    refine va_get (D := D) (ci := 5) (v := .ref qr0) (C := RX5) (T := TX5) (N := 11) hx hb hts hi_RX5 hown hK hP 0 rfl rfl 2 (by decide) (hts (.fieldLink RX5 19 "TravelMarks" "trial" "LTravelMarks$Port;") (List.mem_of_getElem? (i := 1) rfl)) (fun _ h9 => h9) rfl dX5_fitsFrom_1 ?_
    refine lv_aload_n hx hb dX5_fitsFrom_4 rfl (lv_at hl 0 rfl) ?_
    refine va_get (D := D) (ci := 5) (v := .ref qn0) (C := RX5) (T := TX5) (N := 11) hx hb hts hi_RX5 hown hK hP 0 rfl rfl 0 (by decide) (hts (.fieldLink RX5 10 "TravelMarks" "now" "LTravelMarks$Port;") (List.mem_of_getElem? (i := 2) rfl)) (fun _ h9 => h9) rfl dX5_fitsFrom_5 ?_
    obtain ⟨v1, h2, hf⟩ := ob1_e hf
    refine kcv (Wx := (oTM q0 qn0 qk0 qr0 qc0 qt0 qd0 qs0 qf0 qw0 rowCount anyKept (oPort C qn0 qn1 qn2 qn3 qn4 qn5 qn6 now (oPort C qr0 qr1 qr2 qr3 qr4 qr5 qr6 v1 (oSheet C b0_0 b0_1 w0 []))))) (va_runV (As := [.ref qn0]) (rest := []) ⟨hx, hb, hml, hown, hts⟩ (c_X1_become l E D C qr0 qr1 qr2 qr3 qr4 qr5 qr6 qn0 qn1 qn2 qn3 qn4 qn5 qn6 H.size trial now v1 h2) (cwV 1 hts gX5_fitsFrom_X1_become rfl rfl rfl hdX1_become ⟨Nat.le_of_ble_eq_true rfl, Nat.le_of_ble_eq_true rfl⟩) (kpreV hP hD hK hS hE hA [8, 9, 10, 11, 12, 13, 14, 1, 2, 3, 4, 5, 6, 7] rfl rfl 8 rfl rfl rfl) rfl rfl hl.1 rfl (lv_room (Nat.le_of_ble_eq_true rfl)) dX5_fitsFrom_8 ⟨Nat.zero_le _, Nat.zero_le _⟩) hP hD hS hA [8, 9, 10, 11, 12, 13, 14, 1, 2, 3, 4, 5, 6, 7] rfl rfl rfl (fun H locs hP hD hS => ?_)
    refine lv_aload_n hx hb dX5_fitsFrom_11 rfl (lv_at hl 0 rfl) ?_
    refine va_get (D := D) (ci := 5) (v := .ref qr0) (C := RX5) (T := TX5) (N := 11) hx hb hts hi_RX5 hown hK hP 0 rfl rfl 2 (by decide) (hts (.fieldLink RX5 19 "TravelMarks" "trial" "LTravelMarks$Port;") (List.mem_of_getElem? (i := 1) rfl)) (fun _ h9 => h9) rfl dX5_fitsFrom_12 ?_
    refine va_get (D := D) (ci := 1) (v := .ref qr4) (C := RX1) (T := TX1) (N := 10) hx hb hts hi_RX1 hown hK hP 8 rfl rfl 3 (by decide) (hts (.fieldLink RX5 120 "TravelMarks$Port" "on" "[I") (List.mem_of_getElem? (i := 3) rfl)) (fun _ h9 => h9) rfl dX5_fitsFrom_15 ?_
    refine lv_iload_n hx hb dX5_fitsFrom_18 rfl (lv_at hl 2 rfl) ?_
    refine lv_iload_n hx hb dX5_fitsFrom_19 rfl (lv_at hl 3 rfl) ?_
    obtain ⟨hi3, hf⟩ := ckA_e hf
    refine va_iast hx hb hK hP hD hS 12 0 rfl rfl hi3 dX5_fitsFrom_20 (fun H locs hP hD hS => ?_)
    obtain ⟨v4, ev4, hf⟩ := lj_e hf
    have hP : va_P D vwCl (oTM q0 qn0 qk0 qr0 qc0 qt0 qd0 qs0 qf0 qw0 rowCount anyKept (oPort C qn0 qn1 qn2 qn3 qn4 qn5 qn6 now (oPort C qr0 qr1 qr2 qr3 qr4 qr5 qr6 v4 (oSheet C b0_0 b0_1 w0 [])))) H := by rw [ev4]; exact hP
    have hD : va_D A (oTM q0 qn0 qk0 qr0 qc0 qt0 qd0 qs0 qf0 qw0 rowCount anyKept (oPort C qn0 qn1 qn2 qn3 qn4 qn5 qn6 now (oPort C qr0 qr1 qr2 qr3 qr4 qr5 qr6 v4 (oSheet C b0_0 b0_1 w0 [])))) := by rw [ev4]; exact hD
    refine lv_iconst (v := 0) hx hb dX5_fitsFrom_21 rfl ?_
    refine lv_istore (lv' := [(4, .int 0), (0, .ref q0), (1, .ref b0_0), (2, .int x1), (3, .int x2)]) hx hb dX5_fitsFrom_22 hl (by decide) rfl (fun ls hl => ?_)
    have hL24 : ∀ (n : Nat) (i5 : Int32) (v6 : PV) (H : Heap) (locs : List Loc) (ls : Array Slot), va_P D vwCl (oTM q0 qn0 qk0 qr0 qc0 qt0 qd0 qs0 qf0 qw0 rowCount anyKept (oPort C qn0 qn1 qn2 qn3 qn4 qn5 qn6 now (oPort C qr0 qr1 qr2 qr3 qr4 qr5 qr6 v6 (oSheet C b0_0 b0_1 w0 [])))) H → va_D A (oTM q0 qn0 qk0 qr0 qc0 qt0 qd0 qs0 qf0 qw0 rowCount anyKept (oPort C qn0 qn1 qn2 qn3 qn4 qn5 qn6 now (oPort C qr0 qr1 qr2 qr3 qr4 qr5 qr6 v6 (oSheet C b0_0 b0_1 w0 [])))) → va_S A s.heap H locs → lv_has ls 7 [(4, .int i5), (0, .ref q0), (1, .ref b0_0), (2, .int x1)] → f_X5_fitsFrom_L24 N w0 x1 n i5 v6 = some (r, trial') → W p l e (headSpec wsX5_fitsFrom (rmX5_fitsFrom)).room s m (List.toArray [Value.ref q0, Value.ref b0_0, Value.int x1, Value.int x2]) below meth c H locs 0 0 Q (F0 m 24 ls []) := by
      intro n
      induction n with
      | zero =>
        intro i5 v6 H locs ls hP hD hS hl hf
        exact absurd hf (fun h => by cases h)
      | succ n ih =>
        intro i5 v6 H locs ls hP hD hS hl hf
        rw [f_X5_fitsFrom_L24] at hf
        refine lv_iload hx hb dX5_fitsFrom_24 (lv_at hl 0 rfl) ?_
        refine lv_aload_n hx hb dX5_fitsFrom_26 rfl (lv_at hl 2 rfl) ?_
        refine va_get (D := D) (ci := 2) (v := .int (shSize w0)) (C := RX2) (T := TX2) (N := 3) hx hb hts hi_RX2 hown hK hP 15 rfl rfl 2 (by decide) (hts (.fieldLink RX5 219 "TravelMarks$Sheet" "size" "I") (List.mem_of_getElem? (i := 4) rfl)) (fun _ h9 => h9) rfl dX5_fitsFrom_27 ?_
        refine lv_icmp_ge (tgt := 82) hx hb dX5_fitsFrom_30 (by decide) (fun c7 => ?_) (fun c7 => ?_)
        · replace hf := if_te c7 hf
          refine lv_iconst (v := 1) hx hb dX5_fitsFrom_82 rfl ?_
          cases hf
          exact krz hQ hAe hx hb hr hlocks zb_1 hP hD hK hS dX5_fitsFrom_83
        · replace hf := if_fe c7 hf
          refine lv_aload_n hx hb dX5_fitsFrom_33 rfl (lv_at hl 1 rfl) ?_
          refine va_get (D := D) (ci := 5) (v := .ref qr0) (C := RX5) (T := TX5) (N := 11) hx hb hts hi_RX5 hown hK hP 0 rfl rfl 2 (by decide) (hts (.fieldLink RX5 19 "TravelMarks" "trial" "LTravelMarks$Port;") (List.mem_of_getElem? (i := 1) rfl)) (fun _ h9 => h9) rfl dX5_fitsFrom_34 ?_
          obtain ⟨v8, h9, hf⟩ := ob1_e hf
          refine kcv (Wx := (oTM q0 qn0 qk0 qr0 qc0 qt0 qd0 qs0 qf0 qw0 rowCount anyKept (oPort C qn0 qn1 qn2 qn3 qn4 qn5 qn6 now (oPort C qr0 qr1 qr2 qr3 qr4 qr5 qr6 v8 (oSheet C b0_0 b0_1 w0 []))))) (va_runV (As := []) (rest := []) ⟨hx, hb, hml, hown, hts⟩ (c_X1_passHour l E D C qr0 qr1 qr2 qr3 qr4 qr5 qr6 H.size N v6 v8 h9) (cwV 0 hts gX5_fitsFrom_X1_passHour rfl rfl rfl hdX1_passHour ⟨Nat.le_of_ble_eq_true rfl, Nat.le_of_ble_eq_true rfl⟩) (kpreV hP hD hK hS hE hA [8, 9, 10, 11, 12, 13, 14] rfl rfl 8 rfl rfl rfl) rfl rfl hl.1 rfl (lv_room (Nat.le_of_ble_eq_true rfl)) dX5_fitsFrom_37 ⟨Nat.zero_le _, Nat.zero_le _⟩) hP hD hS hA [8, 9, 10, 11, 12, 13, 14] rfl rfl rfl (fun H locs hP hD hS => ?_)
          refine lv_aload_n hx hb dX5_fitsFrom_40 rfl (lv_at hl 2 rfl) ?_
          refine va_get (D := D) (ci := 2) (v := .ref b0_1) (C := RX2) (T := TX2) (N := 3) hx hb hts hi_RX2 hown hK hP 15 rfl rfl 0 (by decide) (hts (.fieldLink RX5 222 "TravelMarks$Sheet" "items" "[J") (List.mem_of_getElem? (i := 5) rfl)) (fun _ h9 => h9) rfl dX5_fitsFrom_41 ?_
          refine lv_iload hx hb dX5_fitsFrom_44 (lv_at hl 0 rfl) ?_
          obtain ⟨y11, ey11, hi10, hf⟩ := rdA_x hf
          refine va_lald hx hb hK hP 16 2 rfl rfl hi10 dX5_fitsFrom_46 ?_
          refine lv_renL ey11 ?_
          refine lv_lstore (lv' := [(5, .long y11), (4, .int i5), (0, .ref q0), (1, .ref b0_0), (2, .int x1)]) hx hb dX5_fitsFrom_47 hl (by decide) rfl (fun ls hl => ?_)
          refine lv_lload hx hb dX5_fitsFrom_49 (lv_at hl 0 rfl) ?_
          refine lv_ldc2 (v := (-1)) hx hb hown (hts (.constantLong RX5 226 (-1)) (List.mem_of_getElem? (i := 6) rfl)) dX5_fitsFrom_51 ?_
          refine W.lcmp hx hb dX5_fitsFrom_54 ?_
          obtain ⟨j12, hj12, hf⟩ := lj_e hf
          have Hj12 : ∀ (H : Heap) (locs : List Loc) (ls : Array Slot), va_P D vwCl (oTM q0 qn0 qk0 qr0 qc0 qt0 qd0 qs0 qf0 qw0 rowCount anyKept (oPort C qn0 qn1 qn2 qn3 qn4 qn5 qn6 now (oPort C qr0 qr1 qr2 qr3 qr4 qr5 qr6 v8 (oSheet C b0_0 b0_1 w0 [])))) H → va_D A (oTM q0 qn0 qk0 qr0 qc0 qt0 qd0 qs0 qf0 qw0 rowCount anyKept (oPort C qn0 qn1 qn2 qn3 qn4 qn5 qn6 now (oPort C qr0 qr1 qr2 qr3 qr4 qr5 qr6 v8 (oSheet C b0_0 b0_1 w0 [])))) → va_S A s.heap H locs → lv_has ls 7 [(4, .int i5), (0, .ref q0), (1, .ref b0_0), (2, .int x1)] → j12 = some (r, trial') → W p l e (headSpec wsX5_fitsFrom (rmX5_fitsFrom)).room s m (List.toArray [Value.ref q0, Value.ref b0_0, Value.int x1, Value.int x2]) below meth c H locs 0 0 Q (F0 m 76 ls []) := by
            intro H locs ls hP hD hS hl hf
            rw [hj12] at hf
            obtain ⟨t13, et13, hf⟩ := lj_e hf
            refine lv_iinc (v := t13) (lv' := [(4, .int t13), (0, .ref q0), (1, .ref b0_0), (2, .int x1)]) hx hb dX5_fitsFrom_76 hl (k := 0) rfl (by rw [et13]; rfl) (by decide) rfl (fun ls hl => ?_)
            refine lv_goto (tgt := 24) hx hb dX5_fitsFrom_79 (by decide) ?_
            exact ih t13 v8 H locs ls hP hD hS (lv_sub hl [0, 1, 2, 3] rfl) hf
          refine lv_if_eq (tgt := 76) hx hb dX5_fitsFrom_55 (by decide) (fun c14 => ?_) (fun c14 => ?_)
          · replace hf := if_te c14 hf
            exact Hj12 H locs ls hP hD hS (lv_sub hl [1, 2, 3, 4] rfl) hf
          · replace hf := if_fe c14 hf
            refine lv_lload hx hb dX5_fitsFrom_58 (lv_at hl 0 rfl) ?_
            refine lv_aload_n hx hb dX5_fitsFrom_60 rfl (lv_at hl 2 rfl) ?_
            refine va_get (D := D) (ci := 5) (v := .ref qr0) (C := RX5) (T := TX5) (N := 11) hx hb hts hi_RX5 hown hK hP 0 rfl rfl 2 (by decide) (hts (.fieldLink RX5 19 "TravelMarks" "trial" "LTravelMarks$Port;") (List.mem_of_getElem? (i := 1) rfl)) (fun _ h9 => h9) rfl dX5_fitsFrom_61 ?_
            refine va_get (D := D) (ci := 1) (v := .ref qr4) (C := RX1) (T := TX1) (N := 10) hx hb hts hi_RX1 hown hK hP 8 rfl rfl 3 (by decide) (hts (.fieldLink RX5 120 "TravelMarks$Port" "on" "[I") (List.mem_of_getElem? (i := 3) rfl)) (fun _ h9 => h9) rfl dX5_fitsFrom_64 ?_
            refine lv_iload_n hx hb dX5_fitsFrom_67 rfl (lv_at hl 4 rfl) ?_
            obtain ⟨y16, ey16, hi15, hf⟩ := rdA_x hf
            refine va_iald hx hb hK hP 12 0 rfl rfl hi15 dX5_fitsFrom_68 ?_
            refine lv_ren ey16 ?_
            refine lv_i2l hx hb dX5_fitsFrom_69 rfl ?_
            refine W.lcmp hx hb dX5_fitsFrom_70 ?_
            refine lv_if_eq (tgt := 76) hx hb dX5_fitsFrom_71 (by decide) (fun c17 => ?_) (fun c17 => ?_)
            · replace hf := if_te c17 hf
              exact Hj12 H locs ls hP hD hS (lv_sub hl [1, 2, 3, 4] rfl) hf
            · replace hf := if_fe c17 hf
              refine lv_iconst (v := 0) hx hb dX5_fitsFrom_74 rfl ?_
              cases hf
              exact krz hQ hAe hx hb hr hlocks zb_0 hP hD hK hS dX5_fitsFrom_75
    exact hL24 N 0 v4 H locs ls hP hD hS (lv_sub hl [0, 1, 2, 3] rfl) hf
  exact main _ _ hP hD hS

def rmX5_fits : Room := { frames := 5, cells := 0, slots := 0, locals := 117 }
theorem hdX5_fits : yX5_fits.cls = RX5 ∧ yX5_fits.cls ≠ "java/lang/invoke/MethodHandle" ∧ yX5_fits.cls ≠ "java/lang/invoke/VarHandle" ∧ (parseMethodDescriptor yX5_fits.desc).map (fun d => d.parameters.length) = some 3 := by decide +kernel
set_option maxHeartbeats 40000000 in
set_option maxRecDepth 100000 in
theorem c_X5_fits (l : Launch) (E : Nat → Nat) (D : va_G) (C : Nat → ClassId) (q0 qn0 qk0 qr0 qc0 qt0 qd0 qs0 qf0 qw0 qn1 qn2 qn3 qn4 qn5 qn6 qr1 qr2 qr3 qr4 qr5 qr6 qs1 qs2 qs3 qs4 qs5 qs6 qs7 qs8 : Nat) (sz : Nat) (N : Nat) (rowCount : Int32) (anyKept : Int32) (now : PV) (trial : PV) (sheets : Nat → HV) (x0 : Int32) (x1 : Int32) (x2 : Int32) (r : Int32) (trial' : PV) (hf : f_X5_fits N now trial sheets x0 x1 x2 = some (r, trial')) : Met l yX5_fits wsX5_fits rmX5_fits (PC E D C [.ref q0, .int x0, .int x1, .int x2] (oTM q0 qn0 qk0 qr0 qc0 qt0 qd0 qs0 qf0 qw0 rowCount anyKept (oPort C qn0 qn1 qn2 qn3 qn4 qn5 qn6 now (oPort C qr0 qr1 qr2 qr3 qr4 qr5 qr6 trial (oSheets C qs0 qs1 qs2 qs3 qs4 qs5 qs6 qs7 qs8 sheets [])))) sz) (QI D C (oTM q0 qn0 qk0 qr0 qc0 qt0 qd0 qs0 qf0 qw0 rowCount anyKept (oPort C qn0 qn1 qn2 qn3 qn4 qn5 qn6 now (oPort C qr0 qr1 qr2 qr3 qr4 qr5 qr6 trial (oSheets C qs0 qs1 qs2 qs3 qs4 qs5 qs6 qs7 qs8 sheets [])))) (oTM q0 qn0 qk0 qr0 qc0 qt0 qd0 qs0 qf0 qw0 rowCount anyKept (oPort C qn0 qn1 qn2 qn3 qn4 qn5 qn6 now (oPort C qr0 qr1 qr2 qr3 qr4 qr5 qr6 (trial') (oSheets C qs0 qs1 qs2 qs3 qs4 qs5 qs6 qs7 qs8 sheets [])))) sz r) 0 0 (va_A (oTM q0 qn0 qk0 qr0 qc0 qt0 qd0 qs0 qf0 qw0 rowCount anyKept (oPort C qn0 qn1 qn2 qn3 qn4 qn5 qn6 now (oPort C qr0 qr1 qr2 qr3 qr4 qr5 qr6 trial (oSheets C qs0 qs1 qs2 qs3 qs4 qs5 qs6 qs7 qs8 sheets [])))) sz) := by
  refine Met.ofW (cc := cX5_fits) (maxL := 7) (ret := (some .int)) (by decide) rfl ?_
  intro p e s m args below meth c s₁ B hml hv
  obtain ⟨rfl, hsz, hP, hK, hD0, hE⟩ := hv
  have hx := B.exec
  have hb := B.bytes
  have hr := B.returns
  have hts := atoms_spec (ws := wsX5_fits) B.pre
  have hown : s.vm.findClass RX5 = some m.cls := findClass_of_methodNamed B.named
  have hlocks := B.notSynchronized
  subst hsz
  have hi_RX2 : ∀ w ∈ wsX20, w ∈ wsX5_fits := fun _ h => List.mem_cons_of_mem _ (List.mem_append_left _ (List.mem_append_right _ h))
  have hi_RX5 : ∀ w ∈ wsX50, w ∈ wsX5_fits := fun _ h => List.mem_cons_of_mem _ (List.mem_append_left _ (List.mem_append_left _ (List.mem_append_right _ h)))
  have hD := hD0.self (sz := s.heap.size)
  obtain ⟨A, hAe⟩ := nm_ex (va_A (oTM q0 qn0 qk0 qr0 qc0 qt0 qd0 qs0 qf0 qw0 rowCount anyKept (oPort C qn0 qn1 qn2 qn3 qn4 qn5 qn6 now (oPort C qr0 qr1 qr2 qr3 qr4 qr5 qr6 trial (oSheets C qs0 qs1 qs2 qs3 qs4 qs5 qs6 qs7 qs8 sheets [])))) s.heap.size)
  rw [← hAe] at hD hE ⊢
  have hA : ∀ q : Nat, s.heap.size ≤ q → A q := fun q h => by rw [hAe]; exact Or.inr h
  have hS : va_S A s.heap s.heap [] := va_S.rf
  have hl := lv_entry ([.ref q0, .int x0, .int x1, .int x2]) (n := 7) (Nat.le_of_ble_eq_true rfl)
  rw [lg_entry_eq]
  generalize (lg_sl ([.ref q0, .int x0, .int x1, .int x2]) ++ List.replicate (7 - (lg_sl ([.ref q0, .int x0, .int x1, .int x2])).length) Slot.unset).toArray = ls at hl ⊢
  have hl : lv_has ls 7 [(0, .ref q0), (1, .int x0), (2, .int x1), (3, .int x2)] := hl
  obtain ⟨Q, hQ⟩ := nm_ex (MQ below (QI D C (oTM q0 qn0 qk0 qr0 qc0 qt0 qd0 qs0 qf0 qw0 rowCount anyKept (oPort C qn0 qn1 qn2 qn3 qn4 qn5 qn6 now (oPort C qr0 qr1 qr2 qr3 qr4 qr5 qr6 trial (oSheets C qs0 qs1 qs2 qs3 qs4 qs5 qs6 qs7 qs8 sheets [])))) (oTM q0 qn0 qk0 qr0 qc0 qt0 qd0 qs0 qf0 qw0 rowCount anyKept (oPort C qn0 qn1 qn2 qn3 qn4 qn5 qn6 now (oPort C qr0 qr1 qr2 qr3 qr4 qr5 qr6 (trial') (oSheets C qs0 qs1 qs2 qs3 qs4 qs5 qs6 qs7 qs8 sheets [])))) s.heap.size r) (List.toArray [Value.ref q0, Value.int x0, Value.int x1, Value.int x2]) s 0 0 A)
  show W p l e (headSpec wsX5_fits (rmX5_fits)).room s m (List.toArray [Value.ref q0, Value.int x0, Value.int x1, Value.int x2]) below meth c s.heap [] 0 0 (MQ below (QI D C (oTM q0 qn0 qk0 qr0 qc0 qt0 qd0 qs0 qf0 qw0 rowCount anyKept (oPort C qn0 qn1 qn2 qn3 qn4 qn5 qn6 now (oPort C qr0 qr1 qr2 qr3 qr4 qr5 qr6 trial (oSheets C qs0 qs1 qs2 qs3 qs4 qs5 qs6 qs7 qs8 sheets [])))) (oTM q0 qn0 qk0 qr0 qc0 qt0 qd0 qs0 qf0 qw0 rowCount anyKept (oPort C qn0 qn1 qn2 qn3 qn4 qn5 qn6 now (oPort C qr0 qr1 qr2 qr3 qr4 qr5 qr6 (trial') (oSheets C qs0 qs1 qs2 qs3 qs4 qs5 qs6 qs7 qs8 sheets [])))) s.heap.size r) (List.toArray [Value.ref q0, Value.int x0, Value.int x1, Value.int x2]) s 0 0 A) _
  rw [← hQ]
  unfold f_X5_fits at hf
  have main : ∀ (H : Heap) (locs : List Loc), va_P D vwCl (oTM q0 qn0 qk0 qr0 qc0 qt0 qd0 qs0 qf0 qw0 rowCount anyKept (oPort C qn0 qn1 qn2 qn3 qn4 qn5 qn6 now (oPort C qr0 qr1 qr2 qr3 qr4 qr5 qr6 trial (oSheets C qs0 qs1 qs2 qs3 qs4 qs5 qs6 qs7 qs8 sheets [])))) H → va_D A (oTM q0 qn0 qk0 qr0 qc0 qt0 qd0 qs0 qf0 qw0 rowCount anyKept (oPort C qn0 qn1 qn2 qn3 qn4 qn5 qn6 now (oPort C qr0 qr1 qr2 qr3 qr4 qr5 qr6 trial (oSheets C qs0 qs1 qs2 qs3 qs4 qs5 qs6 qs7 qs8 sheets [])))) → va_S A s.heap H locs → W p l e (headSpec wsX5_fits (rmX5_fits)).room s m (List.toArray [Value.ref q0, Value.int x0, Value.int x1, Value.int x2]) below meth c H locs 0 0 Q (F0 m 0 ls []) := by
    intro H locs hP hD hS
    refine lv_iload_n hx hb dX5_fits_0 rfl (lv_at hl 1 rfl) ?_
    refine kcz (Wx := (oTM q0 qn0 qk0 qr0 qc0 qt0 qd0 qs0 qf0 qw0 rowCount anyKept (oPort C qn0 qn1 qn2 qn3 qn4 qn5 qn6 now (oPort C qr0 qr1 qr2 qr3 qr4 qr5 qr6 trial (oSheets C qs0 qs1 qs2 qs3 qs4 qs5 qs6 qs7 qs8 sheets []))))) (va_runS (As := [.int x0]) (rest := []) ⟨hx, hb, hml, hown, hts⟩ (c_X5_isSheet l E D C H.size x0 _ rfl) (va_cwS 1 hts gX5_fits_X5_isSheet rfl rfl rfl hdX5_isSheet ⟨Nat.le_of_ble_eq_true rfl, Nat.le_of_ble_eq_true rfl⟩) (kpre hP hD hK hS hE hA [] rfl rfl) rfl rfl hl.1 rfl (lv_room (Nat.le_of_ble_eq_true rfl)) dX5_fits_1 ⟨Nat.zero_le _, Nat.zero_le _⟩) hP hD hS hA [] rfl rfl rfl (fun H locs hz1 hP hD hS => ?_)
    refine lv_if_eq (tgt := 24) hx hb dX5_fits_4 (by decide) (fun c2 => ?_) (fun c2 => ?_)
    · replace hf := if_te c2 hf
      refine lv_iconst (v := (-1)) hx hb dX5_fits_24 rfl ?_
      cases hf
      exact kri hQ hAe hx hb hr hlocks hP hD hK hS dX5_fits_25
    · replace hf := if_fe c2 hf
      refine lv_aload_n hx hb dX5_fits_7 rfl (lv_at hl 0 rfl) ?_
      refine lv_iload_n hx hb dX5_fits_8 rfl (lv_at hl 2 rfl) ?_
      refine kcz (Wx := (oTM q0 qn0 qk0 qr0 qc0 qt0 qd0 qs0 qf0 qw0 rowCount anyKept (oPort C qn0 qn1 qn2 qn3 qn4 qn5 qn6 now (oPort C qr0 qr1 qr2 qr3 qr4 qr5 qr6 trial (oSheets C qs0 qs1 qs2 qs3 qs4 qs5 qs6 qs7 qs8 sheets []))))) (va_runV (As := [.int x1]) (rest := []) ⟨hx, hb, hml, hown, hts⟩ (c_X5_isMark l E D C q0 qn0 qk0 qr0 qc0 qt0 qd0 qs0 qf0 qw0 qn1 qn2 qn3 qn4 qn5 qn6 H.size rowCount anyKept now x1 _ rfl) (cwV 1 hts gX5_fits_X5_isMark rfl rfl rfl hdX5_isMark ⟨Nat.le_of_ble_eq_true rfl, Nat.le_of_ble_eq_true rfl⟩) (kpreV hP hD hK hS hE hA [0, 1, 2, 3, 4, 5, 6, 7] rfl rfl 0 rfl rfl rfl) rfl rfl hl.1 rfl (lv_room (Nat.le_of_ble_eq_true rfl)) dX5_fits_9 ⟨Nat.zero_le _, Nat.zero_le _⟩) hP hD hS hA [0, 1, 2, 3, 4, 5, 6, 7] rfl rfl rfl (fun H locs hz3 hP hD hS => ?_)
      refine lv_if_eq (tgt := 24) hx hb dX5_fits_12 (by decide) (fun c4 => ?_) (fun c4 => ?_)
      · replace hf := if_te c4 hf
        refine lv_iconst (v := (-1)) hx hb dX5_fits_24 rfl ?_
        cases hf
        exact kri hQ hAe hx hb hr hlocks hP hD hK hS dX5_fits_25
      · replace hf := if_fe c4 hf
        refine lv_iload_n hx hb dX5_fits_15 rfl (lv_at hl 3 rfl) ?_
        refine lv_iconst (v := 0) hx hb dX5_fits_16 rfl ?_
        refine lv_iconst (v := 1) hx hb dX5_fits_17 rfl ?_
        refine kcz (Wx := (oTM q0 qn0 qk0 qr0 qc0 qt0 qd0 qs0 qf0 qw0 rowCount anyKept (oPort C qn0 qn1 qn2 qn3 qn4 qn5 qn6 now (oPort C qr0 qr1 qr2 qr3 qr4 qr5 qr6 trial (oSheets C qs0 qs1 qs2 qs3 qs4 qs5 qs6 qs7 qs8 sheets []))))) (va_runS (As := [.int x2, .int 0, .int 1]) (rest := []) ⟨hx, hb, hml, hown, hts⟩ (c_X5_within l E D C H.size x2 0 1 _ rfl) (va_cwS 3 hts gX5_fits_X5_within rfl rfl rfl hdX5_within ⟨Nat.le_of_ble_eq_true rfl, Nat.le_of_ble_eq_true rfl⟩) (kpre hP hD hK hS hE hA [] rfl rfl) rfl rfl hl.1 rfl (lv_room (Nat.le_of_ble_eq_true rfl)) dX5_fits_18 ⟨Nat.zero_le _, Nat.zero_le _⟩) hP hD hS hA [] rfl rfl rfl (fun H locs hz5 hP hD hS => ?_)
        refine lv_if_ne (tgt := 26) hx hb dX5_fits_21 (by decide) (fun c6 => ?_) (fun c6 => ?_)
        · replace hf := if_fe c6 hf
          refine lv_aload_n hx hb dX5_fits_26 rfl (lv_at hl 0 rfl) ?_
          refine va_get (D := D) (ci := 5) (v := .ref qs0) (C := RX5) (T := TX5) (N := 11) hx hb hts hi_RX5 hown hK hP 0 rfl rfl 6 (by decide) (hts (.fieldLink RX5 41 "TravelMarks" "sheets" "[LTravelMarks$Sheet;") (List.mem_of_getElem? (i := 1) rfl)) (fun _ h9 => h9) rfl dX5_fits_27 ?_
          refine lv_iload_n hx hb dX5_fits_30 rfl (lv_at hl 1 rfl) ?_
          obtain ⟨hi7, hf⟩ := ckA_e hf
          obtain ⟨o8, eo8, hf⟩ := lj_e hf
          rcases four hi7 with e4_9 | e4_9 | e4_9 | e4_9
          · rw [e4_9] at eo8
            subst eo8
            try rw [e4_9] at hf
            refine va_aldq hx hb hK hP 15 3 rfl rfl hi7 dX5_fits_31 ?_
            rw [e4_9]
            refine lv_renV (v := .ref qs1) rfl ?_
            refine va_get (D := D) (ci := 2) (v := .int (shSort (sheets 0))) (C := RX2) (T := TX2) (N := 3) hx hb hts hi_RX2 hown hK hP 16 rfl rfl 1 (by decide) (hts (.fieldLink RX5 212 "TravelMarks$Sheet" "sort" "I") (List.mem_of_getElem? (i := 2) rfl)) (fun _ h9 => h9) rfl dX5_fits_32 ?_
            refine lv_iconst (v := (-1)) hx hb dX5_fits_35 rfl ?_
            refine lv_icmp_ne (tgt := 42) hx hb dX5_fits_36 (by decide) (fun c10 => ?_) (fun c10 => ?_)
            · replace hf := if_fe c10 hf
              refine lv_iconst (v := 0) hx hb dX5_fits_42 rfl ?_
              refine lv_istore (lv' := [(4, .int 0), (0, .ref q0), (1, .int x0), (2, .int x1), (3, .int x2)]) hx hb dX5_fits_43 hl (by decide) rfl (fun ls hl => ?_)
              refine lv_bipush (v := (-3)) hx hb dX5_fits_45 rfl ?_
              refine lv_istore (lv' := [(5, .int (-3)), (4, .int 0), (0, .ref q0), (1, .int x0), (2, .int x1), (3, .int x2)]) hx hb dX5_fits_47 hl (by decide) rfl (fun ls hl => ?_)
              refine lv_bipush (v := 7) hx hb dX5_fits_49 rfl ?_
              refine lv_istore (lv' := [(6, .int 7), (5, .int (-3)), (4, .int 0), (0, .ref q0), (1, .int x0), (2, .int x1), (3, .int x2)]) hx hb dX5_fits_51 hl (by decide) rfl (fun ls hl => ?_)
              obtain ⟨j14, hj14, hf⟩ := lj_e hf
              have Hj14 : ∀ (i11 : Int32) (i12 : Int32) (v13 : PV) (H : Heap) (locs : List Loc) (ls : Array Slot), va_P D vwCl (oTM q0 qn0 qk0 qr0 qc0 qt0 qd0 qs0 qf0 qw0 rowCount anyKept (oPort C qn0 qn1 qn2 qn3 qn4 qn5 qn6 now (oPort C qr0 qr1 qr2 qr3 qr4 qr5 qr6 v13 (oSheets C qs0 qs1 qs2 qs3 qs4 qs5 qs6 qs7 qs8 sheets [])))) H → va_D A (oTM q0 qn0 qk0 qr0 qc0 qt0 qd0 qs0 qf0 qw0 rowCount anyKept (oPort C qn0 qn1 qn2 qn3 qn4 qn5 qn6 now (oPort C qr0 qr1 qr2 qr3 qr4 qr5 qr6 v13 (oSheets C qs0 qs1 qs2 qs3 qs4 qs5 qs6 qs7 qs8 sheets [])))) → va_S A s.heap H locs → lv_has ls 7 [(5, .int i11), (4, .int i12), (3, .int x2)] → j14 i11 i12 v13 = some (r, trial') → W p l e (headSpec wsX5_fits (rmX5_fits)).room s m (List.toArray [Value.ref q0, Value.int x0, Value.int x1, Value.int x2]) below meth c H locs 0 0 Q (F0 m 87 ls []) := by
                intro i11 i12 v13 H locs ls hP hD hS hl hf
                rw [hj14] at hf
                refine lv_iload_n hx hb dX5_fits_87 rfl (lv_at hl 2 rfl) ?_
                refine lv_if_ne (tgt := 96) hx hb dX5_fits_88 (by decide) (fun c15 => ?_) (fun c15 => ?_)
                · replace hf := if_fe c15 hf
                  refine lv_iload hx hb dX5_fits_96 (lv_at hl 0 rfl) ?_
                  cases hf
                  exact kri hQ hAe hx hb hr hlocks hP hD hK hS dX5_fits_98
                · replace hf := if_te c15 hf
                  refine lv_iload hx hb dX5_fits_91 (lv_at hl 1 rfl) ?_
                  refine lv_goto (tgt := 98) hx hb dX5_fits_93 (by decide) ?_
                  cases hf
                  exact kri hQ hAe hx hb hr hlocks hP hD hK hS dX5_fits_98
              have hL53 : ∀ (n : Nat) (i16 : Int32) (i17 : Int32) (i18 : Int32) (v19 : PV) (H : Heap) (locs : List Loc) (ls : Array Slot), va_P D vwCl (oTM q0 qn0 qk0 qr0 qc0 qt0 qd0 qs0 qf0 qw0 rowCount anyKept (oPort C qn0 qn1 qn2 qn3 qn4 qn5 qn6 now (oPort C qr0 qr1 qr2 qr3 qr4 qr5 qr6 v19 (oSheets C qs0 qs1 qs2 qs3 qs4 qs5 qs6 qs7 qs8 sheets [])))) H → va_D A (oTM q0 qn0 qk0 qr0 qc0 qt0 qd0 qs0 qf0 qw0 rowCount anyKept (oPort C qn0 qn1 qn2 qn3 qn4 qn5 qn6 now (oPort C qr0 qr1 qr2 qr3 qr4 qr5 qr6 v19 (oSheets C qs0 qs1 qs2 qs3 qs4 qs5 qs6 qs7 qs8 sheets [])))) → va_S A s.heap H locs → lv_has ls 7 [(6, .int i16), (5, .int i17), (4, .int i18), (0, .ref q0), (1, .int x0), (2, .int x1), (3, .int x2)] → f_X5_fits_L53 N now sheets x0 x1 j14 n i16 i17 i18 v19 = some (r, trial') → W p l e (headSpec wsX5_fits (rmX5_fits)).room s m (List.toArray [Value.ref q0, Value.int x0, Value.int x1, Value.int x2]) below meth c H locs 0 0 Q (F0 m 53 ls []) := by
                intro n
                induction n with
                | zero =>
                  intro i16 i17 i18 v19 H locs ls hP hD hS hl hf
                  exact absurd hf (fun h => by cases h)
                | succ n ih =>
                  intro i16 i17 i18 v19 H locs ls hP hD hS hl hf
                  rw [f_X5_fits_L53] at hf
                  refine lv_iload hx hb dX5_fits_53 (lv_at hl 0 rfl) ?_
                  refine lv_if_lt (tgt := 87) hx hb dX5_fits_55 (by decide) (fun c20 => ?_) (fun c20 => ?_)
                  · replace hf := if_te c20 hf
                    exact Hj14 i17 i18 v19 H locs ls hP hD hS (lv_sub hl [1, 2, 6] rfl) hf
                  · replace hf := if_fe c20 hf
                    refine lv_aload_n hx hb dX5_fits_58 rfl (lv_at hl 3 rfl) ?_
                    refine lv_aload_n hx hb dX5_fits_59 rfl (lv_at hl 3 rfl) ?_
                    refine va_get (D := D) (ci := 5) (v := .ref qs0) (C := RX5) (T := TX5) (N := 11) hx hb hts hi_RX5 hown hK hP 0 rfl rfl 6 (by decide) (hts (.fieldLink RX5 41 "TravelMarks" "sheets" "[LTravelMarks$Sheet;") (List.mem_of_getElem? (i := 1) rfl)) (fun _ h9 => h9) rfl dX5_fits_60 ?_
                    refine lv_iload_n hx hb dX5_fits_63 rfl (lv_at hl 4 rfl) ?_
                    obtain ⟨hi21, hf⟩ := ckA_e hf
                    obtain ⟨o22, eo22, hf⟩ := lj_e hf
                    try rw [e4_9] at eo22
                    subst eo22
                    try rw [e4_9] at hf
                    refine va_aldq hx hb hK hP 15 3 rfl rfl hi21 dX5_fits_64 ?_
                    rw [e4_9]
                    refine lv_renV (v := .ref qs1) rfl ?_
                    refine lv_iload_n hx hb dX5_fits_65 rfl (lv_at hl 5 rfl) ?_
                    refine lv_iload hx hb dX5_fits_66 (lv_at hl 0 rfl) ?_
                    obtain ⟨r24, v25, h26, hf⟩ := ob2_e hf
                    refine kcz (Wx := (oTM q0 qn0 qk0 qr0 qc0 qt0 qd0 qs0 qf0 qw0 rowCount anyKept (oPort C qn0 qn1 qn2 qn3 qn4 qn5 qn6 now (oPort C qr0 qr1 qr2 qr3 qr4 qr5 qr6 v25 (oSheets C qs0 qs1 qs2 qs3 qs4 qs5 qs6 qs7 qs8 sheets []))))) (va_runV (As := [.ref qs1, .int x1, .int i16]) (rest := []) ⟨hx, hb, hml, hown, hts⟩ (c_X5_fitsFrom l E D C q0 qn0 qk0 qr0 qc0 qt0 qd0 qs0 qf0 qw0 qn1 qn2 qn3 qn4 qn5 qn6 qr1 qr2 qr3 qr4 qr5 qr6 qs1 qs2 H.size N rowCount anyKept now v19 (sheets 0) x1 i16 r24 v25 h26) (cwV 3 hts gX5_fits_X5_fitsFrom rfl rfl rfl hdX5_fitsFrom ⟨Nat.le_of_ble_eq_true rfl, Nat.le_of_ble_eq_true rfl⟩) (kpreV hP hD hK hS hE hA [0, 1, 2, 3, 4, 5, 6, 7, 8, 9, 10, 11, 12, 13, 14, 16, 17] rfl rfl 0 rfl rfl rfl) rfl rfl hl.1 rfl (lv_room (Nat.le_of_ble_eq_true rfl)) dX5_fits_68 ⟨Nat.zero_le _, Nat.zero_le _⟩) hP hD hS hA [0, 1, 2, 3, 4, 5, 6, 7, 8, 9, 10, 11, 12, 13, 14, 16, 17] rfl rfl rfl (fun H locs hz27 hP hD hS => ?_)
                    obtain ⟨j30, hj30, hf⟩ := lj_e hf
                    have Hj30 : ∀ (i28 : Int32) (i29 : Int32) (H : Heap) (locs : List Loc) (ls : Array Slot), va_P D vwCl (oTM q0 qn0 qk0 qr0 qc0 qt0 qd0 qs0 qf0 qw0 rowCount anyKept (oPort C qn0 qn1 qn2 qn3 qn4 qn5 qn6 now (oPort C qr0 qr1 qr2 qr3 qr4 qr5 qr6 v25 (oSheets C qs0 qs1 qs2 qs3 qs4 qs5 qs6 qs7 qs8 sheets [])))) H → va_D A (oTM q0 qn0 qk0 qr0 qc0 qt0 qd0 qs0 qf0 qw0 rowCount anyKept (oPort C qn0 qn1 qn2 qn3 qn4 qn5 qn6 now (oPort C qr0 qr1 qr2 qr3 qr4 qr5 qr6 v25 (oSheets C qs0 qs1 qs2 qs3 qs4 qs5 qs6 qs7 qs8 sheets [])))) → va_S A s.heap H locs → lv_has ls 7 [(6, .int i16), (5, .int i28), (4, .int i29), (0, .ref q0), (1, .int x0), (2, .int x1), (3, .int x2)] → j30 i28 i29 = some (r, trial') → W p l e (headSpec wsX5_fits (rmX5_fits)).room s m (List.toArray [Value.ref q0, Value.int x0, Value.int x1, Value.int x2]) below meth c H locs 0 0 Q (F0 m 81 ls []) := by
                      intro i28 i29 H locs ls hP hD hS hl hf
                      rw [hj30] at hf
                      obtain ⟨t31, et31, hf⟩ := lj_e hf
                      refine lv_iinc (v := t31) (lv' := [(6, .int t31), (5, .int i28), (4, .int i29), (0, .ref q0), (1, .int x0), (2, .int x1), (3, .int x2)]) hx hb dX5_fits_81 hl (k := 0) rfl (by rw [et31]; rfl) (by decide) rfl (fun ls hl => ?_)
                      refine lv_goto (tgt := 53) hx hb dX5_fits_84 (by decide) ?_
                      exact ih t31 i28 i29 v25 H locs ls hP hD hS (lv_sub hl [0, 1, 2, 3, 4, 5, 6] rfl) hf
                    refine lv_if_eq (tgt := 81) hx hb dX5_fits_71 (by decide) (fun c32 => ?_) (fun c32 => ?_)
                    · replace hf := if_te c32 hf
                      exact Hj30 i17 i18 H locs ls hP hD hS (lv_sub hl [0, 1, 2, 3, 4, 5, 6] rfl) hf
                    · replace hf := if_fe c32 hf
                      obtain ⟨t33, et33, hf⟩ := lj_e hf
                      refine lv_iinc (v := t33) (lv' := [(4, .int t33), (6, .int i16), (5, .int i17), (0, .ref q0), (1, .int x0), (2, .int x1), (3, .int x2)]) hx hb dX5_fits_74 hl (k := 2) rfl (by rw [et33]; rfl) (by decide) rfl (fun ls hl => ?_)
                      refine lv_iload hx hb dX5_fits_77 (lv_at hl 1 rfl) ?_
                      refine lv_istore (lv' := [(5, .int i16), (4, .int t33), (6, .int i16), (0, .ref q0), (1, .int x0), (2, .int x1), (3, .int x2)]) hx hb dX5_fits_79 hl (by decide) rfl (fun ls hl => ?_)
                      exact Hj30 i16 t33 H locs ls hP hD hS (lv_sub hl [2, 0, 1, 3, 4, 5, 6] rfl) hf
              exact hL53 N 7 (-3) 0 trial H locs ls hP hD hS (lv_sub hl [0, 1, 2, 3, 4, 5, 6] rfl) hf
            · replace hf := if_te c10 hf
              refine lv_bipush (v := (-11)) hx hb dX5_fits_39 rfl ?_
              cases hf
              exact kri hQ hAe hx hb hr hlocks hP hD hK hS dX5_fits_41
          · rw [e4_9] at eo8
            subst eo8
            try rw [e4_9] at hf
            refine va_aldq hx hb hK hP 15 3 rfl rfl hi7 dX5_fits_31 ?_
            rw [e4_9]
            refine lv_renV (v := .ref qs3) rfl ?_
            refine va_get (D := D) (ci := 2) (v := .int (shSort (sheets 1))) (C := RX2) (T := TX2) (N := 3) hx hb hts hi_RX2 hown hK hP 18 rfl rfl 1 (by decide) (hts (.fieldLink RX5 212 "TravelMarks$Sheet" "sort" "I") (List.mem_of_getElem? (i := 2) rfl)) (fun _ h9 => h9) rfl dX5_fits_32 ?_
            refine lv_iconst (v := (-1)) hx hb dX5_fits_35 rfl ?_
            refine lv_icmp_ne (tgt := 42) hx hb dX5_fits_36 (by decide) (fun c10 => ?_) (fun c10 => ?_)
            · replace hf := if_fe c10 hf
              refine lv_iconst (v := 0) hx hb dX5_fits_42 rfl ?_
              refine lv_istore (lv' := [(4, .int 0), (0, .ref q0), (1, .int x0), (2, .int x1), (3, .int x2)]) hx hb dX5_fits_43 hl (by decide) rfl (fun ls hl => ?_)
              refine lv_bipush (v := (-3)) hx hb dX5_fits_45 rfl ?_
              refine lv_istore (lv' := [(5, .int (-3)), (4, .int 0), (0, .ref q0), (1, .int x0), (2, .int x1), (3, .int x2)]) hx hb dX5_fits_47 hl (by decide) rfl (fun ls hl => ?_)
              refine lv_bipush (v := 7) hx hb dX5_fits_49 rfl ?_
              refine lv_istore (lv' := [(6, .int 7), (5, .int (-3)), (4, .int 0), (0, .ref q0), (1, .int x0), (2, .int x1), (3, .int x2)]) hx hb dX5_fits_51 hl (by decide) rfl (fun ls hl => ?_)
              obtain ⟨j14, hj14, hf⟩ := lj_e hf
              have Hj14 : ∀ (i11 : Int32) (i12 : Int32) (v13 : PV) (H : Heap) (locs : List Loc) (ls : Array Slot), va_P D vwCl (oTM q0 qn0 qk0 qr0 qc0 qt0 qd0 qs0 qf0 qw0 rowCount anyKept (oPort C qn0 qn1 qn2 qn3 qn4 qn5 qn6 now (oPort C qr0 qr1 qr2 qr3 qr4 qr5 qr6 v13 (oSheets C qs0 qs1 qs2 qs3 qs4 qs5 qs6 qs7 qs8 sheets [])))) H → va_D A (oTM q0 qn0 qk0 qr0 qc0 qt0 qd0 qs0 qf0 qw0 rowCount anyKept (oPort C qn0 qn1 qn2 qn3 qn4 qn5 qn6 now (oPort C qr0 qr1 qr2 qr3 qr4 qr5 qr6 v13 (oSheets C qs0 qs1 qs2 qs3 qs4 qs5 qs6 qs7 qs8 sheets [])))) → va_S A s.heap H locs → lv_has ls 7 [(5, .int i11), (4, .int i12), (3, .int x2)] → j14 i11 i12 v13 = some (r, trial') → W p l e (headSpec wsX5_fits (rmX5_fits)).room s m (List.toArray [Value.ref q0, Value.int x0, Value.int x1, Value.int x2]) below meth c H locs 0 0 Q (F0 m 87 ls []) := by
                intro i11 i12 v13 H locs ls hP hD hS hl hf
                rw [hj14] at hf
                refine lv_iload_n hx hb dX5_fits_87 rfl (lv_at hl 2 rfl) ?_
                refine lv_if_ne (tgt := 96) hx hb dX5_fits_88 (by decide) (fun c15 => ?_) (fun c15 => ?_)
                · replace hf := if_fe c15 hf
                  refine lv_iload hx hb dX5_fits_96 (lv_at hl 0 rfl) ?_
                  cases hf
                  exact kri hQ hAe hx hb hr hlocks hP hD hK hS dX5_fits_98
                · replace hf := if_te c15 hf
                  refine lv_iload hx hb dX5_fits_91 (lv_at hl 1 rfl) ?_
                  refine lv_goto (tgt := 98) hx hb dX5_fits_93 (by decide) ?_
                  cases hf
                  exact kri hQ hAe hx hb hr hlocks hP hD hK hS dX5_fits_98
              have hL53 : ∀ (n : Nat) (i16 : Int32) (i17 : Int32) (i18 : Int32) (v19 : PV) (H : Heap) (locs : List Loc) (ls : Array Slot), va_P D vwCl (oTM q0 qn0 qk0 qr0 qc0 qt0 qd0 qs0 qf0 qw0 rowCount anyKept (oPort C qn0 qn1 qn2 qn3 qn4 qn5 qn6 now (oPort C qr0 qr1 qr2 qr3 qr4 qr5 qr6 v19 (oSheets C qs0 qs1 qs2 qs3 qs4 qs5 qs6 qs7 qs8 sheets [])))) H → va_D A (oTM q0 qn0 qk0 qr0 qc0 qt0 qd0 qs0 qf0 qw0 rowCount anyKept (oPort C qn0 qn1 qn2 qn3 qn4 qn5 qn6 now (oPort C qr0 qr1 qr2 qr3 qr4 qr5 qr6 v19 (oSheets C qs0 qs1 qs2 qs3 qs4 qs5 qs6 qs7 qs8 sheets [])))) → va_S A s.heap H locs → lv_has ls 7 [(6, .int i16), (5, .int i17), (4, .int i18), (0, .ref q0), (1, .int x0), (2, .int x1), (3, .int x2)] → f_X5_fits_L53 N now sheets x0 x1 j14 n i16 i17 i18 v19 = some (r, trial') → W p l e (headSpec wsX5_fits (rmX5_fits)).room s m (List.toArray [Value.ref q0, Value.int x0, Value.int x1, Value.int x2]) below meth c H locs 0 0 Q (F0 m 53 ls []) := by
                intro n
                induction n with
                | zero =>
                  intro i16 i17 i18 v19 H locs ls hP hD hS hl hf
                  exact absurd hf (fun h => by cases h)
                | succ n ih =>
                  intro i16 i17 i18 v19 H locs ls hP hD hS hl hf
                  rw [f_X5_fits_L53] at hf
                  refine lv_iload hx hb dX5_fits_53 (lv_at hl 0 rfl) ?_
                  refine lv_if_lt (tgt := 87) hx hb dX5_fits_55 (by decide) (fun c20 => ?_) (fun c20 => ?_)
                  · replace hf := if_te c20 hf
                    exact Hj14 i17 i18 v19 H locs ls hP hD hS (lv_sub hl [1, 2, 6] rfl) hf
                  · replace hf := if_fe c20 hf
                    refine lv_aload_n hx hb dX5_fits_58 rfl (lv_at hl 3 rfl) ?_
                    refine lv_aload_n hx hb dX5_fits_59 rfl (lv_at hl 3 rfl) ?_
                    refine va_get (D := D) (ci := 5) (v := .ref qs0) (C := RX5) (T := TX5) (N := 11) hx hb hts hi_RX5 hown hK hP 0 rfl rfl 6 (by decide) (hts (.fieldLink RX5 41 "TravelMarks" "sheets" "[LTravelMarks$Sheet;") (List.mem_of_getElem? (i := 1) rfl)) (fun _ h9 => h9) rfl dX5_fits_60 ?_
                    refine lv_iload_n hx hb dX5_fits_63 rfl (lv_at hl 4 rfl) ?_
                    obtain ⟨hi21, hf⟩ := ckA_e hf
                    obtain ⟨o22, eo22, hf⟩ := lj_e hf
                    try rw [e4_9] at eo22
                    subst eo22
                    try rw [e4_9] at hf
                    refine va_aldq hx hb hK hP 15 3 rfl rfl hi21 dX5_fits_64 ?_
                    rw [e4_9]
                    refine lv_renV (v := .ref qs3) rfl ?_
                    refine lv_iload_n hx hb dX5_fits_65 rfl (lv_at hl 5 rfl) ?_
                    refine lv_iload hx hb dX5_fits_66 (lv_at hl 0 rfl) ?_
                    obtain ⟨r24, v25, h26, hf⟩ := ob2_e hf
                    refine kcz (Wx := (oTM q0 qn0 qk0 qr0 qc0 qt0 qd0 qs0 qf0 qw0 rowCount anyKept (oPort C qn0 qn1 qn2 qn3 qn4 qn5 qn6 now (oPort C qr0 qr1 qr2 qr3 qr4 qr5 qr6 v25 (oSheets C qs0 qs1 qs2 qs3 qs4 qs5 qs6 qs7 qs8 sheets []))))) (va_runV (As := [.ref qs3, .int x1, .int i16]) (rest := []) ⟨hx, hb, hml, hown, hts⟩ (c_X5_fitsFrom l E D C q0 qn0 qk0 qr0 qc0 qt0 qd0 qs0 qf0 qw0 qn1 qn2 qn3 qn4 qn5 qn6 qr1 qr2 qr3 qr4 qr5 qr6 qs3 qs4 H.size N rowCount anyKept now v19 (sheets 1) x1 i16 r24 v25 h26) (cwV 3 hts gX5_fits_X5_fitsFrom rfl rfl rfl hdX5_fitsFrom ⟨Nat.le_of_ble_eq_true rfl, Nat.le_of_ble_eq_true rfl⟩) (kpreV hP hD hK hS hE hA [0, 1, 2, 3, 4, 5, 6, 7, 8, 9, 10, 11, 12, 13, 14, 18, 19] rfl rfl 0 rfl rfl rfl) rfl rfl hl.1 rfl (lv_room (Nat.le_of_ble_eq_true rfl)) dX5_fits_68 ⟨Nat.zero_le _, Nat.zero_le _⟩) hP hD hS hA [0, 1, 2, 3, 4, 5, 6, 7, 8, 9, 10, 11, 12, 13, 14, 18, 19] rfl rfl rfl (fun H locs hz27 hP hD hS => ?_)
                    obtain ⟨j30, hj30, hf⟩ := lj_e hf
                    have Hj30 : ∀ (i28 : Int32) (i29 : Int32) (H : Heap) (locs : List Loc) (ls : Array Slot), va_P D vwCl (oTM q0 qn0 qk0 qr0 qc0 qt0 qd0 qs0 qf0 qw0 rowCount anyKept (oPort C qn0 qn1 qn2 qn3 qn4 qn5 qn6 now (oPort C qr0 qr1 qr2 qr3 qr4 qr5 qr6 v25 (oSheets C qs0 qs1 qs2 qs3 qs4 qs5 qs6 qs7 qs8 sheets [])))) H → va_D A (oTM q0 qn0 qk0 qr0 qc0 qt0 qd0 qs0 qf0 qw0 rowCount anyKept (oPort C qn0 qn1 qn2 qn3 qn4 qn5 qn6 now (oPort C qr0 qr1 qr2 qr3 qr4 qr5 qr6 v25 (oSheets C qs0 qs1 qs2 qs3 qs4 qs5 qs6 qs7 qs8 sheets [])))) → va_S A s.heap H locs → lv_has ls 7 [(6, .int i16), (5, .int i28), (4, .int i29), (0, .ref q0), (1, .int x0), (2, .int x1), (3, .int x2)] → j30 i28 i29 = some (r, trial') → W p l e (headSpec wsX5_fits (rmX5_fits)).room s m (List.toArray [Value.ref q0, Value.int x0, Value.int x1, Value.int x2]) below meth c H locs 0 0 Q (F0 m 81 ls []) := by
                      intro i28 i29 H locs ls hP hD hS hl hf
                      rw [hj30] at hf
                      obtain ⟨t31, et31, hf⟩ := lj_e hf
                      refine lv_iinc (v := t31) (lv' := [(6, .int t31), (5, .int i28), (4, .int i29), (0, .ref q0), (1, .int x0), (2, .int x1), (3, .int x2)]) hx hb dX5_fits_81 hl (k := 0) rfl (by rw [et31]; rfl) (by decide) rfl (fun ls hl => ?_)
                      refine lv_goto (tgt := 53) hx hb dX5_fits_84 (by decide) ?_
                      exact ih t31 i28 i29 v25 H locs ls hP hD hS (lv_sub hl [0, 1, 2, 3, 4, 5, 6] rfl) hf
                    refine lv_if_eq (tgt := 81) hx hb dX5_fits_71 (by decide) (fun c32 => ?_) (fun c32 => ?_)
                    · replace hf := if_te c32 hf
                      exact Hj30 i17 i18 H locs ls hP hD hS (lv_sub hl [0, 1, 2, 3, 4, 5, 6] rfl) hf
                    · replace hf := if_fe c32 hf
                      obtain ⟨t33, et33, hf⟩ := lj_e hf
                      refine lv_iinc (v := t33) (lv' := [(4, .int t33), (6, .int i16), (5, .int i17), (0, .ref q0), (1, .int x0), (2, .int x1), (3, .int x2)]) hx hb dX5_fits_74 hl (k := 2) rfl (by rw [et33]; rfl) (by decide) rfl (fun ls hl => ?_)
                      refine lv_iload hx hb dX5_fits_77 (lv_at hl 1 rfl) ?_
                      refine lv_istore (lv' := [(5, .int i16), (4, .int t33), (6, .int i16), (0, .ref q0), (1, .int x0), (2, .int x1), (3, .int x2)]) hx hb dX5_fits_79 hl (by decide) rfl (fun ls hl => ?_)
                      exact Hj30 i16 t33 H locs ls hP hD hS (lv_sub hl [2, 0, 1, 3, 4, 5, 6] rfl) hf
              exact hL53 N 7 (-3) 0 trial H locs ls hP hD hS (lv_sub hl [0, 1, 2, 3, 4, 5, 6] rfl) hf
            · replace hf := if_te c10 hf
              refine lv_bipush (v := (-11)) hx hb dX5_fits_39 rfl ?_
              cases hf
              exact kri hQ hAe hx hb hr hlocks hP hD hK hS dX5_fits_41
          · rw [e4_9] at eo8
            subst eo8
            try rw [e4_9] at hf
            refine va_aldq hx hb hK hP 15 3 rfl rfl hi7 dX5_fits_31 ?_
            rw [e4_9]
            refine lv_renV (v := .ref qs5) rfl ?_
            refine va_get (D := D) (ci := 2) (v := .int (shSort (sheets 2))) (C := RX2) (T := TX2) (N := 3) hx hb hts hi_RX2 hown hK hP 20 rfl rfl 1 (by decide) (hts (.fieldLink RX5 212 "TravelMarks$Sheet" "sort" "I") (List.mem_of_getElem? (i := 2) rfl)) (fun _ h9 => h9) rfl dX5_fits_32 ?_
            refine lv_iconst (v := (-1)) hx hb dX5_fits_35 rfl ?_
            refine lv_icmp_ne (tgt := 42) hx hb dX5_fits_36 (by decide) (fun c10 => ?_) (fun c10 => ?_)
            · replace hf := if_fe c10 hf
              refine lv_iconst (v := 0) hx hb dX5_fits_42 rfl ?_
              refine lv_istore (lv' := [(4, .int 0), (0, .ref q0), (1, .int x0), (2, .int x1), (3, .int x2)]) hx hb dX5_fits_43 hl (by decide) rfl (fun ls hl => ?_)
              refine lv_bipush (v := (-3)) hx hb dX5_fits_45 rfl ?_
              refine lv_istore (lv' := [(5, .int (-3)), (4, .int 0), (0, .ref q0), (1, .int x0), (2, .int x1), (3, .int x2)]) hx hb dX5_fits_47 hl (by decide) rfl (fun ls hl => ?_)
              refine lv_bipush (v := 7) hx hb dX5_fits_49 rfl ?_
              refine lv_istore (lv' := [(6, .int 7), (5, .int (-3)), (4, .int 0), (0, .ref q0), (1, .int x0), (2, .int x1), (3, .int x2)]) hx hb dX5_fits_51 hl (by decide) rfl (fun ls hl => ?_)
              obtain ⟨j14, hj14, hf⟩ := lj_e hf
              have Hj14 : ∀ (i11 : Int32) (i12 : Int32) (v13 : PV) (H : Heap) (locs : List Loc) (ls : Array Slot), va_P D vwCl (oTM q0 qn0 qk0 qr0 qc0 qt0 qd0 qs0 qf0 qw0 rowCount anyKept (oPort C qn0 qn1 qn2 qn3 qn4 qn5 qn6 now (oPort C qr0 qr1 qr2 qr3 qr4 qr5 qr6 v13 (oSheets C qs0 qs1 qs2 qs3 qs4 qs5 qs6 qs7 qs8 sheets [])))) H → va_D A (oTM q0 qn0 qk0 qr0 qc0 qt0 qd0 qs0 qf0 qw0 rowCount anyKept (oPort C qn0 qn1 qn2 qn3 qn4 qn5 qn6 now (oPort C qr0 qr1 qr2 qr3 qr4 qr5 qr6 v13 (oSheets C qs0 qs1 qs2 qs3 qs4 qs5 qs6 qs7 qs8 sheets [])))) → va_S A s.heap H locs → lv_has ls 7 [(5, .int i11), (4, .int i12), (3, .int x2)] → j14 i11 i12 v13 = some (r, trial') → W p l e (headSpec wsX5_fits (rmX5_fits)).room s m (List.toArray [Value.ref q0, Value.int x0, Value.int x1, Value.int x2]) below meth c H locs 0 0 Q (F0 m 87 ls []) := by
                intro i11 i12 v13 H locs ls hP hD hS hl hf
                rw [hj14] at hf
                refine lv_iload_n hx hb dX5_fits_87 rfl (lv_at hl 2 rfl) ?_
                refine lv_if_ne (tgt := 96) hx hb dX5_fits_88 (by decide) (fun c15 => ?_) (fun c15 => ?_)
                · replace hf := if_fe c15 hf
                  refine lv_iload hx hb dX5_fits_96 (lv_at hl 0 rfl) ?_
                  cases hf
                  exact kri hQ hAe hx hb hr hlocks hP hD hK hS dX5_fits_98
                · replace hf := if_te c15 hf
                  refine lv_iload hx hb dX5_fits_91 (lv_at hl 1 rfl) ?_
                  refine lv_goto (tgt := 98) hx hb dX5_fits_93 (by decide) ?_
                  cases hf
                  exact kri hQ hAe hx hb hr hlocks hP hD hK hS dX5_fits_98
              have hL53 : ∀ (n : Nat) (i16 : Int32) (i17 : Int32) (i18 : Int32) (v19 : PV) (H : Heap) (locs : List Loc) (ls : Array Slot), va_P D vwCl (oTM q0 qn0 qk0 qr0 qc0 qt0 qd0 qs0 qf0 qw0 rowCount anyKept (oPort C qn0 qn1 qn2 qn3 qn4 qn5 qn6 now (oPort C qr0 qr1 qr2 qr3 qr4 qr5 qr6 v19 (oSheets C qs0 qs1 qs2 qs3 qs4 qs5 qs6 qs7 qs8 sheets [])))) H → va_D A (oTM q0 qn0 qk0 qr0 qc0 qt0 qd0 qs0 qf0 qw0 rowCount anyKept (oPort C qn0 qn1 qn2 qn3 qn4 qn5 qn6 now (oPort C qr0 qr1 qr2 qr3 qr4 qr5 qr6 v19 (oSheets C qs0 qs1 qs2 qs3 qs4 qs5 qs6 qs7 qs8 sheets [])))) → va_S A s.heap H locs → lv_has ls 7 [(6, .int i16), (5, .int i17), (4, .int i18), (0, .ref q0), (1, .int x0), (2, .int x1), (3, .int x2)] → f_X5_fits_L53 N now sheets x0 x1 j14 n i16 i17 i18 v19 = some (r, trial') → W p l e (headSpec wsX5_fits (rmX5_fits)).room s m (List.toArray [Value.ref q0, Value.int x0, Value.int x1, Value.int x2]) below meth c H locs 0 0 Q (F0 m 53 ls []) := by
                intro n
                induction n with
                | zero =>
                  intro i16 i17 i18 v19 H locs ls hP hD hS hl hf
                  exact absurd hf (fun h => by cases h)
                | succ n ih =>
                  intro i16 i17 i18 v19 H locs ls hP hD hS hl hf
                  rw [f_X5_fits_L53] at hf
                  refine lv_iload hx hb dX5_fits_53 (lv_at hl 0 rfl) ?_
                  refine lv_if_lt (tgt := 87) hx hb dX5_fits_55 (by decide) (fun c20 => ?_) (fun c20 => ?_)
                  · replace hf := if_te c20 hf
                    exact Hj14 i17 i18 v19 H locs ls hP hD hS (lv_sub hl [1, 2, 6] rfl) hf
                  · replace hf := if_fe c20 hf
                    refine lv_aload_n hx hb dX5_fits_58 rfl (lv_at hl 3 rfl) ?_
                    refine lv_aload_n hx hb dX5_fits_59 rfl (lv_at hl 3 rfl) ?_
                    refine va_get (D := D) (ci := 5) (v := .ref qs0) (C := RX5) (T := TX5) (N := 11) hx hb hts hi_RX5 hown hK hP 0 rfl rfl 6 (by decide) (hts (.fieldLink RX5 41 "TravelMarks" "sheets" "[LTravelMarks$Sheet;") (List.mem_of_getElem? (i := 1) rfl)) (fun _ h9 => h9) rfl dX5_fits_60 ?_
                    refine lv_iload_n hx hb dX5_fits_63 rfl (lv_at hl 4 rfl) ?_
                    obtain ⟨hi21, hf⟩ := ckA_e hf
                    obtain ⟨o22, eo22, hf⟩ := lj_e hf
                    try rw [e4_9] at eo22
                    subst eo22
                    try rw [e4_9] at hf
                    refine va_aldq hx hb hK hP 15 3 rfl rfl hi21 dX5_fits_64 ?_
                    rw [e4_9]
                    refine lv_renV (v := .ref qs5) rfl ?_
                    refine lv_iload_n hx hb dX5_fits_65 rfl (lv_at hl 5 rfl) ?_
                    refine lv_iload hx hb dX5_fits_66 (lv_at hl 0 rfl) ?_
                    obtain ⟨r24, v25, h26, hf⟩ := ob2_e hf
                    refine kcz (Wx := (oTM q0 qn0 qk0 qr0 qc0 qt0 qd0 qs0 qf0 qw0 rowCount anyKept (oPort C qn0 qn1 qn2 qn3 qn4 qn5 qn6 now (oPort C qr0 qr1 qr2 qr3 qr4 qr5 qr6 v25 (oSheets C qs0 qs1 qs2 qs3 qs4 qs5 qs6 qs7 qs8 sheets []))))) (va_runV (As := [.ref qs5, .int x1, .int i16]) (rest := []) ⟨hx, hb, hml, hown, hts⟩ (c_X5_fitsFrom l E D C q0 qn0 qk0 qr0 qc0 qt0 qd0 qs0 qf0 qw0 qn1 qn2 qn3 qn4 qn5 qn6 qr1 qr2 qr3 qr4 qr5 qr6 qs5 qs6 H.size N rowCount anyKept now v19 (sheets 2) x1 i16 r24 v25 h26) (cwV 3 hts gX5_fits_X5_fitsFrom rfl rfl rfl hdX5_fitsFrom ⟨Nat.le_of_ble_eq_true rfl, Nat.le_of_ble_eq_true rfl⟩) (kpreV hP hD hK hS hE hA [0, 1, 2, 3, 4, 5, 6, 7, 8, 9, 10, 11, 12, 13, 14, 20, 21] rfl rfl 0 rfl rfl rfl) rfl rfl hl.1 rfl (lv_room (Nat.le_of_ble_eq_true rfl)) dX5_fits_68 ⟨Nat.zero_le _, Nat.zero_le _⟩) hP hD hS hA [0, 1, 2, 3, 4, 5, 6, 7, 8, 9, 10, 11, 12, 13, 14, 20, 21] rfl rfl rfl (fun H locs hz27 hP hD hS => ?_)
                    obtain ⟨j30, hj30, hf⟩ := lj_e hf
                    have Hj30 : ∀ (i28 : Int32) (i29 : Int32) (H : Heap) (locs : List Loc) (ls : Array Slot), va_P D vwCl (oTM q0 qn0 qk0 qr0 qc0 qt0 qd0 qs0 qf0 qw0 rowCount anyKept (oPort C qn0 qn1 qn2 qn3 qn4 qn5 qn6 now (oPort C qr0 qr1 qr2 qr3 qr4 qr5 qr6 v25 (oSheets C qs0 qs1 qs2 qs3 qs4 qs5 qs6 qs7 qs8 sheets [])))) H → va_D A (oTM q0 qn0 qk0 qr0 qc0 qt0 qd0 qs0 qf0 qw0 rowCount anyKept (oPort C qn0 qn1 qn2 qn3 qn4 qn5 qn6 now (oPort C qr0 qr1 qr2 qr3 qr4 qr5 qr6 v25 (oSheets C qs0 qs1 qs2 qs3 qs4 qs5 qs6 qs7 qs8 sheets [])))) → va_S A s.heap H locs → lv_has ls 7 [(6, .int i16), (5, .int i28), (4, .int i29), (0, .ref q0), (1, .int x0), (2, .int x1), (3, .int x2)] → j30 i28 i29 = some (r, trial') → W p l e (headSpec wsX5_fits (rmX5_fits)).room s m (List.toArray [Value.ref q0, Value.int x0, Value.int x1, Value.int x2]) below meth c H locs 0 0 Q (F0 m 81 ls []) := by
                      intro i28 i29 H locs ls hP hD hS hl hf
                      rw [hj30] at hf
                      obtain ⟨t31, et31, hf⟩ := lj_e hf
                      refine lv_iinc (v := t31) (lv' := [(6, .int t31), (5, .int i28), (4, .int i29), (0, .ref q0), (1, .int x0), (2, .int x1), (3, .int x2)]) hx hb dX5_fits_81 hl (k := 0) rfl (by rw [et31]; rfl) (by decide) rfl (fun ls hl => ?_)
                      refine lv_goto (tgt := 53) hx hb dX5_fits_84 (by decide) ?_
                      exact ih t31 i28 i29 v25 H locs ls hP hD hS (lv_sub hl [0, 1, 2, 3, 4, 5, 6] rfl) hf
                    refine lv_if_eq (tgt := 81) hx hb dX5_fits_71 (by decide) (fun c32 => ?_) (fun c32 => ?_)
                    · replace hf := if_te c32 hf
                      exact Hj30 i17 i18 H locs ls hP hD hS (lv_sub hl [0, 1, 2, 3, 4, 5, 6] rfl) hf
                    · replace hf := if_fe c32 hf
                      obtain ⟨t33, et33, hf⟩ := lj_e hf
                      refine lv_iinc (v := t33) (lv' := [(4, .int t33), (6, .int i16), (5, .int i17), (0, .ref q0), (1, .int x0), (2, .int x1), (3, .int x2)]) hx hb dX5_fits_74 hl (k := 2) rfl (by rw [et33]; rfl) (by decide) rfl (fun ls hl => ?_)
                      refine lv_iload hx hb dX5_fits_77 (lv_at hl 1 rfl) ?_
                      refine lv_istore (lv' := [(5, .int i16), (4, .int t33), (6, .int i16), (0, .ref q0), (1, .int x0), (2, .int x1), (3, .int x2)]) hx hb dX5_fits_79 hl (by decide) rfl (fun ls hl => ?_)
                      exact Hj30 i16 t33 H locs ls hP hD hS (lv_sub hl [2, 0, 1, 3, 4, 5, 6] rfl) hf
              exact hL53 N 7 (-3) 0 trial H locs ls hP hD hS (lv_sub hl [0, 1, 2, 3, 4, 5, 6] rfl) hf
            · replace hf := if_te c10 hf
              refine lv_bipush (v := (-11)) hx hb dX5_fits_39 rfl ?_
              cases hf
              exact kri hQ hAe hx hb hr hlocks hP hD hK hS dX5_fits_41
          · rw [e4_9] at eo8
            subst eo8
            try rw [e4_9] at hf
            refine va_aldq hx hb hK hP 15 3 rfl rfl hi7 dX5_fits_31 ?_
            rw [e4_9]
            refine lv_renV (v := .ref qs7) rfl ?_
            refine va_get (D := D) (ci := 2) (v := .int (shSort (sheets 3))) (C := RX2) (T := TX2) (N := 3) hx hb hts hi_RX2 hown hK hP 22 rfl rfl 1 (by decide) (hts (.fieldLink RX5 212 "TravelMarks$Sheet" "sort" "I") (List.mem_of_getElem? (i := 2) rfl)) (fun _ h9 => h9) rfl dX5_fits_32 ?_
            refine lv_iconst (v := (-1)) hx hb dX5_fits_35 rfl ?_
            refine lv_icmp_ne (tgt := 42) hx hb dX5_fits_36 (by decide) (fun c10 => ?_) (fun c10 => ?_)
            · replace hf := if_fe c10 hf
              refine lv_iconst (v := 0) hx hb dX5_fits_42 rfl ?_
              refine lv_istore (lv' := [(4, .int 0), (0, .ref q0), (1, .int x0), (2, .int x1), (3, .int x2)]) hx hb dX5_fits_43 hl (by decide) rfl (fun ls hl => ?_)
              refine lv_bipush (v := (-3)) hx hb dX5_fits_45 rfl ?_
              refine lv_istore (lv' := [(5, .int (-3)), (4, .int 0), (0, .ref q0), (1, .int x0), (2, .int x1), (3, .int x2)]) hx hb dX5_fits_47 hl (by decide) rfl (fun ls hl => ?_)
              refine lv_bipush (v := 7) hx hb dX5_fits_49 rfl ?_
              refine lv_istore (lv' := [(6, .int 7), (5, .int (-3)), (4, .int 0), (0, .ref q0), (1, .int x0), (2, .int x1), (3, .int x2)]) hx hb dX5_fits_51 hl (by decide) rfl (fun ls hl => ?_)
              obtain ⟨j14, hj14, hf⟩ := lj_e hf
              have Hj14 : ∀ (i11 : Int32) (i12 : Int32) (v13 : PV) (H : Heap) (locs : List Loc) (ls : Array Slot), va_P D vwCl (oTM q0 qn0 qk0 qr0 qc0 qt0 qd0 qs0 qf0 qw0 rowCount anyKept (oPort C qn0 qn1 qn2 qn3 qn4 qn5 qn6 now (oPort C qr0 qr1 qr2 qr3 qr4 qr5 qr6 v13 (oSheets C qs0 qs1 qs2 qs3 qs4 qs5 qs6 qs7 qs8 sheets [])))) H → va_D A (oTM q0 qn0 qk0 qr0 qc0 qt0 qd0 qs0 qf0 qw0 rowCount anyKept (oPort C qn0 qn1 qn2 qn3 qn4 qn5 qn6 now (oPort C qr0 qr1 qr2 qr3 qr4 qr5 qr6 v13 (oSheets C qs0 qs1 qs2 qs3 qs4 qs5 qs6 qs7 qs8 sheets [])))) → va_S A s.heap H locs → lv_has ls 7 [(5, .int i11), (4, .int i12), (3, .int x2)] → j14 i11 i12 v13 = some (r, trial') → W p l e (headSpec wsX5_fits (rmX5_fits)).room s m (List.toArray [Value.ref q0, Value.int x0, Value.int x1, Value.int x2]) below meth c H locs 0 0 Q (F0 m 87 ls []) := by
                intro i11 i12 v13 H locs ls hP hD hS hl hf
                rw [hj14] at hf
                refine lv_iload_n hx hb dX5_fits_87 rfl (lv_at hl 2 rfl) ?_
                refine lv_if_ne (tgt := 96) hx hb dX5_fits_88 (by decide) (fun c15 => ?_) (fun c15 => ?_)
                · replace hf := if_fe c15 hf
                  refine lv_iload hx hb dX5_fits_96 (lv_at hl 0 rfl) ?_
                  cases hf
                  exact kri hQ hAe hx hb hr hlocks hP hD hK hS dX5_fits_98
                · replace hf := if_te c15 hf
                  refine lv_iload hx hb dX5_fits_91 (lv_at hl 1 rfl) ?_
                  refine lv_goto (tgt := 98) hx hb dX5_fits_93 (by decide) ?_
                  cases hf
                  exact kri hQ hAe hx hb hr hlocks hP hD hK hS dX5_fits_98
              have hL53 : ∀ (n : Nat) (i16 : Int32) (i17 : Int32) (i18 : Int32) (v19 : PV) (H : Heap) (locs : List Loc) (ls : Array Slot), va_P D vwCl (oTM q0 qn0 qk0 qr0 qc0 qt0 qd0 qs0 qf0 qw0 rowCount anyKept (oPort C qn0 qn1 qn2 qn3 qn4 qn5 qn6 now (oPort C qr0 qr1 qr2 qr3 qr4 qr5 qr6 v19 (oSheets C qs0 qs1 qs2 qs3 qs4 qs5 qs6 qs7 qs8 sheets [])))) H → va_D A (oTM q0 qn0 qk0 qr0 qc0 qt0 qd0 qs0 qf0 qw0 rowCount anyKept (oPort C qn0 qn1 qn2 qn3 qn4 qn5 qn6 now (oPort C qr0 qr1 qr2 qr3 qr4 qr5 qr6 v19 (oSheets C qs0 qs1 qs2 qs3 qs4 qs5 qs6 qs7 qs8 sheets [])))) → va_S A s.heap H locs → lv_has ls 7 [(6, .int i16), (5, .int i17), (4, .int i18), (0, .ref q0), (1, .int x0), (2, .int x1), (3, .int x2)] → f_X5_fits_L53 N now sheets x0 x1 j14 n i16 i17 i18 v19 = some (r, trial') → W p l e (headSpec wsX5_fits (rmX5_fits)).room s m (List.toArray [Value.ref q0, Value.int x0, Value.int x1, Value.int x2]) below meth c H locs 0 0 Q (F0 m 53 ls []) := by
                intro n
                induction n with
                | zero =>
                  intro i16 i17 i18 v19 H locs ls hP hD hS hl hf
                  exact absurd hf (fun h => by cases h)
                | succ n ih =>
                  intro i16 i17 i18 v19 H locs ls hP hD hS hl hf
                  rw [f_X5_fits_L53] at hf
                  refine lv_iload hx hb dX5_fits_53 (lv_at hl 0 rfl) ?_
                  refine lv_if_lt (tgt := 87) hx hb dX5_fits_55 (by decide) (fun c20 => ?_) (fun c20 => ?_)
                  · replace hf := if_te c20 hf
                    exact Hj14 i17 i18 v19 H locs ls hP hD hS (lv_sub hl [1, 2, 6] rfl) hf
                  · replace hf := if_fe c20 hf
                    refine lv_aload_n hx hb dX5_fits_58 rfl (lv_at hl 3 rfl) ?_
                    refine lv_aload_n hx hb dX5_fits_59 rfl (lv_at hl 3 rfl) ?_
                    refine va_get (D := D) (ci := 5) (v := .ref qs0) (C := RX5) (T := TX5) (N := 11) hx hb hts hi_RX5 hown hK hP 0 rfl rfl 6 (by decide) (hts (.fieldLink RX5 41 "TravelMarks" "sheets" "[LTravelMarks$Sheet;") (List.mem_of_getElem? (i := 1) rfl)) (fun _ h9 => h9) rfl dX5_fits_60 ?_
                    refine lv_iload_n hx hb dX5_fits_63 rfl (lv_at hl 4 rfl) ?_
                    obtain ⟨hi21, hf⟩ := ckA_e hf
                    obtain ⟨o22, eo22, hf⟩ := lj_e hf
                    try rw [e4_9] at eo22
                    subst eo22
                    try rw [e4_9] at hf
                    refine va_aldq hx hb hK hP 15 3 rfl rfl hi21 dX5_fits_64 ?_
                    rw [e4_9]
                    refine lv_renV (v := .ref qs7) rfl ?_
                    refine lv_iload_n hx hb dX5_fits_65 rfl (lv_at hl 5 rfl) ?_
                    refine lv_iload hx hb dX5_fits_66 (lv_at hl 0 rfl) ?_
                    obtain ⟨r24, v25, h26, hf⟩ := ob2_e hf
                    refine kcz (Wx := (oTM q0 qn0 qk0 qr0 qc0 qt0 qd0 qs0 qf0 qw0 rowCount anyKept (oPort C qn0 qn1 qn2 qn3 qn4 qn5 qn6 now (oPort C qr0 qr1 qr2 qr3 qr4 qr5 qr6 v25 (oSheets C qs0 qs1 qs2 qs3 qs4 qs5 qs6 qs7 qs8 sheets []))))) (va_runV (As := [.ref qs7, .int x1, .int i16]) (rest := []) ⟨hx, hb, hml, hown, hts⟩ (c_X5_fitsFrom l E D C q0 qn0 qk0 qr0 qc0 qt0 qd0 qs0 qf0 qw0 qn1 qn2 qn3 qn4 qn5 qn6 qr1 qr2 qr3 qr4 qr5 qr6 qs7 qs8 H.size N rowCount anyKept now v19 (sheets 3) x1 i16 r24 v25 h26) (cwV 3 hts gX5_fits_X5_fitsFrom rfl rfl rfl hdX5_fitsFrom ⟨Nat.le_of_ble_eq_true rfl, Nat.le_of_ble_eq_true rfl⟩) (kpreV hP hD hK hS hE hA [0, 1, 2, 3, 4, 5, 6, 7, 8, 9, 10, 11, 12, 13, 14, 22, 23] rfl rfl 0 rfl rfl rfl) rfl rfl hl.1 rfl (lv_room (Nat.le_of_ble_eq_true rfl)) dX5_fits_68 ⟨Nat.zero_le _, Nat.zero_le _⟩) hP hD hS hA [0, 1, 2, 3, 4, 5, 6, 7, 8, 9, 10, 11, 12, 13, 14, 22, 23] rfl rfl rfl (fun H locs hz27 hP hD hS => ?_)
                    obtain ⟨j30, hj30, hf⟩ := lj_e hf
                    have Hj30 : ∀ (i28 : Int32) (i29 : Int32) (H : Heap) (locs : List Loc) (ls : Array Slot), va_P D vwCl (oTM q0 qn0 qk0 qr0 qc0 qt0 qd0 qs0 qf0 qw0 rowCount anyKept (oPort C qn0 qn1 qn2 qn3 qn4 qn5 qn6 now (oPort C qr0 qr1 qr2 qr3 qr4 qr5 qr6 v25 (oSheets C qs0 qs1 qs2 qs3 qs4 qs5 qs6 qs7 qs8 sheets [])))) H → va_D A (oTM q0 qn0 qk0 qr0 qc0 qt0 qd0 qs0 qf0 qw0 rowCount anyKept (oPort C qn0 qn1 qn2 qn3 qn4 qn5 qn6 now (oPort C qr0 qr1 qr2 qr3 qr4 qr5 qr6 v25 (oSheets C qs0 qs1 qs2 qs3 qs4 qs5 qs6 qs7 qs8 sheets [])))) → va_S A s.heap H locs → lv_has ls 7 [(6, .int i16), (5, .int i28), (4, .int i29), (0, .ref q0), (1, .int x0), (2, .int x1), (3, .int x2)] → j30 i28 i29 = some (r, trial') → W p l e (headSpec wsX5_fits (rmX5_fits)).room s m (List.toArray [Value.ref q0, Value.int x0, Value.int x1, Value.int x2]) below meth c H locs 0 0 Q (F0 m 81 ls []) := by
                      intro i28 i29 H locs ls hP hD hS hl hf
                      rw [hj30] at hf
                      obtain ⟨t31, et31, hf⟩ := lj_e hf
                      refine lv_iinc (v := t31) (lv' := [(6, .int t31), (5, .int i28), (4, .int i29), (0, .ref q0), (1, .int x0), (2, .int x1), (3, .int x2)]) hx hb dX5_fits_81 hl (k := 0) rfl (by rw [et31]; rfl) (by decide) rfl (fun ls hl => ?_)
                      refine lv_goto (tgt := 53) hx hb dX5_fits_84 (by decide) ?_
                      exact ih t31 i28 i29 v25 H locs ls hP hD hS (lv_sub hl [0, 1, 2, 3, 4, 5, 6] rfl) hf
                    refine lv_if_eq (tgt := 81) hx hb dX5_fits_71 (by decide) (fun c32 => ?_) (fun c32 => ?_)
                    · replace hf := if_te c32 hf
                      exact Hj30 i17 i18 H locs ls hP hD hS (lv_sub hl [0, 1, 2, 3, 4, 5, 6] rfl) hf
                    · replace hf := if_fe c32 hf
                      obtain ⟨t33, et33, hf⟩ := lj_e hf
                      refine lv_iinc (v := t33) (lv' := [(4, .int t33), (6, .int i16), (5, .int i17), (0, .ref q0), (1, .int x0), (2, .int x1), (3, .int x2)]) hx hb dX5_fits_74 hl (k := 2) rfl (by rw [et33]; rfl) (by decide) rfl (fun ls hl => ?_)
                      refine lv_iload hx hb dX5_fits_77 (lv_at hl 1 rfl) ?_
                      refine lv_istore (lv' := [(5, .int i16), (4, .int t33), (6, .int i16), (0, .ref q0), (1, .int x0), (2, .int x1), (3, .int x2)]) hx hb dX5_fits_79 hl (by decide) rfl (fun ls hl => ?_)
                      exact Hj30 i16 t33 H locs ls hP hD hS (lv_sub hl [2, 0, 1, 3, 4, 5, 6] rfl) hf
              exact hL53 N 7 (-3) 0 trial H locs ls hP hD hS (lv_sub hl [0, 1, 2, 3, 4, 5, 6] rfl) hf
            · replace hf := if_te c10 hf
              refine lv_bipush (v := (-11)) hx hb dX5_fits_39 rfl ?_
              cases hf
              exact kri hQ hAe hx hb hr hlocks hP hD hK hS dX5_fits_41
        · replace hf := if_te c6 hf
          refine lv_iconst (v := (-1)) hx hb dX5_fits_24 rfl ?_
          cases hf
          exact kri hQ hAe hx hb hr hlocks hP hD hK hS dX5_fits_25
  exact main _ _ hP hD hS

def rmX5_choices : Room := { frames := 0, cells := 0, slots := 0, locals := 0 }
theorem hdX5_choices : yX5_choices.cls ≠ "java/lang/invoke/MethodHandle" ∧ yX5_choices.cls ≠ "java/lang/invoke/VarHandle" ∧ (parseMethodDescriptor yX5_choices.desc).map (fun d => d.parameters.length) = some 2 := by decide +kernel
set_option maxHeartbeats 40000000 in
set_option maxRecDepth 100000 in
theorem c_X5_choices (l : Launch) (E : Nat → Nat) (D : va_G) (C : Nat → ClassId) (sz : Nat) (N : Nat)  (x0 : Int32) (x1 : Int32) (r : Int64) (hf : f_X5_choices N x0 x1 = some r) : Met l yX5_choices wsX5_choices rmX5_choices (PC E D C [.int x0, .int x1] [] sz) (QL D C [] [] sz r) 0 0 (va_A [] sz) := by
  refine Met.ofW (cc := cX5_choices) (maxL := 5) (ret := (some .long)) (by decide) rfl ?_
  intro p e s m args below meth c s₁ B hml hv
  obtain ⟨rfl, hsz, hP, hK, hD0, hE⟩ := hv
  have hx := B.exec
  have hb := B.bytes
  have hr := B.returns
  have hts := atoms_spec (ws := wsX5_choices) B.pre
  have hown : s.vm.findClass RX5 = some m.cls := findClass_of_methodNamed B.named
  have hlocks := B.notSynchronized
  subst hsz
  have hD := hD0.self (sz := s.heap.size)
  obtain ⟨A, hAe⟩ := nm_ex (va_A [] s.heap.size)
  rw [← hAe] at hD hE ⊢
  have hA : ∀ q : Nat, s.heap.size ≤ q → A q := fun q h => by rw [hAe]; exact Or.inr h
  have hS : va_S A s.heap s.heap [] := va_S.rf
  have hl := lv_entry ([.int x0, .int x1]) (n := 5) (Nat.le_of_ble_eq_true rfl)
  rw [lg_entry_eq]
  generalize (lg_sl ([.int x0, .int x1]) ++ List.replicate (5 - (lg_sl ([.int x0, .int x1])).length) Slot.unset).toArray = ls at hl ⊢
  have hl : lv_has ls 5 [(0, .int x0), (1, .int x1)] := hl
  obtain ⟨Q, hQ⟩ := nm_ex (MQ below (QL D C [] [] s.heap.size r) (List.toArray [Value.int x0, Value.int x1]) s 0 0 A)
  show W p l e (headSpec wsX5_choices (rmX5_choices)).room s m (List.toArray [Value.int x0, Value.int x1]) below meth c s.heap [] 0 0 (MQ below (QL D C [] [] s.heap.size r) (List.toArray [Value.int x0, Value.int x1]) s 0 0 A) _
  rw [← hQ]
  unfold f_X5_choices at hf
  have main : ∀ (H : Heap) (locs : List Loc), va_P D vwCl [] H → va_D A [] → va_S A s.heap H locs → W p l e (headSpec wsX5_choices (rmX5_choices)).room s m (List.toArray [Value.int x0, Value.int x1]) below meth c H locs 0 0 Q (F0 m 0 ls []) := by
    intro H locs hP hD hS
    refine lv_lconst (v := 1) hx hb dX5_choices_0 rfl ?_
    refine lv_lstore_n (lv' := [(2, .long 1), (0, .int x0), (1, .int x1)]) hx hb dX5_choices_1 rfl hl (by decide) rfl (fun ls hl => ?_)
    refine lv_iconst (v := 1) hx hb dX5_choices_2 rfl ?_
    refine lv_istore (lv' := [(4, .int 1), (2, .long 1), (0, .int x0), (1, .int x1)]) hx hb dX5_choices_3 hl (by decide) rfl (fun ls hl => ?_)
    have hL5 : ∀ (n : Nat) (i1 : Int32) (i2 : Int64) (H : Heap) (locs : List Loc) (ls : Array Slot), va_P D vwCl [] H → va_D A [] → va_S A s.heap H locs → lv_has ls 5 [(4, .int i1), (2, .long i2), (0, .int x0), (1, .int x1)] → f_X5_choices_L5 x0 x1 n i1 i2 = some r → W p l e (headSpec wsX5_choices (rmX5_choices)).room s m (List.toArray [Value.int x0, Value.int x1]) below meth c H locs 0 0 Q (F0 m 5 ls []) := by
      intro n
      induction n with
      | zero =>
        intro i1 i2 H locs ls hP hD hS hl hf
        exact absurd hf (fun h => by cases h)
      | succ n ih =>
        intro i1 i2 H locs ls hP hD hS hl hf
        rw [f_X5_choices_L5] at hf
        refine lv_iload hx hb dX5_choices_5 (lv_at hl 0 rfl) ?_
        refine lv_iload_n hx hb dX5_choices_7 rfl (lv_at hl 3 rfl) ?_
        refine lv_icmp_gt (tgt := 31) hx hb dX5_choices_8 (by decide) (fun c3 => ?_) (fun c3 => ?_)
        · replace hf := if_te c3 hf
          refine lv_lload_n hx hb dX5_choices_31 rfl (lv_at hl 1 rfl) ?_
          cases hf
          exact krl hQ hAe hx hb hr hlocks hP hD hK hS dX5_choices_32
        · replace hf := if_fe c3 hf
          refine lv_lload_n hx hb dX5_choices_11 rfl (lv_at hl 1 rfl) ?_
          refine lv_iload_n hx hb dX5_choices_12 rfl (lv_at hl 2 rfl) ?_
          refine lv_iload_n hx hb dX5_choices_13 rfl (lv_at hl 3 rfl) ?_
          refine lv_isub hx hb dX5_choices_14 ?_
          refine lv_iload hx hb dX5_choices_15 (lv_at hl 0 rfl) ?_
          refine lv_iadd hx hb dX5_choices_17 ?_
          refine lv_i2l hx hb dX5_choices_18 rfl ?_
          refine lv_lmul hx hb dX5_choices_19 ?_
          refine lv_iload hx hb dX5_choices_20 (lv_at hl 0 rfl) ?_
          refine lv_i2l hx hb dX5_choices_22 rfl ?_
          obtain ⟨hz4, hf⟩ := gdP_e hf
          refine lv_ldiv hx hb dX5_choices_23 hz4 ?_
          obtain ⟨t5, et5, hf⟩ := lj_e hf
          refine lv_renL et5 ?_
          refine lv_lstore_n (lv' := [(2, .long t5), (4, .int i1), (0, .int x0), (1, .int x1)]) hx hb dX5_choices_24 rfl hl (by decide) rfl (fun ls hl => ?_)
          obtain ⟨t6, et6, hf⟩ := lj_e hf
          refine lv_iinc (v := t6) (lv' := [(4, .int t6), (2, .long t5), (0, .int x0), (1, .int x1)]) hx hb dX5_choices_25 hl (k := 1) rfl (by rw [et6]; rfl) (by decide) rfl (fun ls hl => ?_)
          refine lv_goto (tgt := 5) hx hb dX5_choices_28 (by decide) ?_
          exact ih t6 t5 H locs ls hP hD hS (lv_sub hl [0, 1, 2, 3] rfl) hf
    exact hL5 N 1 1 H locs ls hP hD hS (lv_sub hl [0, 1, 2, 3] rfl) hf
  exact main _ _ hP hD hS

def rmX5_power : Room := { frames := 0, cells := 0, slots := 0, locals := 0 }
theorem hdX5_power : yX5_power.cls ≠ "java/lang/invoke/MethodHandle" ∧ yX5_power.cls ≠ "java/lang/invoke/VarHandle" ∧ (parseMethodDescriptor yX5_power.desc).map (fun d => d.parameters.length) = some 2 := by decide +kernel
set_option maxHeartbeats 40000000 in
set_option maxRecDepth 100000 in
theorem c_X5_power (l : Launch) (E : Nat → Nat) (D : va_G) (C : Nat → ClassId) (sz : Nat) (N : Nat)  (x0 : Int64) (x1 : Int32) (r : Int64) (hf : f_X5_power N x0 x1 = some r) : Met l yX5_power wsX5_power rmX5_power (PC E D C [.long x0, .int x1] [] sz) (QL D C [] [] sz r) 0 0 (va_A [] sz) := by
  refine Met.ofW (cc := cX5_power) (maxL := 6) (ret := (some .long)) (by decide) rfl ?_
  intro p e s m args below meth c s₁ B hml hv
  obtain ⟨rfl, hsz, hP, hK, hD0, hE⟩ := hv
  have hx := B.exec
  have hb := B.bytes
  have hr := B.returns
  have hts := atoms_spec (ws := wsX5_power) B.pre
  have hown : s.vm.findClass RX5 = some m.cls := findClass_of_methodNamed B.named
  have hlocks := B.notSynchronized
  subst hsz
  have hD := hD0.self (sz := s.heap.size)
  obtain ⟨A, hAe⟩ := nm_ex (va_A [] s.heap.size)
  rw [← hAe] at hD hE ⊢
  have hA : ∀ q : Nat, s.heap.size ≤ q → A q := fun q h => by rw [hAe]; exact Or.inr h
  have hS : va_S A s.heap s.heap [] := va_S.rf
  have hl := lv_entry ([.long x0, .int x1]) (n := 6) (Nat.le_of_ble_eq_true rfl)
  rw [lg_entry_eq]
  generalize (lg_sl ([.long x0, .int x1]) ++ List.replicate (6 - (lg_sl ([.long x0, .int x1])).length) Slot.unset).toArray = ls at hl ⊢
  have hl : lv_has ls 6 [(0, .long x0), (2, .int x1)] := hl
  obtain ⟨Q, hQ⟩ := nm_ex (MQ below (QL D C [] [] s.heap.size r) (List.toArray [Value.long x0, Value.int x1]) s 0 0 A)
  show W p l e (headSpec wsX5_power (rmX5_power)).room s m (List.toArray [Value.long x0, Value.int x1]) below meth c s.heap [] 0 0 (MQ below (QL D C [] [] s.heap.size r) (List.toArray [Value.long x0, Value.int x1]) s 0 0 A) _
  rw [← hQ]
  unfold f_X5_power at hf
  have main : ∀ (H : Heap) (locs : List Loc), va_P D vwCl [] H → va_D A [] → va_S A s.heap H locs → W p l e (headSpec wsX5_power (rmX5_power)).room s m (List.toArray [Value.long x0, Value.int x1]) below meth c H locs 0 0 Q (F0 m 0 ls []) := by
    intro H locs hP hD hS
    refine lv_lconst (v := 1) hx hb dX5_power_0 rfl ?_
    refine lv_lstore_n (lv' := [(3, .long 1), (0, .long x0), (2, .int x1)]) hx hb dX5_power_1 rfl hl (by decide) rfl (fun ls hl => ?_)
    refine lv_iconst (v := 0) hx hb dX5_power_2 rfl ?_
    refine lv_istore (lv' := [(5, .int 0), (3, .long 1), (0, .long x0), (2, .int x1)]) hx hb dX5_power_3 hl (by decide) rfl (fun ls hl => ?_)
    have hL5 : ∀ (n : Nat) (i1 : Int32) (i2 : Int64) (H : Heap) (locs : List Loc) (ls : Array Slot), va_P D vwCl [] H → va_D A [] → va_S A s.heap H locs → lv_has ls 6 [(5, .int i1), (3, .long i2), (0, .long x0), (2, .int x1)] → f_X5_power_L5 x0 x1 n i1 i2 = some r → W p l e (headSpec wsX5_power (rmX5_power)).room s m (List.toArray [Value.long x0, Value.int x1]) below meth c H locs 0 0 Q (F0 m 5 ls []) := by
      intro n
      induction n with
      | zero =>
        intro i1 i2 H locs ls hP hD hS hl hf
        exact absurd hf (fun h => by cases h)
      | succ n ih =>
        intro i1 i2 H locs ls hP hD hS hl hf
        rw [f_X5_power_L5] at hf
        refine lv_iload hx hb dX5_power_5 (lv_at hl 0 rfl) ?_
        refine lv_iload_n hx hb dX5_power_7 rfl (lv_at hl 3 rfl) ?_
        refine lv_icmp_ge (tgt := 21) hx hb dX5_power_8 (by decide) (fun c3 => ?_) (fun c3 => ?_)
        · replace hf := if_te c3 hf
          refine lv_lload_n hx hb dX5_power_21 rfl (lv_at hl 1 rfl) ?_
          cases hf
          exact krl hQ hAe hx hb hr hlocks hP hD hK hS dX5_power_22
        · replace hf := if_fe c3 hf
          refine lv_lload_n hx hb dX5_power_11 rfl (lv_at hl 1 rfl) ?_
          refine lv_lload_n hx hb dX5_power_12 rfl (lv_at hl 2 rfl) ?_
          refine lv_lmul hx hb dX5_power_13 ?_
          obtain ⟨t4, et4, hf⟩ := lj_e hf
          refine lv_renL et4 ?_
          refine lv_lstore_n (lv' := [(3, .long t4), (5, .int i1), (0, .long x0), (2, .int x1)]) hx hb dX5_power_14 rfl hl (by decide) rfl (fun ls hl => ?_)
          obtain ⟨t5, et5, hf⟩ := lj_e hf
          refine lv_iinc (v := t5) (lv' := [(5, .int t5), (3, .long t4), (0, .long x0), (2, .int x1)]) hx hb dX5_power_15 hl (k := 1) rfl (by rw [et5]; rfl) (by decide) rfl (fun ls hl => ?_)
          refine lv_goto (tgt := 5) hx hb dX5_power_18 (by decide) ?_
          exact ih t5 t4 H locs ls hP hD hS (lv_sub hl [0, 1, 2, 3] rfl) hf
    exact hL5 N 0 1 H locs ls hP hD hS (lv_sub hl [0, 1, 2, 3] rfl) hf
  exact main _ _ hP hD hS

def rmX5_commonDivisor : Room := { frames := 0, cells := 0, slots := 0, locals := 0 }
theorem hdX5_commonDivisor : yX5_commonDivisor.cls ≠ "java/lang/invoke/MethodHandle" ∧ yX5_commonDivisor.cls ≠ "java/lang/invoke/VarHandle" ∧ (parseMethodDescriptor yX5_commonDivisor.desc).map (fun d => d.parameters.length) = some 2 := by decide +kernel
set_option maxHeartbeats 40000000 in
set_option maxRecDepth 100000 in
theorem c_X5_commonDivisor (l : Launch) (E : Nat → Nat) (D : va_G) (C : Nat → ClassId) (sz : Nat) (N : Nat)  (x0 : Int64) (x1 : Int64) (r : Int64) (hf : f_X5_commonDivisor N x0 x1 = some r) : Met l yX5_commonDivisor wsX5_commonDivisor rmX5_commonDivisor (PC E D C [.long x0, .long x1] [] sz) (QL D C [] [] sz r) 0 0 (va_A [] sz) := by
  refine Met.ofW (cc := cX5_commonDivisor) (maxL := 7) (ret := (some .long)) (by decide) rfl ?_
  intro p e s m args below meth c s₁ B hml hv
  obtain ⟨rfl, hsz, hP, hK, hD0, hE⟩ := hv
  have hx := B.exec
  have hb := B.bytes
  have hr := B.returns
  have hts := atoms_spec (ws := wsX5_commonDivisor) B.pre
  have hown : s.vm.findClass RX5 = some m.cls := findClass_of_methodNamed B.named
  have hlocks := B.notSynchronized
  subst hsz
  have hD := hD0.self (sz := s.heap.size)
  obtain ⟨A, hAe⟩ := nm_ex (va_A [] s.heap.size)
  rw [← hAe] at hD hE ⊢
  have hA : ∀ q : Nat, s.heap.size ≤ q → A q := fun q h => by rw [hAe]; exact Or.inr h
  have hS : va_S A s.heap s.heap [] := va_S.rf
  have hl := lv_entry ([.long x0, .long x1]) (n := 7) (Nat.le_of_ble_eq_true rfl)
  rw [lg_entry_eq]
  generalize (lg_sl ([.long x0, .long x1]) ++ List.replicate (7 - (lg_sl ([.long x0, .long x1])).length) Slot.unset).toArray = ls at hl ⊢
  have hl : lv_has ls 7 [(0, .long x0), (2, .long x1)] := hl
  obtain ⟨Q, hQ⟩ := nm_ex (MQ below (QL D C [] [] s.heap.size r) (List.toArray [Value.long x0, Value.long x1]) s 0 0 A)
  show W p l e (headSpec wsX5_commonDivisor (rmX5_commonDivisor)).room s m (List.toArray [Value.long x0, Value.long x1]) below meth c s.heap [] 0 0 (MQ below (QL D C [] [] s.heap.size r) (List.toArray [Value.long x0, Value.long x1]) s 0 0 A) _
  rw [← hQ]
  unfold f_X5_commonDivisor at hf
  have main : ∀ (H : Heap) (locs : List Loc), va_P D vwCl [] H → va_D A [] → va_S A s.heap H locs → W p l e (headSpec wsX5_commonDivisor (rmX5_commonDivisor)).room s m (List.toArray [Value.long x0, Value.long x1]) below meth c H locs 0 0 Q (F0 m 0 ls []) := by
    intro H locs hP hD hS
    refine lv_iconst (v := 0) hx hb dX5_commonDivisor_0 rfl ?_
    refine lv_istore (lv' := [(4, .int 0), (0, .long x0), (2, .long x1)]) hx hb dX5_commonDivisor_1 hl (by decide) rfl (fun ls hl => ?_)
    have hL3 : ∀ (n : Nat) (i1 : Int32) (i2 : Int64) (i3 : Int64) (H : Heap) (locs : List Loc) (ls : Array Slot), va_P D vwCl [] H → va_D A [] → va_S A s.heap H locs → lv_has ls 7 [(4, .int i1), (0, .long i2), (2, .long i3)] → f_X5_commonDivisor_L3 n i1 i2 i3 = some r → W p l e (headSpec wsX5_commonDivisor (rmX5_commonDivisor)).room s m (List.toArray [Value.long x0, Value.long x1]) below meth c H locs 0 0 Q (F0 m 3 ls []) := by
      intro n
      induction n with
      | zero =>
        intro i1 i2 i3 H locs ls hP hD hS hl hf
        exact absurd hf (fun h => by cases h)
      | succ n ih =>
        intro i1 i2 i3 H locs ls hP hD hS hl hf
        rw [f_X5_commonDivisor_L3] at hf
        refine lv_iload hx hb dX5_commonDivisor_3 (lv_at hl 0 rfl) ?_
        refine lv_bipush (v := 100) hx hb dX5_commonDivisor_5 rfl ?_
        refine lv_icmp_ge (tgt := 32) hx hb dX5_commonDivisor_7 (by decide) (fun c4 => ?_) (fun c4 => ?_)
        · replace hf := if_te c4 hf
          refine lv_lload_n hx hb dX5_commonDivisor_32 rfl (lv_at hl 1 rfl) ?_
          cases hf
          exact krl hQ hAe hx hb hr hlocks hP hD hK hS dX5_commonDivisor_33
        · replace hf := if_fe c4 hf
          refine lv_lload_n hx hb dX5_commonDivisor_10 rfl (lv_at hl 2 rfl) ?_
          refine lv_lconst (v := 0) hx hb dX5_commonDivisor_11 rfl ?_
          refine W.lcmp hx hb dX5_commonDivisor_12 ?_
          refine lv_if_eq (tgt := 32) hx hb dX5_commonDivisor_13 (by decide) (fun c5 => ?_) (fun c5 => ?_)
          · replace hf := if_te c5 hf
            refine lv_lload_n hx hb dX5_commonDivisor_32 rfl (lv_at hl 1 rfl) ?_
            cases hf
            exact krl hQ hAe hx hb hr hlocks hP hD hK hS dX5_commonDivisor_33
          · replace hf := if_fe c5 hf
            refine lv_lload_n hx hb dX5_commonDivisor_16 rfl (lv_at hl 1 rfl) ?_
            refine lv_lload_n hx hb dX5_commonDivisor_17 rfl (lv_at hl 2 rfl) ?_
            obtain ⟨hz6, hf⟩ := gdP_e hf
            refine lv_lrem hx hb dX5_commonDivisor_18 hz6 ?_
            obtain ⟨t7, et7, hf⟩ := lj_e hf
            refine lv_renL et7 ?_
            refine lv_lstore (lv' := [(5, .long t7), (4, .int i1), (0, .long i2), (2, .long i3)]) hx hb dX5_commonDivisor_19 hl (by decide) rfl (fun ls hl => ?_)
            refine lv_lload_n hx hb dX5_commonDivisor_21 rfl (lv_at hl 3 rfl) ?_
            refine lv_lstore_n (lv' := [(0, .long i3), (5, .long t7), (4, .int i1), (2, .long i3)]) hx hb dX5_commonDivisor_22 rfl hl (by decide) rfl (fun ls hl => ?_)
            refine lv_lload hx hb dX5_commonDivisor_23 (lv_at hl 1 rfl) ?_
            refine lv_lstore_n (lv' := [(2, .long t7), (0, .long i3), (5, .long t7), (4, .int i1)]) hx hb dX5_commonDivisor_25 rfl hl (by decide) rfl (fun ls hl => ?_)
            obtain ⟨t8, et8, hf⟩ := lj_e hf
            refine lv_iinc (v := t8) (lv' := [(4, .int t8), (2, .long t7), (0, .long i3), (5, .long t7)]) hx hb dX5_commonDivisor_26 hl (k := 3) rfl (by rw [et8]; rfl) (by decide) rfl (fun ls hl => ?_)
            refine lv_goto (tgt := 3) hx hb dX5_commonDivisor_29 (by decide) ?_
            exact ih t8 i3 t7 H locs ls hP hD hS (lv_sub hl [0, 2, 1] rfl) hf
    exact hL3 N 0 x0 x1 H locs ls hP hD hS (lv_sub hl [0, 1, 2] rfl) hf
  exact main _ _ hP hD hS

