def rmX5_item : Room := { frames := 2, cells := 0, slots := 0, locals := 42 }
theorem hdX5_item : yX5_item.cls = RX5 ∧ yX5_item.cls ≠ "java/lang/invoke/MethodHandle" ∧ yX5_item.cls ≠ "java/lang/invoke/VarHandle" ∧ (parseMethodDescriptor yX5_item.desc).map (fun d => d.parameters.length) = some 3 := by decide +kernel
set_option maxHeartbeats 40000000 in
set_option maxRecDepth 100000 in
theorem c_X5_item (l : Launch) (E : Nat → Nat) (D : va_G) (C : Nat → ClassId) (q0 qn0 qk0 qr0 qc0 qt0 qd0 qs0 qf0 qw0 qs1 qs2 qs3 qs4 qs5 qs6 qs7 qs8 : Nat) (sz : Nat) (rowCount : Int32) (anyKept : Int32) (sheets : Nat → HV) (x0 : Int32) (x1 : Int32) (x2 : Int32) (r : Int32) (hf : f_X5_item sheets x0 x1 x2 = some r) : Met l yX5_item wsX5_item rmX5_item (PC E D C [.ref q0, .int x0, .int x1, .int x2] (oTM q0 qn0 qk0 qr0 qc0 qt0 qd0 qs0 qf0 qw0 rowCount anyKept (oSheets C qs0 qs1 qs2 qs3 qs4 qs5 qs6 qs7 qs8 sheets [])) sz) (QI D C (oTM q0 qn0 qk0 qr0 qc0 qt0 qd0 qs0 qf0 qw0 rowCount anyKept (oSheets C qs0 qs1 qs2 qs3 qs4 qs5 qs6 qs7 qs8 sheets [])) (oTM q0 qn0 qk0 qr0 qc0 qt0 qd0 qs0 qf0 qw0 rowCount anyKept (oSheets C qs0 qs1 qs2 qs3 qs4 qs5 qs6 qs7 qs8 sheets [])) sz r) 0 0 (va_A (oTM q0 qn0 qk0 qr0 qc0 qt0 qd0 qs0 qf0 qw0 rowCount anyKept (oSheets C qs0 qs1 qs2 qs3 qs4 qs5 qs6 qs7 qs8 sheets [])) sz) := by
  refine Met.ofW (cc := cX5_item) (maxL := 5) (ret := (some .int)) (by decide) rfl ?_
  intro p e s m args below meth c s₁ B hml hv
  obtain ⟨rfl, hsz, hP, hK, hD0, hE⟩ := hv
  have hx := B.exec
  have hb := B.bytes
  have hr := B.returns
  have hts := atoms_spec (ws := wsX5_item) B.pre
  have hown : s.vm.findClass RX5 = some m.cls := findClass_of_methodNamed B.named
  have hlocks := B.notSynchronized
  subst hsz
  have hi_RX2 : ∀ w ∈ wsX20, w ∈ wsX5_item := fun _ h => List.mem_cons_of_mem _ (List.mem_append_right _ h)
  have hi_RX5 : ∀ w ∈ wsX50, w ∈ wsX5_item := fun _ h => List.mem_cons_of_mem _ (List.mem_append_left _ (List.mem_append_right _ h))
  have hD := hD0.self (sz := s.heap.size)
  obtain ⟨A, hAe⟩ := nm_ex (va_A (oTM q0 qn0 qk0 qr0 qc0 qt0 qd0 qs0 qf0 qw0 rowCount anyKept (oSheets C qs0 qs1 qs2 qs3 qs4 qs5 qs6 qs7 qs8 sheets [])) s.heap.size)
  rw [← hAe] at hD hE ⊢
  have hA : ∀ q : Nat, s.heap.size ≤ q → A q := fun q h => by rw [hAe]; exact Or.inr h
  have hS : va_S A s.heap s.heap [] := va_S.rf
  have hl := lv_entry ([.ref q0, .int x0, .int x1, .int x2]) (n := 5) (Nat.le_of_ble_eq_true rfl)
  rw [lg_entry_eq]
  generalize (lg_sl ([.ref q0, .int x0, .int x1, .int x2]) ++ List.replicate (5 - (lg_sl ([.ref q0, .int x0, .int x1, .int x2])).length) Slot.unset).toArray = ls at hl ⊢
  have hl : lv_has ls 5 [(0, .ref q0), (1, .int x0), (2, .int x1), (3, .int x2)] := hl
  obtain ⟨Q, hQ⟩ := nm_ex (MQ below (QI D C (oTM q0 qn0 qk0 qr0 qc0 qt0 qd0 qs0 qf0 qw0 rowCount anyKept (oSheets C qs0 qs1 qs2 qs3 qs4 qs5 qs6 qs7 qs8 sheets [])) (oTM q0 qn0 qk0 qr0 qc0 qt0 qd0 qs0 qf0 qw0 rowCount anyKept (oSheets C qs0 qs1 qs2 qs3 qs4 qs5 qs6 qs7 qs8 sheets [])) s.heap.size r) (List.toArray [Value.ref q0, Value.int x0, Value.int x1, Value.int x2]) s 0 0 A)
  show W p l e (headSpec wsX5_item (rmX5_item)).room s m (List.toArray [Value.ref q0, Value.int x0, Value.int x1, Value.int x2]) below meth c s.heap [] 0 0 (MQ below (QI D C (oTM q0 qn0 qk0 qr0 qc0 qt0 qd0 qs0 qf0 qw0 rowCount anyKept (oSheets C qs0 qs1 qs2 qs3 qs4 qs5 qs6 qs7 qs8 sheets [])) (oTM q0 qn0 qk0 qr0 qc0 qt0 qd0 qs0 qf0 qw0 rowCount anyKept (oSheets C qs0 qs1 qs2 qs3 qs4 qs5 qs6 qs7 qs8 sheets [])) s.heap.size r) (List.toArray [Value.ref q0, Value.int x0, Value.int x1, Value.int x2]) s 0 0 A) _
  rw [← hQ]
  unfold f_X5_item at hf
  have main : ∀ (H : Heap) (locs : List Loc), va_P D vwCl (oTM q0 qn0 qk0 qr0 qc0 qt0 qd0 qs0 qf0 qw0 rowCount anyKept (oSheets C qs0 qs1 qs2 qs3 qs4 qs5 qs6 qs7 qs8 sheets [])) H → va_D A (oTM q0 qn0 qk0 qr0 qc0 qt0 qd0 qs0 qf0 qw0 rowCount anyKept (oSheets C qs0 qs1 qs2 qs3 qs4 qs5 qs6 qs7 qs8 sheets [])) → va_S A s.heap H locs → W p l e (headSpec wsX5_item (rmX5_item)).room s m (List.toArray [Value.ref q0, Value.int x0, Value.int x1, Value.int x2]) below meth c H locs 0 0 Q (F0 m 0 ls []) := by
    intro H locs hP hD hS
    refine lv_iload_n hx hb dX5_item_0 rfl (lv_at hl 1 rfl) ?_
    refine kcz (Wx := (oTM q0 qn0 qk0 qr0 qc0 qt0 qd0 qs0 qf0 qw0 rowCount anyKept (oSheets C qs0 qs1 qs2 qs3 qs4 qs5 qs6 qs7 qs8 sheets []))) (va_runS (As := [.int x0]) (rest := []) ⟨hx, hb, hml, hown, hts⟩ (c_X5_isSheet l E D C H.size x0 _ rfl) (va_cwS 1 hts gX5_item_X5_isSheet rfl rfl rfl hdX5_isSheet ⟨Nat.le_of_ble_eq_true rfl, Nat.le_of_ble_eq_true rfl⟩) (kpre hP hD hK hS hE hA [] rfl rfl) rfl rfl hl.1 rfl (lv_room (Nat.le_of_ble_eq_true rfl)) dX5_item_1 ⟨Nat.zero_le _, Nat.zero_le _⟩) hP hD hS hA [] rfl rfl rfl (fun H locs hz1 hP hD hS => ?_)
    refine lv_if_eq (tgt := 16) hx hb dX5_item_4 (by decide) (fun c2 => ?_) (fun c2 => ?_)
    · replace hf := if_te c2 hf
      refine lv_iconst (v := (-1)) hx hb dX5_item_16 rfl ?_
      cases hf
      exact kri hQ hAe hx hb hr hlocks hP hD hK hS dX5_item_17
    · replace hf := if_fe c2 hf
      refine lv_iload_n hx hb dX5_item_7 rfl (lv_at hl 2 rfl) ?_
      refine lv_iconst (v := 0) hx hb dX5_item_8 rfl ?_
      refine lv_iconst (v := 3) hx hb dX5_item_9 rfl ?_
      refine kcz (Wx := (oTM q0 qn0 qk0 qr0 qc0 qt0 qd0 qs0 qf0 qw0 rowCount anyKept (oSheets C qs0 qs1 qs2 qs3 qs4 qs5 qs6 qs7 qs8 sheets []))) (va_runS (As := [.int x1, .int 0, .int 3]) (rest := []) ⟨hx, hb, hml, hown, hts⟩ (c_X5_within l E D C H.size x1 0 3 _ rfl) (va_cwS 3 hts gX5_item_X5_within rfl rfl rfl hdX5_within ⟨Nat.le_of_ble_eq_true rfl, Nat.le_of_ble_eq_true rfl⟩) (kpre hP hD hK hS hE hA [] rfl rfl) rfl rfl hl.1 rfl (lv_room (Nat.le_of_ble_eq_true rfl)) dX5_item_10 ⟨Nat.zero_le _, Nat.zero_le _⟩) hP hD hS hA [] rfl rfl rfl (fun H locs hz3 hP hD hS => ?_)
      refine lv_if_ne (tgt := 18) hx hb dX5_item_13 (by decide) (fun c4 => ?_) (fun c4 => ?_)
      · replace hf := if_fe c4 hf
        refine lv_aload_n hx hb dX5_item_18 rfl (lv_at hl 0 rfl) ?_
        refine va_get (D := D) (ci := 5) (v := .ref qs0) (C := RX5) (T := TX5) (N := 11) hx hb hts hi_RX5 hown hK hP 0 rfl rfl 6 (by decide) (hts (.fieldLink RX5 41 "TravelMarks" "sheets" "[LTravelMarks$Sheet;") (List.mem_of_getElem? (i := 1) rfl)) (fun _ h9 => h9) rfl dX5_item_19 ?_
        refine lv_iload_n hx hb dX5_item_22 rfl (lv_at hl 1 rfl) ?_
        obtain ⟨hi5, hf⟩ := ckA_e hf
        obtain ⟨o6, eo6, hf⟩ := lj_e hf
        rcases four hi5 with e4_7 | e4_7 | e4_7 | e4_7
        · rw [e4_7] at eo6
          subst eo6
          try rw [e4_7] at hf
          refine va_aldq hx hb hK hP 1 3 rfl rfl hi5 dX5_item_23 ?_
          rw [e4_7]
          refine lv_renV (v := .ref qs1) rfl ?_
          refine lv_astore (lv' := [(4, .ref qs1), (0, .ref q0), (1, .int x0), (2, .int x1), (3, .int x2)]) hx hb dX5_item_24 hl (by decide) rfl (fun ls hl => ?_)
          refine lv_aload hx hb dX5_item_26 (lv_at hl 0 rfl) ?_
          refine va_get (D := D) (ci := 2) (v := .int (shSort (sheets 0))) (C := RX2) (T := TX2) (N := 3) hx hb hts hi_RX2 hown hK hP 2 rfl rfl 1 (by decide) (hts (.fieldLink RX5 212 "TravelMarks$Sheet" "sort" "I") (List.mem_of_getElem? (i := 2) rfl)) (fun _ h9 => h9) rfl dX5_item_28 ?_
          refine lv_iconst (v := (-1)) hx hb dX5_item_31 rfl ?_
          refine lv_icmp_ne (tgt := 38) hx hb dX5_item_32 (by decide) (fun c8 => ?_) (fun c8 => ?_)
          · replace hf := if_fe c8 hf
            refine lv_aload hx hb dX5_item_38 (lv_at hl 0 rfl) ?_
            refine va_get (D := D) (ci := 2) (v := .int (shSort (sheets 0))) (C := RX2) (T := TX2) (N := 3) hx hb hts hi_RX2 hown hK hP 2 rfl rfl 1 (by decide) (hts (.fieldLink RX5 212 "TravelMarks$Sheet" "sort" "I") (List.mem_of_getElem? (i := 2) rfl)) (fun _ h9 => h9) rfl dX5_item_40 ?_
            refine lv_iload_n hx hb dX5_item_43 rfl (lv_at hl 3 rfl) ?_
            refine lv_icmp_eq (tgt := 50) hx hb dX5_item_44 (by decide) (fun c9 => ?_) (fun c9 => ?_)
            · replace hf := if_te c9 hf
              refine lv_iload_n hx hb dX5_item_50 rfl (lv_at hl 4 rfl) ?_
              refine lv_iconst (v := 0) hx hb dX5_item_51 rfl ?_
              refine lv_aload hx hb dX5_item_52 (lv_at hl 0 rfl) ?_
              refine va_get (D := D) (ci := 2) (v := .int (shSize (sheets 0))) (C := RX2) (T := TX2) (N := 3) hx hb hts hi_RX2 hown hK hP 2 rfl rfl 2 (by decide) (hts (.fieldLink RX5 219 "TravelMarks$Sheet" "size" "I") (List.mem_of_getElem? (i := 3) rfl)) (fun _ h9 => h9) rfl dX5_item_54 ?_
              refine lv_iconst (v := 1) hx hb dX5_item_57 rfl ?_
              refine lv_isub hx hb dX5_item_58 ?_
              refine kcz (Wx := (oTM q0 qn0 qk0 qr0 qc0 qt0 qd0 qs0 qf0 qw0 rowCount anyKept (oSheets C qs0 qs1 qs2 qs3 qs4 qs5 qs6 qs7 qs8 sheets []))) (va_runS (As := [.int x2, .int 0, .int ((shSize (sheets 0)) - 1)]) (rest := []) ⟨hx, hb, hml, hown, hts⟩ (c_X5_within l E D C H.size x2 0 ((shSize (sheets 0)) - 1) _ rfl) (va_cwS 3 hts gX5_item_X5_within rfl rfl rfl hdX5_within ⟨Nat.le_of_ble_eq_true rfl, Nat.le_of_ble_eq_true rfl⟩) (kpre hP hD hK hS hE hA [] rfl rfl) rfl rfl hl.1 rfl (lv_room (Nat.le_of_ble_eq_true rfl)) dX5_item_59 ⟨Nat.zero_le _, Nat.zero_le _⟩) hP hD hS hA [] rfl rfl rfl (fun H locs hz10 hP hD hS => ?_)
              refine lv_if_eq (tgt := 76) hx hb dX5_item_62 (by decide) (fun c11 => ?_) (fun c11 => ?_)
              · replace hf := if_te c11 hf
                refine lv_bipush (v := (-12)) hx hb dX5_item_76 rfl ?_
                cases hf
                exact kri hQ hAe hx hb hr hlocks hP hD hK hS dX5_item_78
              · replace hf := if_fe c11 hf
                refine lv_aload hx hb dX5_item_65 (lv_at hl 0 rfl) ?_
                refine va_get (D := D) (ci := 2) (v := .ref qs2) (C := RX2) (T := TX2) (N := 3) hx hb hts hi_RX2 hown hK hP 2 rfl rfl 0 (by decide) (hts (.fieldLink RX5 222 "TravelMarks$Sheet" "items" "[J") (List.mem_of_getElem? (i := 4) rfl)) (fun _ h9 => h9) rfl dX5_item_67 ?_
                refine lv_iload_n hx hb dX5_item_70 rfl (lv_at hl 4 rfl) ?_
                obtain ⟨y13, ey13, hi12, hf⟩ := rdA_x hf
                refine va_lald hx hb hK hP 3 2 rfl rfl hi12 dX5_item_71 ?_
                refine lv_renL ey13 ?_
                refine lv_l2i hx hb dX5_item_72 rfl ?_
                refine lv_goto (tgt := 78) hx hb dX5_item_73 (by decide) ?_
                obtain ⟨t14, et14, hf⟩ := lj_e hf
                refine lv_ren et14 ?_
                cases hf
                exact kri hQ hAe hx hb hr hlocks hP hD hK hS dX5_item_78
            · replace hf := if_fe c9 hf
              refine lv_bipush (v := (-13)) hx hb dX5_item_47 rfl ?_
              cases hf
              exact kri hQ hAe hx hb hr hlocks hP hD hK hS dX5_item_49
          · replace hf := if_te c8 hf
            refine lv_bipush (v := (-11)) hx hb dX5_item_35 rfl ?_
            cases hf
            exact kri hQ hAe hx hb hr hlocks hP hD hK hS dX5_item_37
        · rw [e4_7] at eo6
          subst eo6
          try rw [e4_7] at hf
          refine va_aldq hx hb hK hP 1 3 rfl rfl hi5 dX5_item_23 ?_
          rw [e4_7]
          refine lv_renV (v := .ref qs3) rfl ?_
          refine lv_astore (lv' := [(4, .ref qs3), (0, .ref q0), (1, .int x0), (2, .int x1), (3, .int x2)]) hx hb dX5_item_24 hl (by decide) rfl (fun ls hl => ?_)
          refine lv_aload hx hb dX5_item_26 (lv_at hl 0 rfl) ?_
          refine va_get (D := D) (ci := 2) (v := .int (shSort (sheets 1))) (C := RX2) (T := TX2) (N := 3) hx hb hts hi_RX2 hown hK hP 4 rfl rfl 1 (by decide) (hts (.fieldLink RX5 212 "TravelMarks$Sheet" "sort" "I") (List.mem_of_getElem? (i := 2) rfl)) (fun _ h9 => h9) rfl dX5_item_28 ?_
          refine lv_iconst (v := (-1)) hx hb dX5_item_31 rfl ?_
          refine lv_icmp_ne (tgt := 38) hx hb dX5_item_32 (by decide) (fun c8 => ?_) (fun c8 => ?_)
          · replace hf := if_fe c8 hf
            refine lv_aload hx hb dX5_item_38 (lv_at hl 0 rfl) ?_
            refine va_get (D := D) (ci := 2) (v := .int (shSort (sheets 1))) (C := RX2) (T := TX2) (N := 3) hx hb hts hi_RX2 hown hK hP 4 rfl rfl 1 (by decide) (hts (.fieldLink RX5 212 "TravelMarks$Sheet" "sort" "I") (List.mem_of_getElem? (i := 2) rfl)) (fun _ h9 => h9) rfl dX5_item_40 ?_
            refine lv_iload_n hx hb dX5_item_43 rfl (lv_at hl 3 rfl) ?_
            refine lv_icmp_eq (tgt := 50) hx hb dX5_item_44 (by decide) (fun c9 => ?_) (fun c9 => ?_)
            · replace hf := if_te c9 hf
              refine lv_iload_n hx hb dX5_item_50 rfl (lv_at hl 4 rfl) ?_
              refine lv_iconst (v := 0) hx hb dX5_item_51 rfl ?_
              refine lv_aload hx hb dX5_item_52 (lv_at hl 0 rfl) ?_
              refine va_get (D := D) (ci := 2) (v := .int (shSize (sheets 1))) (C := RX2) (T := TX2) (N := 3) hx hb hts hi_RX2 hown hK hP 4 rfl rfl 2 (by decide) (hts (.fieldLink RX5 219 "TravelMarks$Sheet" "size" "I") (List.mem_of_getElem? (i := 3) rfl)) (fun _ h9 => h9) rfl dX5_item_54 ?_
              refine lv_iconst (v := 1) hx hb dX5_item_57 rfl ?_
              refine lv_isub hx hb dX5_item_58 ?_
              refine kcz (Wx := (oTM q0 qn0 qk0 qr0 qc0 qt0 qd0 qs0 qf0 qw0 rowCount anyKept (oSheets C qs0 qs1 qs2 qs3 qs4 qs5 qs6 qs7 qs8 sheets []))) (va_runS (As := [.int x2, .int 0, .int ((shSize (sheets 1)) - 1)]) (rest := []) ⟨hx, hb, hml, hown, hts⟩ (c_X5_within l E D C H.size x2 0 ((shSize (sheets 1)) - 1) _ rfl) (va_cwS 3 hts gX5_item_X5_within rfl rfl rfl hdX5_within ⟨Nat.le_of_ble_eq_true rfl, Nat.le_of_ble_eq_true rfl⟩) (kpre hP hD hK hS hE hA [] rfl rfl) rfl rfl hl.1 rfl (lv_room (Nat.le_of_ble_eq_true rfl)) dX5_item_59 ⟨Nat.zero_le _, Nat.zero_le _⟩) hP hD hS hA [] rfl rfl rfl (fun H locs hz10 hP hD hS => ?_)
              refine lv_if_eq (tgt := 76) hx hb dX5_item_62 (by decide) (fun c11 => ?_) (fun c11 => ?_)
              · replace hf := if_te c11 hf
                refine lv_bipush (v := (-12)) hx hb dX5_item_76 rfl ?_
                cases hf
                exact kri hQ hAe hx hb hr hlocks hP hD hK hS dX5_item_78
              · replace hf := if_fe c11 hf
                refine lv_aload hx hb dX5_item_65 (lv_at hl 0 rfl) ?_
                refine va_get (D := D) (ci := 2) (v := .ref qs4) (C := RX2) (T := TX2) (N := 3) hx hb hts hi_RX2 hown hK hP 4 rfl rfl 0 (by decide) (hts (.fieldLink RX5 222 "TravelMarks$Sheet" "items" "[J") (List.mem_of_getElem? (i := 4) rfl)) (fun _ h9 => h9) rfl dX5_item_67 ?_
                refine lv_iload_n hx hb dX5_item_70 rfl (lv_at hl 4 rfl) ?_
                obtain ⟨y13, ey13, hi12, hf⟩ := rdA_x hf
                refine va_lald hx hb hK hP 5 2 rfl rfl hi12 dX5_item_71 ?_
                refine lv_renL ey13 ?_
                refine lv_l2i hx hb dX5_item_72 rfl ?_
                refine lv_goto (tgt := 78) hx hb dX5_item_73 (by decide) ?_
                obtain ⟨t14, et14, hf⟩ := lj_e hf
                refine lv_ren et14 ?_
                cases hf
                exact kri hQ hAe hx hb hr hlocks hP hD hK hS dX5_item_78
            · replace hf := if_fe c9 hf
              refine lv_bipush (v := (-13)) hx hb dX5_item_47 rfl ?_
              cases hf
              exact kri hQ hAe hx hb hr hlocks hP hD hK hS dX5_item_49
          · replace hf := if_te c8 hf
            refine lv_bipush (v := (-11)) hx hb dX5_item_35 rfl ?_
            cases hf
            exact kri hQ hAe hx hb hr hlocks hP hD hK hS dX5_item_37
        · rw [e4_7] at eo6
          subst eo6
          try rw [e4_7] at hf
          refine va_aldq hx hb hK hP 1 3 rfl rfl hi5 dX5_item_23 ?_
          rw [e4_7]
          refine lv_renV (v := .ref qs5) rfl ?_
          refine lv_astore (lv' := [(4, .ref qs5), (0, .ref q0), (1, .int x0), (2, .int x1), (3, .int x2)]) hx hb dX5_item_24 hl (by decide) rfl (fun ls hl => ?_)
          refine lv_aload hx hb dX5_item_26 (lv_at hl 0 rfl) ?_
          refine va_get (D := D) (ci := 2) (v := .int (shSort (sheets 2))) (C := RX2) (T := TX2) (N := 3) hx hb hts hi_RX2 hown hK hP 6 rfl rfl 1 (by decide) (hts (.fieldLink RX5 212 "TravelMarks$Sheet" "sort" "I") (List.mem_of_getElem? (i := 2) rfl)) (fun _ h9 => h9) rfl dX5_item_28 ?_
          refine lv_iconst (v := (-1)) hx hb dX5_item_31 rfl ?_
          refine lv_icmp_ne (tgt := 38) hx hb dX5_item_32 (by decide) (fun c8 => ?_) (fun c8 => ?_)
          · replace hf := if_fe c8 hf
            refine lv_aload hx hb dX5_item_38 (lv_at hl 0 rfl) ?_
            refine va_get (D := D) (ci := 2) (v := .int (shSort (sheets 2))) (C := RX2) (T := TX2) (N := 3) hx hb hts hi_RX2 hown hK hP 6 rfl rfl 1 (by decide) (hts (.fieldLink RX5 212 "TravelMarks$Sheet" "sort" "I") (List.mem_of_getElem? (i := 2) rfl)) (fun _ h9 => h9) rfl dX5_item_40 ?_
            refine lv_iload_n hx hb dX5_item_43 rfl (lv_at hl 3 rfl) ?_
            refine lv_icmp_eq (tgt := 50) hx hb dX5_item_44 (by decide) (fun c9 => ?_) (fun c9 => ?_)
            · replace hf := if_te c9 hf
              refine lv_iload_n hx hb dX5_item_50 rfl (lv_at hl 4 rfl) ?_
              refine lv_iconst (v := 0) hx hb dX5_item_51 rfl ?_
              refine lv_aload hx hb dX5_item_52 (lv_at hl 0 rfl) ?_
              refine va_get (D := D) (ci := 2) (v := .int (shSize (sheets 2))) (C := RX2) (T := TX2) (N := 3) hx hb hts hi_RX2 hown hK hP 6 rfl rfl 2 (by decide) (hts (.fieldLink RX5 219 "TravelMarks$Sheet" "size" "I") (List.mem_of_getElem? (i := 3) rfl)) (fun _ h9 => h9) rfl dX5_item_54 ?_
              refine lv_iconst (v := 1) hx hb dX5_item_57 rfl ?_
              refine lv_isub hx hb dX5_item_58 ?_
              refine kcz (Wx := (oTM q0 qn0 qk0 qr0 qc0 qt0 qd0 qs0 qf0 qw0 rowCount anyKept (oSheets C qs0 qs1 qs2 qs3 qs4 qs5 qs6 qs7 qs8 sheets []))) (va_runS (As := [.int x2, .int 0, .int ((shSize (sheets 2)) - 1)]) (rest := []) ⟨hx, hb, hml, hown, hts⟩ (c_X5_within l E D C H.size x2 0 ((shSize (sheets 2)) - 1) _ rfl) (va_cwS 3 hts gX5_item_X5_within rfl rfl rfl hdX5_within ⟨Nat.le_of_ble_eq_true rfl, Nat.le_of_ble_eq_true rfl⟩) (kpre hP hD hK hS hE hA [] rfl rfl) rfl rfl hl.1 rfl (lv_room (Nat.le_of_ble_eq_true rfl)) dX5_item_59 ⟨Nat.zero_le _, Nat.zero_le _⟩) hP hD hS hA [] rfl rfl rfl (fun H locs hz10 hP hD hS => ?_)
              refine lv_if_eq (tgt := 76) hx hb dX5_item_62 (by decide) (fun c11 => ?_) (fun c11 => ?_)
              · replace hf := if_te c11 hf
                refine lv_bipush (v := (-12)) hx hb dX5_item_76 rfl ?_
                cases hf
                exact kri hQ hAe hx hb hr hlocks hP hD hK hS dX5_item_78
              · replace hf := if_fe c11 hf
                refine lv_aload hx hb dX5_item_65 (lv_at hl 0 rfl) ?_
                refine va_get (D := D) (ci := 2) (v := .ref qs6) (C := RX2) (T := TX2) (N := 3) hx hb hts hi_RX2 hown hK hP 6 rfl rfl 0 (by decide) (hts (.fieldLink RX5 222 "TravelMarks$Sheet" "items" "[J") (List.mem_of_getElem? (i := 4) rfl)) (fun _ h9 => h9) rfl dX5_item_67 ?_
                refine lv_iload_n hx hb dX5_item_70 rfl (lv_at hl 4 rfl) ?_
                obtain ⟨y13, ey13, hi12, hf⟩ := rdA_x hf
                refine va_lald hx hb hK hP 7 2 rfl rfl hi12 dX5_item_71 ?_
                refine lv_renL ey13 ?_
                refine lv_l2i hx hb dX5_item_72 rfl ?_
                refine lv_goto (tgt := 78) hx hb dX5_item_73 (by decide) ?_
                obtain ⟨t14, et14, hf⟩ := lj_e hf
                refine lv_ren et14 ?_
                cases hf
                exact kri hQ hAe hx hb hr hlocks hP hD hK hS dX5_item_78
            · replace hf := if_fe c9 hf
              refine lv_bipush (v := (-13)) hx hb dX5_item_47 rfl ?_
              cases hf
              exact kri hQ hAe hx hb hr hlocks hP hD hK hS dX5_item_49
          · replace hf := if_te c8 hf
            refine lv_bipush (v := (-11)) hx hb dX5_item_35 rfl ?_
            cases hf
            exact kri hQ hAe hx hb hr hlocks hP hD hK hS dX5_item_37
        · rw [e4_7] at eo6
          subst eo6
          try rw [e4_7] at hf
          refine va_aldq hx hb hK hP 1 3 rfl rfl hi5 dX5_item_23 ?_
          rw [e4_7]
          refine lv_renV (v := .ref qs7) rfl ?_
          refine lv_astore (lv' := [(4, .ref qs7), (0, .ref q0), (1, .int x0), (2, .int x1), (3, .int x2)]) hx hb dX5_item_24 hl (by decide) rfl (fun ls hl => ?_)
          refine lv_aload hx hb dX5_item_26 (lv_at hl 0 rfl) ?_
          refine va_get (D := D) (ci := 2) (v := .int (shSort (sheets 3))) (C := RX2) (T := TX2) (N := 3) hx hb hts hi_RX2 hown hK hP 8 rfl rfl 1 (by decide) (hts (.fieldLink RX5 212 "TravelMarks$Sheet" "sort" "I") (List.mem_of_getElem? (i := 2) rfl)) (fun _ h9 => h9) rfl dX5_item_28 ?_
          refine lv_iconst (v := (-1)) hx hb dX5_item_31 rfl ?_
          refine lv_icmp_ne (tgt := 38) hx hb dX5_item_32 (by decide) (fun c8 => ?_) (fun c8 => ?_)
          · replace hf := if_fe c8 hf
            refine lv_aload hx hb dX5_item_38 (lv_at hl 0 rfl) ?_
            refine va_get (D := D) (ci := 2) (v := .int (shSort (sheets 3))) (C := RX2) (T := TX2) (N := 3) hx hb hts hi_RX2 hown hK hP 8 rfl rfl 1 (by decide) (hts (.fieldLink RX5 212 "TravelMarks$Sheet" "sort" "I") (List.mem_of_getElem? (i := 2) rfl)) (fun _ h9 => h9) rfl dX5_item_40 ?_
            refine lv_iload_n hx hb dX5_item_43 rfl (lv_at hl 3 rfl) ?_
            refine lv_icmp_eq (tgt := 50) hx hb dX5_item_44 (by decide) (fun c9 => ?_) (fun c9 => ?_)
            · replace hf := if_te c9 hf
              refine lv_iload_n hx hb dX5_item_50 rfl (lv_at hl 4 rfl) ?_
              refine lv_iconst (v := 0) hx hb dX5_item_51 rfl ?_
              refine lv_aload hx hb dX5_item_52 (lv_at hl 0 rfl) ?_
              refine va_get (D := D) (ci := 2) (v := .int (shSize (sheets 3))) (C := RX2) (T := TX2) (N := 3) hx hb hts hi_RX2 hown hK hP 8 rfl rfl 2 (by decide) (hts (.fieldLink RX5 219 "TravelMarks$Sheet" "size" "I") (List.mem_of_getElem? (i := 3) rfl)) (fun _ h9 => h9) rfl dX5_item_54 ?_
              refine lv_iconst (v := 1) hx hb dX5_item_57 rfl ?_
              refine lv_isub hx hb dX5_item_58 ?_
              refine kcz (Wx := (oTM q0 qn0 qk0 qr0 qc0 qt0 qd0 qs0 qf0 qw0 rowCount anyKept (oSheets C qs0 qs1 qs2 qs3 qs4 qs5 qs6 qs7 qs8 sheets []))) (va_runS (As := [.int x2, .int 0, .int ((shSize (sheets 3)) - 1)]) (rest := []) ⟨hx, hb, hml, hown, hts⟩ (c_X5_within l E D C H.size x2 0 ((shSize (sheets 3)) - 1) _ rfl) (va_cwS 3 hts gX5_item_X5_within rfl rfl rfl hdX5_within ⟨Nat.le_of_ble_eq_true rfl, Nat.le_of_ble_eq_true rfl⟩) (kpre hP hD hK hS hE hA [] rfl rfl) rfl rfl hl.1 rfl (lv_room (Nat.le_of_ble_eq_true rfl)) dX5_item_59 ⟨Nat.zero_le _, Nat.zero_le _⟩) hP hD hS hA [] rfl rfl rfl (fun H locs hz10 hP hD hS => ?_)
              refine lv_if_eq (tgt := 76) hx hb dX5_item_62 (by decide) (fun c11 => ?_) (fun c11 => ?_)
              · replace hf := if_te c11 hf
                refine lv_bipush (v := (-12)) hx hb dX5_item_76 rfl ?_
                cases hf
                exact kri hQ hAe hx hb hr hlocks hP hD hK hS dX5_item_78
              · replace hf := if_fe c11 hf
                refine lv_aload hx hb dX5_item_65 (lv_at hl 0 rfl) ?_
                refine va_get (D := D) (ci := 2) (v := .ref qs8) (C := RX2) (T := TX2) (N := 3) hx hb hts hi_RX2 hown hK hP 8 rfl rfl 0 (by decide) (hts (.fieldLink RX5 222 "TravelMarks$Sheet" "items" "[J") (List.mem_of_getElem? (i := 4) rfl)) (fun _ h9 => h9) rfl dX5_item_67 ?_
                refine lv_iload_n hx hb dX5_item_70 rfl (lv_at hl 4 rfl) ?_
                obtain ⟨y13, ey13, hi12, hf⟩ := rdA_x hf
                refine va_lald hx hb hK hP 9 2 rfl rfl hi12 dX5_item_71 ?_
                refine lv_renL ey13 ?_
                refine lv_l2i hx hb dX5_item_72 rfl ?_
                refine lv_goto (tgt := 78) hx hb dX5_item_73 (by decide) ?_
                obtain ⟨t14, et14, hf⟩ := lj_e hf
                refine lv_ren et14 ?_
                cases hf
                exact kri hQ hAe hx hb hr hlocks hP hD hK hS dX5_item_78
            · replace hf := if_fe c9 hf
              refine lv_bipush (v := (-13)) hx hb dX5_item_47 rfl ?_
              cases hf
              exact kri hQ hAe hx hb hr hlocks hP hD hK hS dX5_item_49
          · replace hf := if_te c8 hf
            refine lv_bipush (v := (-11)) hx hb dX5_item_35 rfl ?_
            cases hf
            exact kri hQ hAe hx hb hr hlocks hP hD hK hS dX5_item_37
      · replace hf := if_te c4 hf
        refine lv_iconst (v := (-1)) hx hb dX5_item_16 rfl ?_
        cases hf
        exact kri hQ hAe hx hb hr hlocks hP hD hK hS dX5_item_17
  exact main _ _ hP hD hS

def rmX5_shelf : Room := { frames := 2, cells := 0, slots := 0, locals := 43 }
theorem hdX5_shelf : yX5_shelf.cls = RX5 ∧ yX5_shelf.cls ≠ "java/lang/invoke/MethodHandle" ∧ yX5_shelf.cls ≠ "java/lang/invoke/VarHandle" ∧ (parseMethodDescriptor yX5_shelf.desc).map (fun d => d.parameters.length) = some 3 := by decide +kernel
set_option maxHeartbeats 40000000 in
set_option maxRecDepth 100000 in
theorem c_X5_shelf (l : Launch) (E : Nat → Nat) (D : va_G) (C : Nat → ClassId) (q0 qn0 qk0 qr0 qc0 qt0 qd0 qs0 qf0 qw0 qn1 qn2 qn3 qn4 qn5 qn6 qs1 qs2 qs3 qs4 qs5 qs6 qs7 qs8 qf1 qf2 qf3 qf4 : Nat) (sz : Nat) (rowCount : Int32) (anyKept : Int32) (now : PV) (sheets : Nat → HV) (shelves : Nat → FV) (x0 : Int32) (x1 : Int32) (x2 : Int32) (r : Int32) (shelves' : Nat → FV) (hf : f_X5_shelf now sheets shelves x0 x1 x2 = some (r, shelves')) : Met l yX5_shelf wsX5_shelf rmX5_shelf (PC E D C [.ref q0, .int x0, .int x1, .int x2] (oTM q0 qn0 qk0 qr0 qc0 qt0 qd0 qs0 qf0 qw0 rowCount anyKept (oPort C qn0 qn1 qn2 qn3 qn4 qn5 qn6 now (oSheets C qs0 qs1 qs2 qs3 qs4 qs5 qs6 qs7 qs8 sheets (oShelves C qf0 qf1 qf2 qf3 qf4 shelves [])))) sz) (QI D C (oTM q0 qn0 qk0 qr0 qc0 qt0 qd0 qs0 qf0 qw0 rowCount anyKept (oPort C qn0 qn1 qn2 qn3 qn4 qn5 qn6 now (oSheets C qs0 qs1 qs2 qs3 qs4 qs5 qs6 qs7 qs8 sheets (oShelves C qf0 qf1 qf2 qf3 qf4 shelves [])))) (oTM q0 qn0 qk0 qr0 qc0 qt0 qd0 qs0 qf0 qw0 rowCount anyKept (oPort C qn0 qn1 qn2 qn3 qn4 qn5 qn6 now (oSheets C qs0 qs1 qs2 qs3 qs4 qs5 qs6 qs7 qs8 sheets (oShelves C qf0 qf1 qf2 qf3 qf4 (shelves') [])))) sz r) 0 0 (va_A (oTM q0 qn0 qk0 qr0 qc0 qt0 qd0 qs0 qf0 qw0 rowCount anyKept (oPort C qn0 qn1 qn2 qn3 qn4 qn5 qn6 now (oSheets C qs0 qs1 qs2 qs3 qs4 qs5 qs6 qs7 qs8 sheets (oShelves C qf0 qf1 qf2 qf3 qf4 shelves [])))) sz) := by
  refine Met.ofW (cc := cX5_shelf) (maxL := 4) (ret := (some .int)) (by decide) rfl ?_
  intro p e s m args below meth c s₁ B hml hv
  obtain ⟨rfl, hsz, hP, hK, hD0, hE⟩ := hv
  have hx := B.exec
  have hb := B.bytes
  have hr := B.returns
  have hts := atoms_spec (ws := wsX5_shelf) B.pre
  have hown : s.vm.findClass RX5 = some m.cls := findClass_of_methodNamed B.named
  have hlocks := B.notSynchronized
  subst hsz
  have hi_RX3 : ∀ w ∈ wsX30, w ∈ wsX5_shelf := fun _ h => List.mem_cons_of_mem _ (List.mem_append_left _ (List.mem_append_left _ (List.mem_append_right _ h)))
  have hi_RX5 : ∀ w ∈ wsX50, w ∈ wsX5_shelf := fun _ h => List.mem_cons_of_mem _ (List.mem_append_left _ (List.mem_append_left _ (List.mem_append_left _ (List.mem_append_right _ h))))
  have hD := hD0.self (sz := s.heap.size)
  obtain ⟨A, hAe⟩ := nm_ex (va_A (oTM q0 qn0 qk0 qr0 qc0 qt0 qd0 qs0 qf0 qw0 rowCount anyKept (oPort C qn0 qn1 qn2 qn3 qn4 qn5 qn6 now (oSheets C qs0 qs1 qs2 qs3 qs4 qs5 qs6 qs7 qs8 sheets (oShelves C qf0 qf1 qf2 qf3 qf4 shelves [])))) s.heap.size)
  rw [← hAe] at hD hE ⊢
  have hA : ∀ q : Nat, s.heap.size ≤ q → A q := fun q h => by rw [hAe]; exact Or.inr h
  have hS : va_S A s.heap s.heap [] := va_S.rf
  have hl := lv_entry ([.ref q0, .int x0, .int x1, .int x2]) (n := 4) (Nat.le_of_ble_eq_true rfl)
  rw [lg_entry_eq]
  generalize (lg_sl ([.ref q0, .int x0, .int x1, .int x2]) ++ List.replicate (4 - (lg_sl ([.ref q0, .int x0, .int x1, .int x2])).length) Slot.unset).toArray = ls at hl ⊢
  have hl : lv_has ls 4 [(0, .ref q0), (1, .int x0), (2, .int x1), (3, .int x2)] := hl
  obtain ⟨Q, hQ⟩ := nm_ex (MQ below (QI D C (oTM q0 qn0 qk0 qr0 qc0 qt0 qd0 qs0 qf0 qw0 rowCount anyKept (oPort C qn0 qn1 qn2 qn3 qn4 qn5 qn6 now (oSheets C qs0 qs1 qs2 qs3 qs4 qs5 qs6 qs7 qs8 sheets (oShelves C qf0 qf1 qf2 qf3 qf4 shelves [])))) (oTM q0 qn0 qk0 qr0 qc0 qt0 qd0 qs0 qf0 qw0 rowCount anyKept (oPort C qn0 qn1 qn2 qn3 qn4 qn5 qn6 now (oSheets C qs0 qs1 qs2 qs3 qs4 qs5 qs6 qs7 qs8 sheets (oShelves C qf0 qf1 qf2 qf3 qf4 (shelves') [])))) s.heap.size r) (List.toArray [Value.ref q0, Value.int x0, Value.int x1, Value.int x2]) s 0 0 A)
  show W p l e (headSpec wsX5_shelf (rmX5_shelf)).room s m (List.toArray [Value.ref q0, Value.int x0, Value.int x1, Value.int x2]) below meth c s.heap [] 0 0 (MQ below (QI D C (oTM q0 qn0 qk0 qr0 qc0 qt0 qd0 qs0 qf0 qw0 rowCount anyKept (oPort C qn0 qn1 qn2 qn3 qn4 qn5 qn6 now (oSheets C qs0 qs1 qs2 qs3 qs4 qs5 qs6 qs7 qs8 sheets (oShelves C qf0 qf1 qf2 qf3 qf4 shelves [])))) (oTM q0 qn0 qk0 qr0 qc0 qt0 qd0 qs0 qf0 qw0 rowCount anyKept (oPort C qn0 qn1 qn2 qn3 qn4 qn5 qn6 now (oSheets C qs0 qs1 qs2 qs3 qs4 qs5 qs6 qs7 qs8 sheets (oShelves C qf0 qf1 qf2 qf3 qf4 (shelves') [])))) s.heap.size r) (List.toArray [Value.ref q0, Value.int x0, Value.int x1, Value.int x2]) s 0 0 A) _
  rw [← hQ]
  unfold f_X5_shelf at hf
  have main : ∀ (H : Heap) (locs : List Loc), va_P D vwCl (oTM q0 qn0 qk0 qr0 qc0 qt0 qd0 qs0 qf0 qw0 rowCount anyKept (oPort C qn0 qn1 qn2 qn3 qn4 qn5 qn6 now (oSheets C qs0 qs1 qs2 qs3 qs4 qs5 qs6 qs7 qs8 sheets (oShelves C qf0 qf1 qf2 qf3 qf4 shelves [])))) H → va_D A (oTM q0 qn0 qk0 qr0 qc0 qt0 qd0 qs0 qf0 qw0 rowCount anyKept (oPort C qn0 qn1 qn2 qn3 qn4 qn5 qn6 now (oSheets C qs0 qs1 qs2 qs3 qs4 qs5 qs6 qs7 qs8 sheets (oShelves C qf0 qf1 qf2 qf3 qf4 shelves [])))) → va_S A s.heap H locs → W p l e (headSpec wsX5_shelf (rmX5_shelf)).room s m (List.toArray [Value.ref q0, Value.int x0, Value.int x1, Value.int x2]) below meth c H locs 0 0 Q (F0 m 0 ls []) := by
    intro H locs hP hD hS
    refine lv_iload_n hx hb dX5_shelf_0 rfl (lv_at hl 1 rfl) ?_
    refine kcz (Wx := (oTM q0 qn0 qk0 qr0 qc0 qt0 qd0 qs0 qf0 qw0 rowCount anyKept (oPort C qn0 qn1 qn2 qn3 qn4 qn5 qn6 now (oSheets C qs0 qs1 qs2 qs3 qs4 qs5 qs6 qs7 qs8 sheets (oShelves C qf0 qf1 qf2 qf3 qf4 shelves []))))) (va_runS (As := [.int x0]) (rest := []) ⟨hx, hb, hml, hown, hts⟩ (c_X5_isShelf l E D C H.size x0 _ rfl) (va_cwS 1 hts gX5_shelf_X5_isShelf rfl rfl rfl hdX5_isShelf ⟨Nat.le_of_ble_eq_true rfl, Nat.le_of_ble_eq_true rfl⟩) (kpre hP hD hK hS hE hA [] rfl rfl) rfl rfl hl.1 rfl (lv_room (Nat.le_of_ble_eq_true rfl)) dX5_shelf_1 ⟨Nat.zero_le _, Nat.zero_le _⟩) hP hD hS hA [] rfl rfl rfl (fun H locs hz1 hP hD hS => ?_)
    refine lv_if_ne (tgt := 9) hx hb dX5_shelf_4 (by decide) (fun c2 => ?_) (fun c2 => ?_)
    · replace hf := if_fe c2 hf
      refine lv_iload_n hx hb dX5_shelf_9 rfl (lv_at hl 2 rfl) ?_
      by_cases c3 : x1 = 0
      · replace hf := if_te c3 hf
        refine lv_tableIn (x := x1) (tgt := 36) (off := 26) hx hb dX5_shelf_10 (by rw [c3]; decide) (by rw [c3]; decide) (by rw [c3]; try rfl) (by decide) ?_
        refine lv_aload_n hx hb dX5_shelf_36 rfl (lv_at hl 0 rfl) ?_
        refine lv_iload_n hx hb dX5_shelf_37 rfl (lv_at hl 3 rfl) ?_
        refine kcz (Wx := (oTM q0 qn0 qk0 qr0 qc0 qt0 qd0 qs0 qf0 qw0 rowCount anyKept (oPort C qn0 qn1 qn2 qn3 qn4 qn5 qn6 now (oSheets C qs0 qs1 qs2 qs3 qs4 qs5 qs6 qs7 qs8 sheets (oShelves C qf0 qf1 qf2 qf3 qf4 shelves []))))) (va_runV (As := [.int x2]) (rest := []) ⟨hx, hb, hml, hown, hts⟩ (c_X5_isMark l E D C q0 qn0 qk0 qr0 qc0 qt0 qd0 qs0 qf0 qw0 qn1 qn2 qn3 qn4 qn5 qn6 H.size rowCount anyKept now x2 _ rfl) (cwV 1 hts gX5_shelf_X5_isMark rfl rfl rfl hdX5_isMark ⟨Nat.le_of_ble_eq_true rfl, Nat.le_of_ble_eq_true rfl⟩) (kpreV hP hD hK hS hE hA [0, 1, 2, 3, 4, 5, 6, 7] rfl rfl 0 rfl rfl rfl) rfl rfl hl.1 rfl (lv_room (Nat.le_of_ble_eq_true rfl)) dX5_shelf_38 ⟨Nat.zero_le _, Nat.zero_le _⟩) hP hD hS hA [0, 1, 2, 3, 4, 5, 6, 7] rfl rfl rfl (fun H locs hz4 hP hD hS => ?_)
        refine lv_if_ne (tgt := 46) hx hb dX5_shelf_41 (by decide) (fun c5 => ?_) (fun c5 => ?_)
        · replace hf := if_fe c5 hf
          refine lv_aload_n hx hb dX5_shelf_46 rfl (lv_at hl 0 rfl) ?_
          refine va_get (D := D) (ci := 5) (v := .ref qf0) (C := RX5) (T := TX5) (N := 11) hx hb hts hi_RX5 hown hK hP 0 rfl rfl 7 (by decide) (hts (.fieldLink RX5 47 "TravelMarks" "shelves" "[LTravelMarks$Shelf;") (List.mem_of_getElem? (i := 1) rfl)) (fun _ h9 => h9) rfl dX5_shelf_47 ?_
          refine lv_iload_n hx hb dX5_shelf_50 rfl (lv_at hl 1 rfl) ?_
          obtain ⟨hi6, hf⟩ := ckA_e hf
          obtain ⟨o7, eo7, hf⟩ := lj_e hf
          rcases four hi6 with e4_8 | e4_8 | e4_8 | e4_8
          · rw [e4_8] at eo7
            subst eo7
            try rw [e4_8] at hf
            refine va_aldq hx hb hK hP 17 4 rfl rfl hi6 dX5_shelf_51 ?_
            rw [e4_8]
            refine lv_renV (v := .ref qf1) rfl ?_
            refine lv_iload_n hx hb dX5_shelf_52 rfl (lv_at hl 3 rfl) ?_
            obtain ⟨v9, h10, hf⟩ := ob1_e hf
            refine kcv (Wx := (oTM q0 qn0 qk0 qr0 qc0 qt0 qd0 qs0 qf0 qw0 rowCount anyKept (oPort C qn0 qn1 qn2 qn3 qn4 qn5 qn6 now (oSheets C qs0 qs1 qs2 qs3 qs4 qs5 qs6 qs7 qs8 sheets (oShelves C qf0 qf1 qf2 qf3 qf4 (va_up shelves 0 v9) []))))) (va_runV (As := [.int x2]) (rest := []) ⟨hx, hb, hml, hown, hts⟩ (c_X3_holdMark l E D C qf1 H.size (shelves 0) x2 v9 h10) (cwV 1 hts gX5_shelf_X3_holdMark rfl rfl rfl hdX3_holdMark ⟨Nat.le_of_ble_eq_true rfl, Nat.le_of_ble_eq_true rfl⟩) (kpreV hP hD hK hS hE hA [18] rfl rfl 18 rfl rfl rfl) rfl rfl hl.1 rfl (lv_room (Nat.le_of_ble_eq_true rfl)) dX5_shelf_53 ⟨Nat.zero_le _, Nat.zero_le _⟩) hP hD hS hA [18] rfl rfl rfl (fun H locs hP hD hS => ?_)
            refine lv_iconst (v := 1) hx hb dX5_shelf_56 rfl ?_
            cases hf
            exact kri hQ hAe hx hb hr hlocks hP hD hK hS dX5_shelf_57
          · rw [e4_8] at eo7
            subst eo7
            try rw [e4_8] at hf
            refine va_aldq hx hb hK hP 17 4 rfl rfl hi6 dX5_shelf_51 ?_
            rw [e4_8]
            refine lv_renV (v := .ref qf2) rfl ?_
            refine lv_iload_n hx hb dX5_shelf_52 rfl (lv_at hl 3 rfl) ?_
            obtain ⟨v9, h10, hf⟩ := ob1_e hf
            refine kcv (Wx := (oTM q0 qn0 qk0 qr0 qc0 qt0 qd0 qs0 qf0 qw0 rowCount anyKept (oPort C qn0 qn1 qn2 qn3 qn4 qn5 qn6 now (oSheets C qs0 qs1 qs2 qs3 qs4 qs5 qs6 qs7 qs8 sheets (oShelves C qf0 qf1 qf2 qf3 qf4 (va_up shelves 1 v9) []))))) (va_runV (As := [.int x2]) (rest := []) ⟨hx, hb, hml, hown, hts⟩ (c_X3_holdMark l E D C qf2 H.size (shelves 1) x2 v9 h10) (cwV 1 hts gX5_shelf_X3_holdMark rfl rfl rfl hdX3_holdMark ⟨Nat.le_of_ble_eq_true rfl, Nat.le_of_ble_eq_true rfl⟩) (kpreV hP hD hK hS hE hA [19] rfl rfl 19 rfl rfl rfl) rfl rfl hl.1 rfl (lv_room (Nat.le_of_ble_eq_true rfl)) dX5_shelf_53 ⟨Nat.zero_le _, Nat.zero_le _⟩) hP hD hS hA [19] rfl rfl rfl (fun H locs hP hD hS => ?_)
            refine lv_iconst (v := 1) hx hb dX5_shelf_56 rfl ?_
            cases hf
            exact kri hQ hAe hx hb hr hlocks hP hD hK hS dX5_shelf_57
          · rw [e4_8] at eo7
            subst eo7
            try rw [e4_8] at hf
            refine va_aldq hx hb hK hP 17 4 rfl rfl hi6 dX5_shelf_51 ?_
            rw [e4_8]
            refine lv_renV (v := .ref qf3) rfl ?_
            refine lv_iload_n hx hb dX5_shelf_52 rfl (lv_at hl 3 rfl) ?_
            obtain ⟨v9, h10, hf⟩ := ob1_e hf
            refine kcv (Wx := (oTM q0 qn0 qk0 qr0 qc0 qt0 qd0 qs0 qf0 qw0 rowCount anyKept (oPort C qn0 qn1 qn2 qn3 qn4 qn5 qn6 now (oSheets C qs0 qs1 qs2 qs3 qs4 qs5 qs6 qs7 qs8 sheets (oShelves C qf0 qf1 qf2 qf3 qf4 (va_up shelves 2 v9) []))))) (va_runV (As := [.int x2]) (rest := []) ⟨hx, hb, hml, hown, hts⟩ (c_X3_holdMark l E D C qf3 H.size (shelves 2) x2 v9 h10) (cwV 1 hts gX5_shelf_X3_holdMark rfl rfl rfl hdX3_holdMark ⟨Nat.le_of_ble_eq_true rfl, Nat.le_of_ble_eq_true rfl⟩) (kpreV hP hD hK hS hE hA [20] rfl rfl 20 rfl rfl rfl) rfl rfl hl.1 rfl (lv_room (Nat.le_of_ble_eq_true rfl)) dX5_shelf_53 ⟨Nat.zero_le _, Nat.zero_le _⟩) hP hD hS hA [20] rfl rfl rfl (fun H locs hP hD hS => ?_)
            refine lv_iconst (v := 1) hx hb dX5_shelf_56 rfl ?_
            cases hf
            exact kri hQ hAe hx hb hr hlocks hP hD hK hS dX5_shelf_57
          · rw [e4_8] at eo7
            subst eo7
            try rw [e4_8] at hf
            refine va_aldq hx hb hK hP 17 4 rfl rfl hi6 dX5_shelf_51 ?_
            rw [e4_8]
            refine lv_renV (v := .ref qf4) rfl ?_
            refine lv_iload_n hx hb dX5_shelf_52 rfl (lv_at hl 3 rfl) ?_
            obtain ⟨v9, h10, hf⟩ := ob1_e hf
            refine kcv (Wx := (oTM q0 qn0 qk0 qr0 qc0 qt0 qd0 qs0 qf0 qw0 rowCount anyKept (oPort C qn0 qn1 qn2 qn3 qn4 qn5 qn6 now (oSheets C qs0 qs1 qs2 qs3 qs4 qs5 qs6 qs7 qs8 sheets (oShelves C qf0 qf1 qf2 qf3 qf4 (va_up shelves 3 v9) []))))) (va_runV (As := [.int x2]) (rest := []) ⟨hx, hb, hml, hown, hts⟩ (c_X3_holdMark l E D C qf4 H.size (shelves 3) x2 v9 h10) (cwV 1 hts gX5_shelf_X3_holdMark rfl rfl rfl hdX3_holdMark ⟨Nat.le_of_ble_eq_true rfl, Nat.le_of_ble_eq_true rfl⟩) (kpreV hP hD hK hS hE hA [21] rfl rfl 21 rfl rfl rfl) rfl rfl hl.1 rfl (lv_room (Nat.le_of_ble_eq_true rfl)) dX5_shelf_53 ⟨Nat.zero_le _, Nat.zero_le _⟩) hP hD hS hA [21] rfl rfl rfl (fun H locs hP hD hS => ?_)
            refine lv_iconst (v := 1) hx hb dX5_shelf_56 rfl ?_
            cases hf
            exact kri hQ hAe hx hb hr hlocks hP hD hK hS dX5_shelf_57
        · replace hf := if_te c5 hf
          refine lv_iconst (v := (-1)) hx hb dX5_shelf_44 rfl ?_
          cases hf
          exact kri hQ hAe hx hb hr hlocks hP hD hK hS dX5_shelf_45
      replace hf := if_fe c3 hf
      by_cases c11 : x1 = 1
      · replace hf := if_te c11 hf
        refine lv_tableIn (x := x1) (tgt := 58) (off := 48) hx hb dX5_shelf_10 (by rw [c11]; decide) (by rw [c11]; decide) (by rw [c11]; try rfl) (by decide) ?_
        refine lv_iload_n hx hb dX5_shelf_58 rfl (lv_at hl 3 rfl) ?_
        refine kcz (Wx := (oTM q0 qn0 qk0 qr0 qc0 qt0 qd0 qs0 qf0 qw0 rowCount anyKept (oPort C qn0 qn1 qn2 qn3 qn4 qn5 qn6 now (oSheets C qs0 qs1 qs2 qs3 qs4 qs5 qs6 qs7 qs8 sheets (oShelves C qf0 qf1 qf2 qf3 qf4 shelves []))))) (va_runS (As := [.int x2]) (rest := []) ⟨hx, hb, hml, hown, hts⟩ (c_X5_isSheet l E D C H.size x2 _ rfl) (va_cwS 1 hts gX5_shelf_X5_isSheet rfl rfl rfl hdX5_isSheet ⟨Nat.le_of_ble_eq_true rfl, Nat.le_of_ble_eq_true rfl⟩) (kpre hP hD hK hS hE hA [] rfl rfl) rfl rfl hl.1 rfl (lv_room (Nat.le_of_ble_eq_true rfl)) dX5_shelf_59 ⟨Nat.zero_le _, Nat.zero_le _⟩) hP hD hS hA [] rfl rfl rfl (fun H locs hz12 hP hD hS => ?_)
        refine lv_if_ne (tgt := 67) hx hb dX5_shelf_62 (by decide) (fun c13 => ?_) (fun c13 => ?_)
        · replace hf := if_fe c13 hf
          refine lv_aload_n hx hb dX5_shelf_67 rfl (lv_at hl 0 rfl) ?_
          refine va_get (D := D) (ci := 5) (v := .ref qf0) (C := RX5) (T := TX5) (N := 11) hx hb hts hi_RX5 hown hK hP 0 rfl rfl 7 (by decide) (hts (.fieldLink RX5 47 "TravelMarks" "shelves" "[LTravelMarks$Shelf;") (List.mem_of_getElem? (i := 1) rfl)) (fun _ h9 => h9) rfl dX5_shelf_68 ?_
          refine lv_iload_n hx hb dX5_shelf_71 rfl (lv_at hl 1 rfl) ?_
          obtain ⟨hi14, hf⟩ := ckA_e hf
          obtain ⟨o15, eo15, hf⟩ := lj_e hf
          rcases four hi14 with e4_16 | e4_16 | e4_16 | e4_16
          · rw [e4_16] at eo15
            subst eo15
            try rw [e4_16] at hf
            refine va_aldq hx hb hK hP 17 4 rfl rfl hi14 dX5_shelf_72 ?_
            rw [e4_16]
            refine lv_renV (v := .ref qf1) rfl ?_
            refine lv_aload_n hx hb dX5_shelf_73 rfl (lv_at hl 0 rfl) ?_
            refine va_get (D := D) (ci := 5) (v := .ref qs0) (C := RX5) (T := TX5) (N := 11) hx hb hts hi_RX5 hown hK hP 0 rfl rfl 6 (by decide) (hts (.fieldLink RX5 41 "TravelMarks" "sheets" "[LTravelMarks$Sheet;") (List.mem_of_getElem? (i := 2) rfl)) (fun _ h9 => h9) rfl dX5_shelf_74 ?_
            refine lv_iload_n hx hb dX5_shelf_77 rfl (lv_at hl 3 rfl) ?_
            obtain ⟨hi17, hf⟩ := ckA_e hf
            obtain ⟨o18, eo18, hf⟩ := lj_e hf
            rcases four hi17 with e4_19 | e4_19 | e4_19 | e4_19
            · rw [e4_19] at eo18
              subst eo18
              try rw [e4_19] at hf
              refine va_aldq hx hb hK hP 8 3 rfl rfl hi17 dX5_shelf_78 ?_
              rw [e4_19]
              refine lv_renV (v := .ref qs1) rfl ?_
              obtain ⟨v20, h21, hf⟩ := ob1_e hf
              refine kcv (Wx := (oTM q0 qn0 qk0 qr0 qc0 qt0 qd0 qs0 qf0 qw0 rowCount anyKept (oPort C qn0 qn1 qn2 qn3 qn4 qn5 qn6 now (oSheets C qs0 qs1 qs2 qs3 qs4 qs5 qs6 qs7 qs8 sheets (oShelves C qf0 qf1 qf2 qf3 qf4 (va_up shelves 0 v20) []))))) (va_runV (As := [.ref qs1]) (rest := []) ⟨hx, hb, hml, hown, hts⟩ (c_X3_holdRow l E D C qf1 qs1 qs2 H.size (shelves 0) (sheets 0) v20 h21) (cwV 1 hts gX5_shelf_X3_holdRow rfl rfl rfl hdX3_holdRow ⟨Nat.le_of_ble_eq_true rfl, Nat.le_of_ble_eq_true rfl⟩) (kpreV hP hD hK hS hE hA [18, 9, 10] rfl rfl 18 rfl rfl rfl) rfl rfl hl.1 rfl (lv_room (Nat.le_of_ble_eq_true rfl)) dX5_shelf_79 ⟨Nat.zero_le _, Nat.zero_le _⟩) hP hD hS hA [18, 9, 10] rfl rfl rfl (fun H locs hP hD hS => ?_)
              refine lv_iconst (v := 1) hx hb dX5_shelf_82 rfl ?_
              cases hf
              exact kri hQ hAe hx hb hr hlocks hP hD hK hS dX5_shelf_83
            · rw [e4_19] at eo18
              subst eo18
              try rw [e4_19] at hf
              refine va_aldq hx hb hK hP 8 3 rfl rfl hi17 dX5_shelf_78 ?_
              rw [e4_19]
              refine lv_renV (v := .ref qs3) rfl ?_
              obtain ⟨v20, h21, hf⟩ := ob1_e hf
              refine kcv (Wx := (oTM q0 qn0 qk0 qr0 qc0 qt0 qd0 qs0 qf0 qw0 rowCount anyKept (oPort C qn0 qn1 qn2 qn3 qn4 qn5 qn6 now (oSheets C qs0 qs1 qs2 qs3 qs4 qs5 qs6 qs7 qs8 sheets (oShelves C qf0 qf1 qf2 qf3 qf4 (va_up shelves 0 v20) []))))) (va_runV (As := [.ref qs3]) (rest := []) ⟨hx, hb, hml, hown, hts⟩ (c_X3_holdRow l E D C qf1 qs3 qs4 H.size (shelves 0) (sheets 1) v20 h21) (cwV 1 hts gX5_shelf_X3_holdRow rfl rfl rfl hdX3_holdRow ⟨Nat.le_of_ble_eq_true rfl, Nat.le_of_ble_eq_true rfl⟩) (kpreV hP hD hK hS hE hA [18, 11, 12] rfl rfl 18 rfl rfl rfl) rfl rfl hl.1 rfl (lv_room (Nat.le_of_ble_eq_true rfl)) dX5_shelf_79 ⟨Nat.zero_le _, Nat.zero_le _⟩) hP hD hS hA [18, 11, 12] rfl rfl rfl (fun H locs hP hD hS => ?_)
              refine lv_iconst (v := 1) hx hb dX5_shelf_82 rfl ?_
              cases hf
              exact kri hQ hAe hx hb hr hlocks hP hD hK hS dX5_shelf_83
            · rw [e4_19] at eo18
              subst eo18
              try rw [e4_19] at hf
              refine va_aldq hx hb hK hP 8 3 rfl rfl hi17 dX5_shelf_78 ?_
              rw [e4_19]
              refine lv_renV (v := .ref qs5) rfl ?_
              obtain ⟨v20, h21, hf⟩ := ob1_e hf
              refine kcv (Wx := (oTM q0 qn0 qk0 qr0 qc0 qt0 qd0 qs0 qf0 qw0 rowCount anyKept (oPort C qn0 qn1 qn2 qn3 qn4 qn5 qn6 now (oSheets C qs0 qs1 qs2 qs3 qs4 qs5 qs6 qs7 qs8 sheets (oShelves C qf0 qf1 qf2 qf3 qf4 (va_up shelves 0 v20) []))))) (va_runV (As := [.ref qs5]) (rest := []) ⟨hx, hb, hml, hown, hts⟩ (c_X3_holdRow l E D C qf1 qs5 qs6 H.size (shelves 0) (sheets 2) v20 h21) (cwV 1 hts gX5_shelf_X3_holdRow rfl rfl rfl hdX3_holdRow ⟨Nat.le_of_ble_eq_true rfl, Nat.le_of_ble_eq_true rfl⟩) (kpreV hP hD hK hS hE hA [18, 13, 14] rfl rfl 18 rfl rfl rfl) rfl rfl hl.1 rfl (lv_room (Nat.le_of_ble_eq_true rfl)) dX5_shelf_79 ⟨Nat.zero_le _, Nat.zero_le _⟩) hP hD hS hA [18, 13, 14] rfl rfl rfl (fun H locs hP hD hS => ?_)
              refine lv_iconst (v := 1) hx hb dX5_shelf_82 rfl ?_
              cases hf
              exact kri hQ hAe hx hb hr hlocks hP hD hK hS dX5_shelf_83
            · rw [e4_19] at eo18
              subst eo18
              try rw [e4_19] at hf
              refine va_aldq hx hb hK hP 8 3 rfl rfl hi17 dX5_shelf_78 ?_
              rw [e4_19]
              refine lv_renV (v := .ref qs7) rfl ?_
              obtain ⟨v20, h21, hf⟩ := ob1_e hf
              refine kcv (Wx := (oTM q0 qn0 qk0 qr0 qc0 qt0 qd0 qs0 qf0 qw0 rowCount anyKept (oPort C qn0 qn1 qn2 qn3 qn4 qn5 qn6 now (oSheets C qs0 qs1 qs2 qs3 qs4 qs5 qs6 qs7 qs8 sheets (oShelves C qf0 qf1 qf2 qf3 qf4 (va_up shelves 0 v20) []))))) (va_runV (As := [.ref qs7]) (rest := []) ⟨hx, hb, hml, hown, hts⟩ (c_X3_holdRow l E D C qf1 qs7 qs8 H.size (shelves 0) (sheets 3) v20 h21) (cwV 1 hts gX5_shelf_X3_holdRow rfl rfl rfl hdX3_holdRow ⟨Nat.le_of_ble_eq_true rfl, Nat.le_of_ble_eq_true rfl⟩) (kpreV hP hD hK hS hE hA [18, 15, 16] rfl rfl 18 rfl rfl rfl) rfl rfl hl.1 rfl (lv_room (Nat.le_of_ble_eq_true rfl)) dX5_shelf_79 ⟨Nat.zero_le _, Nat.zero_le _⟩) hP hD hS hA [18, 15, 16] rfl rfl rfl (fun H locs hP hD hS => ?_)
              refine lv_iconst (v := 1) hx hb dX5_shelf_82 rfl ?_
              cases hf
              exact kri hQ hAe hx hb hr hlocks hP hD hK hS dX5_shelf_83
          · rw [e4_16] at eo15
            subst eo15
            try rw [e4_16] at hf
            refine va_aldq hx hb hK hP 17 4 rfl rfl hi14 dX5_shelf_72 ?_
            rw [e4_16]
            refine lv_renV (v := .ref qf2) rfl ?_
            refine lv_aload_n hx hb dX5_shelf_73 rfl (lv_at hl 0 rfl) ?_
            refine va_get (D := D) (ci := 5) (v := .ref qs0) (C := RX5) (T := TX5) (N := 11) hx hb hts hi_RX5 hown hK hP 0 rfl rfl 6 (by decide) (hts (.fieldLink RX5 41 "TravelMarks" "sheets" "[LTravelMarks$Sheet;") (List.mem_of_getElem? (i := 2) rfl)) (fun _ h9 => h9) rfl dX5_shelf_74 ?_
            refine lv_iload_n hx hb dX5_shelf_77 rfl (lv_at hl 3 rfl) ?_
            obtain ⟨hi17, hf⟩ := ckA_e hf
            obtain ⟨o18, eo18, hf⟩ := lj_e hf
            rcases four hi17 with e4_19 | e4_19 | e4_19 | e4_19
            · rw [e4_19] at eo18
              subst eo18
              try rw [e4_19] at hf
              refine va_aldq hx hb hK hP 8 3 rfl rfl hi17 dX5_shelf_78 ?_
              rw [e4_19]
              refine lv_renV (v := .ref qs1) rfl ?_
              obtain ⟨v20, h21, hf⟩ := ob1_e hf
              refine kcv (Wx := (oTM q0 qn0 qk0 qr0 qc0 qt0 qd0 qs0 qf0 qw0 rowCount anyKept (oPort C qn0 qn1 qn2 qn3 qn4 qn5 qn6 now (oSheets C qs0 qs1 qs2 qs3 qs4 qs5 qs6 qs7 qs8 sheets (oShelves C qf0 qf1 qf2 qf3 qf4 (va_up shelves 1 v20) []))))) (va_runV (As := [.ref qs1]) (rest := []) ⟨hx, hb, hml, hown, hts⟩ (c_X3_holdRow l E D C qf2 qs1 qs2 H.size (shelves 1) (sheets 0) v20 h21) (cwV 1 hts gX5_shelf_X3_holdRow rfl rfl rfl hdX3_holdRow ⟨Nat.le_of_ble_eq_true rfl, Nat.le_of_ble_eq_true rfl⟩) (kpreV hP hD hK hS hE hA [19, 9, 10] rfl rfl 19 rfl rfl rfl) rfl rfl hl.1 rfl (lv_room (Nat.le_of_ble_eq_true rfl)) dX5_shelf_79 ⟨Nat.zero_le _, Nat.zero_le _⟩) hP hD hS hA [19, 9, 10] rfl rfl rfl (fun H locs hP hD hS => ?_)
              refine lv_iconst (v := 1) hx hb dX5_shelf_82 rfl ?_
              cases hf
              exact kri hQ hAe hx hb hr hlocks hP hD hK hS dX5_shelf_83
            · rw [e4_19] at eo18
              subst eo18
              try rw [e4_19] at hf
              refine va_aldq hx hb hK hP 8 3 rfl rfl hi17 dX5_shelf_78 ?_
              rw [e4_19]
              refine lv_renV (v := .ref qs3) rfl ?_
              obtain ⟨v20, h21, hf⟩ := ob1_e hf
              refine kcv (Wx := (oTM q0 qn0 qk0 qr0 qc0 qt0 qd0 qs0 qf0 qw0 rowCount anyKept (oPort C qn0 qn1 qn2 qn3 qn4 qn5 qn6 now (oSheets C qs0 qs1 qs2 qs3 qs4 qs5 qs6 qs7 qs8 sheets (oShelves C qf0 qf1 qf2 qf3 qf4 (va_up shelves 1 v20) []))))) (va_runV (As := [.ref qs3]) (rest := []) ⟨hx, hb, hml, hown, hts⟩ (c_X3_holdRow l E D C qf2 qs3 qs4 H.size (shelves 1) (sheets 1) v20 h21) (cwV 1 hts gX5_shelf_X3_holdRow rfl rfl rfl hdX3_holdRow ⟨Nat.le_of_ble_eq_true rfl, Nat.le_of_ble_eq_true rfl⟩) (kpreV hP hD hK hS hE hA [19, 11, 12] rfl rfl 19 rfl rfl rfl) rfl rfl hl.1 rfl (lv_room (Nat.le_of_ble_eq_true rfl)) dX5_shelf_79 ⟨Nat.zero_le _, Nat.zero_le _⟩) hP hD hS hA [19, 11, 12] rfl rfl rfl (fun H locs hP hD hS => ?_)
              refine lv_iconst (v := 1) hx hb dX5_shelf_82 rfl ?_
              cases hf
              exact kri hQ hAe hx hb hr hlocks hP hD hK hS dX5_shelf_83
            · rw [e4_19] at eo18
              subst eo18
              try rw [e4_19] at hf
              refine va_aldq hx hb hK hP 8 3 rfl rfl hi17 dX5_shelf_78 ?_
              rw [e4_19]
              refine lv_renV (v := .ref qs5) rfl ?_
              obtain ⟨v20, h21, hf⟩ := ob1_e hf
              refine kcv (Wx := (oTM q0 qn0 qk0 qr0 qc0 qt0 qd0 qs0 qf0 qw0 rowCount anyKept (oPort C qn0 qn1 qn2 qn3 qn4 qn5 qn6 now (oSheets C qs0 qs1 qs2 qs3 qs4 qs5 qs6 qs7 qs8 sheets (oShelves C qf0 qf1 qf2 qf3 qf4 (va_up shelves 1 v20) []))))) (va_runV (As := [.ref qs5]) (rest := []) ⟨hx, hb, hml, hown, hts⟩ (c_X3_holdRow l E D C qf2 qs5 qs6 H.size (shelves 1) (sheets 2) v20 h21) (cwV 1 hts gX5_shelf_X3_holdRow rfl rfl rfl hdX3_holdRow ⟨Nat.le_of_ble_eq_true rfl, Nat.le_of_ble_eq_true rfl⟩) (kpreV hP hD hK hS hE hA [19, 13, 14] rfl rfl 19 rfl rfl rfl) rfl rfl hl.1 rfl (lv_room (Nat.le_of_ble_eq_true rfl)) dX5_shelf_79 ⟨Nat.zero_le _, Nat.zero_le _⟩) hP hD hS hA [19, 13, 14] rfl rfl rfl (fun H locs hP hD hS => ?_)
              refine lv_iconst (v := 1) hx hb dX5_shelf_82 rfl ?_
              cases hf
              exact kri hQ hAe hx hb hr hlocks hP hD hK hS dX5_shelf_83
            · rw [e4_19] at eo18
              subst eo18
              try rw [e4_19] at hf
              refine va_aldq hx hb hK hP 8 3 rfl rfl hi17 dX5_shelf_78 ?_
              rw [e4_19]
              refine lv_renV (v := .ref qs7) rfl ?_
              obtain ⟨v20, h21, hf⟩ := ob1_e hf
              refine kcv (Wx := (oTM q0 qn0 qk0 qr0 qc0 qt0 qd0 qs0 qf0 qw0 rowCount anyKept (oPort C qn0 qn1 qn2 qn3 qn4 qn5 qn6 now (oSheets C qs0 qs1 qs2 qs3 qs4 qs5 qs6 qs7 qs8 sheets (oShelves C qf0 qf1 qf2 qf3 qf4 (va_up shelves 1 v20) []))))) (va_runV (As := [.ref qs7]) (rest := []) ⟨hx, hb, hml, hown, hts⟩ (c_X3_holdRow l E D C qf2 qs7 qs8 H.size (shelves 1) (sheets 3) v20 h21) (cwV 1 hts gX5_shelf_X3_holdRow rfl rfl rfl hdX3_holdRow ⟨Nat.le_of_ble_eq_true rfl, Nat.le_of_ble_eq_true rfl⟩) (kpreV hP hD hK hS hE hA [19, 15, 16] rfl rfl 19 rfl rfl rfl) rfl rfl hl.1 rfl (lv_room (Nat.le_of_ble_eq_true rfl)) dX5_shelf_79 ⟨Nat.zero_le _, Nat.zero_le _⟩) hP hD hS hA [19, 15, 16] rfl rfl rfl (fun H locs hP hD hS => ?_)
              refine lv_iconst (v := 1) hx hb dX5_shelf_82 rfl ?_
              cases hf
              exact kri hQ hAe hx hb hr hlocks hP hD hK hS dX5_shelf_83
          · rw [e4_16] at eo15
            subst eo15
            try rw [e4_16] at hf
            refine va_aldq hx hb hK hP 17 4 rfl rfl hi14 dX5_shelf_72 ?_
            rw [e4_16]
            refine lv_renV (v := .ref qf3) rfl ?_
            refine lv_aload_n hx hb dX5_shelf_73 rfl (lv_at hl 0 rfl) ?_
            refine va_get (D := D) (ci := 5) (v := .ref qs0) (C := RX5) (T := TX5) (N := 11) hx hb hts hi_RX5 hown hK hP 0 rfl rfl 6 (by decide) (hts (.fieldLink RX5 41 "TravelMarks" "sheets" "[LTravelMarks$Sheet;") (List.mem_of_getElem? (i := 2) rfl)) (fun _ h9 => h9) rfl dX5_shelf_74 ?_
            refine lv_iload_n hx hb dX5_shelf_77 rfl (lv_at hl 3 rfl) ?_
            obtain ⟨hi17, hf⟩ := ckA_e hf
            obtain ⟨o18, eo18, hf⟩ := lj_e hf
            rcases four hi17 with e4_19 | e4_19 | e4_19 | e4_19
            · rw [e4_19] at eo18
              subst eo18
              try rw [e4_19] at hf
              refine va_aldq hx hb hK hP 8 3 rfl rfl hi17 dX5_shelf_78 ?_
              rw [e4_19]
              refine lv_renV (v := .ref qs1) rfl ?_
              obtain ⟨v20, h21, hf⟩ := ob1_e hf
              refine kcv (Wx := (oTM q0 qn0 qk0 qr0 qc0 qt0 qd0 qs0 qf0 qw0 rowCount anyKept (oPort C qn0 qn1 qn2 qn3 qn4 qn5 qn6 now (oSheets C qs0 qs1 qs2 qs3 qs4 qs5 qs6 qs7 qs8 sheets (oShelves C qf0 qf1 qf2 qf3 qf4 (va_up shelves 2 v20) []))))) (va_runV (As := [.ref qs1]) (rest := []) ⟨hx, hb, hml, hown, hts⟩ (c_X3_holdRow l E D C qf3 qs1 qs2 H.size (shelves 2) (sheets 0) v20 h21) (cwV 1 hts gX5_shelf_X3_holdRow rfl rfl rfl hdX3_holdRow ⟨Nat.le_of_ble_eq_true rfl, Nat.le_of_ble_eq_true rfl⟩) (kpreV hP hD hK hS hE hA [20, 9, 10] rfl rfl 20 rfl rfl rfl) rfl rfl hl.1 rfl (lv_room (Nat.le_of_ble_eq_true rfl)) dX5_shelf_79 ⟨Nat.zero_le _, Nat.zero_le _⟩) hP hD hS hA [20, 9, 10] rfl rfl rfl (fun H locs hP hD hS => ?_)
              refine lv_iconst (v := 1) hx hb dX5_shelf_82 rfl ?_
              cases hf
              exact kri hQ hAe hx hb hr hlocks hP hD hK hS dX5_shelf_83
            · rw [e4_19] at eo18
              subst eo18
              try rw [e4_19] at hf
              refine va_aldq hx hb hK hP 8 3 rfl rfl hi17 dX5_shelf_78 ?_
              rw [e4_19]
              refine lv_renV (v := .ref qs3) rfl ?_
              obtain ⟨v20, h21, hf⟩ := ob1_e hf
              refine kcv (Wx := (oTM q0 qn0 qk0 qr0 qc0 qt0 qd0 qs0 qf0 qw0 rowCount anyKept (oPort C qn0 qn1 qn2 qn3 qn4 qn5 qn6 now (oSheets C qs0 qs1 qs2 qs3 qs4 qs5 qs6 qs7 qs8 sheets (oShelves C qf0 qf1 qf2 qf3 qf4 (va_up shelves 2 v20) []))))) (va_runV (As := [.ref qs3]) (rest := []) ⟨hx, hb, hml, hown, hts⟩ (c_X3_holdRow l E D C qf3 qs3 qs4 H.size (shelves 2) (sheets 1) v20 h21) (cwV 1 hts gX5_shelf_X3_holdRow rfl rfl rfl hdX3_holdRow ⟨Nat.le_of_ble_eq_true rfl, Nat.le_of_ble_eq_true rfl⟩) (kpreV hP hD hK hS hE hA [20, 11, 12] rfl rfl 20 rfl rfl rfl) rfl rfl hl.1 rfl (lv_room (Nat.le_of_ble_eq_true rfl)) dX5_shelf_79 ⟨Nat.zero_le _, Nat.zero_le _⟩) hP hD hS hA [20, 11, 12] rfl rfl rfl (fun H locs hP hD hS => ?_)
              refine lv_iconst (v := 1) hx hb dX5_shelf_82 rfl ?_
              cases hf
              exact kri hQ hAe hx hb hr hlocks hP hD hK hS dX5_shelf_83
            · rw [e4_19] at eo18
              subst eo18
              try rw [e4_19] at hf
              refine va_aldq hx hb hK hP 8 3 rfl rfl hi17 dX5_shelf_78 ?_
              rw [e4_19]
              refine lv_renV (v := .ref qs5) rfl ?_
              obtain ⟨v20, h21, hf⟩ := ob1_e hf
              refine kcv (Wx := (oTM q0 qn0 qk0 qr0 qc0 qt0 qd0 qs0 qf0 qw0 rowCount anyKept (oPort C qn0 qn1 qn2 qn3 qn4 qn5 qn6 now (oSheets C qs0 qs1 qs2 qs3 qs4 qs5 qs6 qs7 qs8 sheets (oShelves C qf0 qf1 qf2 qf3 qf4 (va_up shelves 2 v20) []))))) (va_runV (As := [.ref qs5]) (rest := []) ⟨hx, hb, hml, hown, hts⟩ (c_X3_holdRow l E D C qf3 qs5 qs6 H.size (shelves 2) (sheets 2) v20 h21) (cwV 1 hts gX5_shelf_X3_holdRow rfl rfl rfl hdX3_holdRow ⟨Nat.le_of_ble_eq_true rfl, Nat.le_of_ble_eq_true rfl⟩) (kpreV hP hD hK hS hE hA [20, 13, 14] rfl rfl 20 rfl rfl rfl) rfl rfl hl.1 rfl (lv_room (Nat.le_of_ble_eq_true rfl)) dX5_shelf_79 ⟨Nat.zero_le _, Nat.zero_le _⟩) hP hD hS hA [20, 13, 14] rfl rfl rfl (fun H locs hP hD hS => ?_)
              refine lv_iconst (v := 1) hx hb dX5_shelf_82 rfl ?_
              cases hf
              exact kri hQ hAe hx hb hr hlocks hP hD hK hS dX5_shelf_83
            · rw [e4_19] at eo18
              subst eo18
              try rw [e4_19] at hf
              refine va_aldq hx hb hK hP 8 3 rfl rfl hi17 dX5_shelf_78 ?_
              rw [e4_19]
              refine lv_renV (v := .ref qs7) rfl ?_
              obtain ⟨v20, h21, hf⟩ := ob1_e hf
              refine kcv (Wx := (oTM q0 qn0 qk0 qr0 qc0 qt0 qd0 qs0 qf0 qw0 rowCount anyKept (oPort C qn0 qn1 qn2 qn3 qn4 qn5 qn6 now (oSheets C qs0 qs1 qs2 qs3 qs4 qs5 qs6 qs7 qs8 sheets (oShelves C qf0 qf1 qf2 qf3 qf4 (va_up shelves 2 v20) []))))) (va_runV (As := [.ref qs7]) (rest := []) ⟨hx, hb, hml, hown, hts⟩ (c_X3_holdRow l E D C qf3 qs7 qs8 H.size (shelves 2) (sheets 3) v20 h21) (cwV 1 hts gX5_shelf_X3_holdRow rfl rfl rfl hdX3_holdRow ⟨Nat.le_of_ble_eq_true rfl, Nat.le_of_ble_eq_true rfl⟩) (kpreV hP hD hK hS hE hA [20, 15, 16] rfl rfl 20 rfl rfl rfl) rfl rfl hl.1 rfl (lv_room (Nat.le_of_ble_eq_true rfl)) dX5_shelf_79 ⟨Nat.zero_le _, Nat.zero_le _⟩) hP hD hS hA [20, 15, 16] rfl rfl rfl (fun H locs hP hD hS => ?_)
              refine lv_iconst (v := 1) hx hb dX5_shelf_82 rfl ?_
              cases hf
              exact kri hQ hAe hx hb hr hlocks hP hD hK hS dX5_shelf_83
          · rw [e4_16] at eo15
            subst eo15
            try rw [e4_16] at hf
            refine va_aldq hx hb hK hP 17 4 rfl rfl hi14 dX5_shelf_72 ?_
            rw [e4_16]
            refine lv_renV (v := .ref qf4) rfl ?_
            refine lv_aload_n hx hb dX5_shelf_73 rfl (lv_at hl 0 rfl) ?_
            refine va_get (D := D) (ci := 5) (v := .ref qs0) (C := RX5) (T := TX5) (N := 11) hx hb hts hi_RX5 hown hK hP 0 rfl rfl 6 (by decide) (hts (.fieldLink RX5 41 "TravelMarks" "sheets" "[LTravelMarks$Sheet;") (List.mem_of_getElem? (i := 2) rfl)) (fun _ h9 => h9) rfl dX5_shelf_74 ?_
            refine lv_iload_n hx hb dX5_shelf_77 rfl (lv_at hl 3 rfl) ?_
            obtain ⟨hi17, hf⟩ := ckA_e hf
            obtain ⟨o18, eo18, hf⟩ := lj_e hf
            rcases four hi17 with e4_19 | e4_19 | e4_19 | e4_19
            · rw [e4_19] at eo18
              subst eo18
              try rw [e4_19] at hf
              refine va_aldq hx hb hK hP 8 3 rfl rfl hi17 dX5_shelf_78 ?_
              rw [e4_19]
              refine lv_renV (v := .ref qs1) rfl ?_
              obtain ⟨v20, h21, hf⟩ := ob1_e hf
              refine kcv (Wx := (oTM q0 qn0 qk0 qr0 qc0 qt0 qd0 qs0 qf0 qw0 rowCount anyKept (oPort C qn0 qn1 qn2 qn3 qn4 qn5 qn6 now (oSheets C qs0 qs1 qs2 qs3 qs4 qs5 qs6 qs7 qs8 sheets (oShelves C qf0 qf1 qf2 qf3 qf4 (va_up shelves 3 v20) []))))) (va_runV (As := [.ref qs1]) (rest := []) ⟨hx, hb, hml, hown, hts⟩ (c_X3_holdRow l E D C qf4 qs1 qs2 H.size (shelves 3) (sheets 0) v20 h21) (cwV 1 hts gX5_shelf_X3_holdRow rfl rfl rfl hdX3_holdRow ⟨Nat.le_of_ble_eq_true rfl, Nat.le_of_ble_eq_true rfl⟩) (kpreV hP hD hK hS hE hA [21, 9, 10] rfl rfl 21 rfl rfl rfl) rfl rfl hl.1 rfl (lv_room (Nat.le_of_ble_eq_true rfl)) dX5_shelf_79 ⟨Nat.zero_le _, Nat.zero_le _⟩) hP hD hS hA [21, 9, 10] rfl rfl rfl (fun H locs hP hD hS => ?_)
              refine lv_iconst (v := 1) hx hb dX5_shelf_82 rfl ?_
              cases hf
              exact kri hQ hAe hx hb hr hlocks hP hD hK hS dX5_shelf_83
            · rw [e4_19] at eo18
              subst eo18
              try rw [e4_19] at hf
              refine va_aldq hx hb hK hP 8 3 rfl rfl hi17 dX5_shelf_78 ?_
              rw [e4_19]
              refine lv_renV (v := .ref qs3) rfl ?_
              obtain ⟨v20, h21, hf⟩ := ob1_e hf
              refine kcv (Wx := (oTM q0 qn0 qk0 qr0 qc0 qt0 qd0 qs0 qf0 qw0 rowCount anyKept (oPort C qn0 qn1 qn2 qn3 qn4 qn5 qn6 now (oSheets C qs0 qs1 qs2 qs3 qs4 qs5 qs6 qs7 qs8 sheets (oShelves C qf0 qf1 qf2 qf3 qf4 (va_up shelves 3 v20) []))))) (va_runV (As := [.ref qs3]) (rest := []) ⟨hx, hb, hml, hown, hts⟩ (c_X3_holdRow l E D C qf4 qs3 qs4 H.size (shelves 3) (sheets 1) v20 h21) (cwV 1 hts gX5_shelf_X3_holdRow rfl rfl rfl hdX3_holdRow ⟨Nat.le_of_ble_eq_true rfl, Nat.le_of_ble_eq_true rfl⟩) (kpreV hP hD hK hS hE hA [21, 11, 12] rfl rfl 21 rfl rfl rfl) rfl rfl hl.1 rfl (lv_room (Nat.le_of_ble_eq_true rfl)) dX5_shelf_79 ⟨Nat.zero_le _, Nat.zero_le _⟩) hP hD hS hA [21, 11, 12] rfl rfl rfl (fun H locs hP hD hS => ?_)
              refine lv_iconst (v := 1) hx hb dX5_shelf_82 rfl ?_
              cases hf
              exact kri hQ hAe hx hb hr hlocks hP hD hK hS dX5_shelf_83
            · rw [e4_19] at eo18
              subst eo18
              try rw [e4_19] at hf
              refine va_aldq hx hb hK hP 8 3 rfl rfl hi17 dX5_shelf_78 ?_
              rw [e4_19]
              refine lv_renV (v := .ref qs5) rfl ?_
              obtain ⟨v20, h21, hf⟩ := ob1_e hf
              refine kcv (Wx := (oTM q0 qn0 qk0 qr0 qc0 qt0 qd0 qs0 qf0 qw0 rowCount anyKept (oPort C qn0 qn1 qn2 qn3 qn4 qn5 qn6 now (oSheets C qs0 qs1 qs2 qs3 qs4 qs5 qs6 qs7 qs8 sheets (oShelves C qf0 qf1 qf2 qf3 qf4 (va_up shelves 3 v20) []))))) (va_runV (As := [.ref qs5]) (rest := []) ⟨hx, hb, hml, hown, hts⟩ (c_X3_holdRow l E D C qf4 qs5 qs6 H.size (shelves 3) (sheets 2) v20 h21) (cwV 1 hts gX5_shelf_X3_holdRow rfl rfl rfl hdX3_holdRow ⟨Nat.le_of_ble_eq_true rfl, Nat.le_of_ble_eq_true rfl⟩) (kpreV hP hD hK hS hE hA [21, 13, 14] rfl rfl 21 rfl rfl rfl) rfl rfl hl.1 rfl (lv_room (Nat.le_of_ble_eq_true rfl)) dX5_shelf_79 ⟨Nat.zero_le _, Nat.zero_le _⟩) hP hD hS hA [21, 13, 14] rfl rfl rfl (fun H locs hP hD hS => ?_)
              refine lv_iconst (v := 1) hx hb dX5_shelf_82 rfl ?_
              cases hf
              exact kri hQ hAe hx hb hr hlocks hP hD hK hS dX5_shelf_83
            · rw [e4_19] at eo18
              subst eo18
              try rw [e4_19] at hf
              refine va_aldq hx hb hK hP 8 3 rfl rfl hi17 dX5_shelf_78 ?_
              rw [e4_19]
              refine lv_renV (v := .ref qs7) rfl ?_
              obtain ⟨v20, h21, hf⟩ := ob1_e hf
              refine kcv (Wx := (oTM q0 qn0 qk0 qr0 qc0 qt0 qd0 qs0 qf0 qw0 rowCount anyKept (oPort C qn0 qn1 qn2 qn3 qn4 qn5 qn6 now (oSheets C qs0 qs1 qs2 qs3 qs4 qs5 qs6 qs7 qs8 sheets (oShelves C qf0 qf1 qf2 qf3 qf4 (va_up shelves 3 v20) []))))) (va_runV (As := [.ref qs7]) (rest := []) ⟨hx, hb, hml, hown, hts⟩ (c_X3_holdRow l E D C qf4 qs7 qs8 H.size (shelves 3) (sheets 3) v20 h21) (cwV 1 hts gX5_shelf_X3_holdRow rfl rfl rfl hdX3_holdRow ⟨Nat.le_of_ble_eq_true rfl, Nat.le_of_ble_eq_true rfl⟩) (kpreV hP hD hK hS hE hA [21, 15, 16] rfl rfl 21 rfl rfl rfl) rfl rfl hl.1 rfl (lv_room (Nat.le_of_ble_eq_true rfl)) dX5_shelf_79 ⟨Nat.zero_le _, Nat.zero_le _⟩) hP hD hS hA [21, 15, 16] rfl rfl rfl (fun H locs hP hD hS => ?_)
              refine lv_iconst (v := 1) hx hb dX5_shelf_82 rfl ?_
              cases hf
              exact kri hQ hAe hx hb hr hlocks hP hD hK hS dX5_shelf_83
        · replace hf := if_te c13 hf
          refine lv_iconst (v := (-1)) hx hb dX5_shelf_65 rfl ?_
          cases hf
          exact kri hQ hAe hx hb hr hlocks hP hD hK hS dX5_shelf_66
      replace hf := if_fe c11 hf
      by_cases c22 : x1 = 2
      · replace hf := if_te c22 hf
        refine lv_tableIn (x := x1) (tgt := 84) (off := 74) hx hb dX5_shelf_10 (by rw [c22]; decide) (by rw [c22]; decide) (by rw [c22]; try rfl) (by decide) ?_
        refine lv_aload_n hx hb dX5_shelf_84 rfl (lv_at hl 0 rfl) ?_
        refine va_get (D := D) (ci := 5) (v := .ref qf0) (C := RX5) (T := TX5) (N := 11) hx hb hts hi_RX5 hown hK hP 0 rfl rfl 7 (by decide) (hts (.fieldLink RX5 47 "TravelMarks" "shelves" "[LTravelMarks$Shelf;") (List.mem_of_getElem? (i := 1) rfl)) (fun _ h9 => h9) rfl dX5_shelf_85 ?_
        refine lv_iload_n hx hb dX5_shelf_88 rfl (lv_at hl 1 rfl) ?_
        obtain ⟨hi23, hf⟩ := ckA_e hf
        obtain ⟨o24, eo24, hf⟩ := lj_e hf
        rcases four hi23 with e4_25 | e4_25 | e4_25 | e4_25
        · rw [e4_25] at eo24
          subst eo24
          try rw [e4_25] at hf
          refine va_aldq hx hb hK hP 17 4 rfl rfl hi23 dX5_shelf_89 ?_
          rw [e4_25]
          refine lv_renV (v := .ref qf1) rfl ?_
          refine lv_iconst (v := 2) hx hb dX5_shelf_90 rfl ?_
          refine va_put (D := D) (ci := 3) (v := .int 2) (ty := .int) (C := RX3) (T := TX3) (N := 4) hx hb hts hi_RX3 tyX3 tyX3_ok nmX3 hown hK hP hD hS 18 rfl rfl 0 (by decide) (hts (.fieldLink RX5 273 "TravelMarks$Shelf" "holding" "I") (List.mem_of_getElem? (i := 3) rfl)) (fun _ h9 => h9) rfl (tyX3_ok 0 (by decide)) rfl rfl (Nat.le_of_ble_eq_true rfl) dX5_shelf_91 (fun H locs hP hD hS => ?_)
          have hP : va_P D vwCl (oTM q0 qn0 qk0 qr0 qc0 qt0 qd0 qs0 qf0 qw0 rowCount anyKept (oPort C qn0 qn1 qn2 qn3 qn4 qn5 qn6 now (oSheets C qs0 qs1 qs2 qs3 qs4 qs5 qs6 qs7 qs8 sheets (oShelves C qf0 qf1 qf2 qf3 qf4 (va_up shelves 0 (sfSetHolding (shelves 0) 2)) [])))) H := hP
          have hD : va_D A (oTM q0 qn0 qk0 qr0 qc0 qt0 qd0 qs0 qf0 qw0 rowCount anyKept (oPort C qn0 qn1 qn2 qn3 qn4 qn5 qn6 now (oSheets C qs0 qs1 qs2 qs3 qs4 qs5 qs6 qs7 qs8 sheets (oShelves C qf0 qf1 qf2 qf3 qf4 (va_up shelves 0 (sfSetHolding (shelves 0) 2)) [])))) := hD
          refine lv_iconst (v := 1) hx hb dX5_shelf_94 rfl ?_
          cases hf
          exact kri hQ hAe hx hb hr hlocks hP hD hK hS dX5_shelf_95
        · rw [e4_25] at eo24
          subst eo24
          try rw [e4_25] at hf
          refine va_aldq hx hb hK hP 17 4 rfl rfl hi23 dX5_shelf_89 ?_
          rw [e4_25]
          refine lv_renV (v := .ref qf2) rfl ?_
          refine lv_iconst (v := 2) hx hb dX5_shelf_90 rfl ?_
          refine va_put (D := D) (ci := 3) (v := .int 2) (ty := .int) (C := RX3) (T := TX3) (N := 4) hx hb hts hi_RX3 tyX3 tyX3_ok nmX3 hown hK hP hD hS 19 rfl rfl 0 (by decide) (hts (.fieldLink RX5 273 "TravelMarks$Shelf" "holding" "I") (List.mem_of_getElem? (i := 3) rfl)) (fun _ h9 => h9) rfl (tyX3_ok 0 (by decide)) rfl rfl (Nat.le_of_ble_eq_true rfl) dX5_shelf_91 (fun H locs hP hD hS => ?_)
          have hP : va_P D vwCl (oTM q0 qn0 qk0 qr0 qc0 qt0 qd0 qs0 qf0 qw0 rowCount anyKept (oPort C qn0 qn1 qn2 qn3 qn4 qn5 qn6 now (oSheets C qs0 qs1 qs2 qs3 qs4 qs5 qs6 qs7 qs8 sheets (oShelves C qf0 qf1 qf2 qf3 qf4 (va_up shelves 1 (sfSetHolding (shelves 1) 2)) [])))) H := hP
          have hD : va_D A (oTM q0 qn0 qk0 qr0 qc0 qt0 qd0 qs0 qf0 qw0 rowCount anyKept (oPort C qn0 qn1 qn2 qn3 qn4 qn5 qn6 now (oSheets C qs0 qs1 qs2 qs3 qs4 qs5 qs6 qs7 qs8 sheets (oShelves C qf0 qf1 qf2 qf3 qf4 (va_up shelves 1 (sfSetHolding (shelves 1) 2)) [])))) := hD
          refine lv_iconst (v := 1) hx hb dX5_shelf_94 rfl ?_
          cases hf
          exact kri hQ hAe hx hb hr hlocks hP hD hK hS dX5_shelf_95
        · rw [e4_25] at eo24
          subst eo24
          try rw [e4_25] at hf
          refine va_aldq hx hb hK hP 17 4 rfl rfl hi23 dX5_shelf_89 ?_
          rw [e4_25]
          refine lv_renV (v := .ref qf3) rfl ?_
          refine lv_iconst (v := 2) hx hb dX5_shelf_90 rfl ?_
          refine va_put (D := D) (ci := 3) (v := .int 2) (ty := .int) (C := RX3) (T := TX3) (N := 4) hx hb hts hi_RX3 tyX3 tyX3_ok nmX3 hown hK hP hD hS 20 rfl rfl 0 (by decide) (hts (.fieldLink RX5 273 "TravelMarks$Shelf" "holding" "I") (List.mem_of_getElem? (i := 3) rfl)) (fun _ h9 => h9) rfl (tyX3_ok 0 (by decide)) rfl rfl (Nat.le_of_ble_eq_true rfl) dX5_shelf_91 (fun H locs hP hD hS => ?_)
          have hP : va_P D vwCl (oTM q0 qn0 qk0 qr0 qc0 qt0 qd0 qs0 qf0 qw0 rowCount anyKept (oPort C qn0 qn1 qn2 qn3 qn4 qn5 qn6 now (oSheets C qs0 qs1 qs2 qs3 qs4 qs5 qs6 qs7 qs8 sheets (oShelves C qf0 qf1 qf2 qf3 qf4 (va_up shelves 2 (sfSetHolding (shelves 2) 2)) [])))) H := hP
          have hD : va_D A (oTM q0 qn0 qk0 qr0 qc0 qt0 qd0 qs0 qf0 qw0 rowCount anyKept (oPort C qn0 qn1 qn2 qn3 qn4 qn5 qn6 now (oSheets C qs0 qs1 qs2 qs3 qs4 qs5 qs6 qs7 qs8 sheets (oShelves C qf0 qf1 qf2 qf3 qf4 (va_up shelves 2 (sfSetHolding (shelves 2) 2)) [])))) := hD
          refine lv_iconst (v := 1) hx hb dX5_shelf_94 rfl ?_
          cases hf
          exact kri hQ hAe hx hb hr hlocks hP hD hK hS dX5_shelf_95
        · rw [e4_25] at eo24
          subst eo24
          try rw [e4_25] at hf
          refine va_aldq hx hb hK hP 17 4 rfl rfl hi23 dX5_shelf_89 ?_
          rw [e4_25]
          refine lv_renV (v := .ref qf4) rfl ?_
          refine lv_iconst (v := 2) hx hb dX5_shelf_90 rfl ?_
          refine va_put (D := D) (ci := 3) (v := .int 2) (ty := .int) (C := RX3) (T := TX3) (N := 4) hx hb hts hi_RX3 tyX3 tyX3_ok nmX3 hown hK hP hD hS 21 rfl rfl 0 (by decide) (hts (.fieldLink RX5 273 "TravelMarks$Shelf" "holding" "I") (List.mem_of_getElem? (i := 3) rfl)) (fun _ h9 => h9) rfl (tyX3_ok 0 (by decide)) rfl rfl (Nat.le_of_ble_eq_true rfl) dX5_shelf_91 (fun H locs hP hD hS => ?_)
          have hP : va_P D vwCl (oTM q0 qn0 qk0 qr0 qc0 qt0 qd0 qs0 qf0 qw0 rowCount anyKept (oPort C qn0 qn1 qn2 qn3 qn4 qn5 qn6 now (oSheets C qs0 qs1 qs2 qs3 qs4 qs5 qs6 qs7 qs8 sheets (oShelves C qf0 qf1 qf2 qf3 qf4 (va_up shelves 3 (sfSetHolding (shelves 3) 2)) [])))) H := hP
          have hD : va_D A (oTM q0 qn0 qk0 qr0 qc0 qt0 qd0 qs0 qf0 qw0 rowCount anyKept (oPort C qn0 qn1 qn2 qn3 qn4 qn5 qn6 now (oSheets C qs0 qs1 qs2 qs3 qs4 qs5 qs6 qs7 qs8 sheets (oShelves C qf0 qf1 qf2 qf3 qf4 (va_up shelves 3 (sfSetHolding (shelves 3) 2)) [])))) := hD
          refine lv_iconst (v := 1) hx hb dX5_shelf_94 rfl ?_
          cases hf
          exact kri hQ hAe hx hb hr hlocks hP hD hK hS dX5_shelf_95
      replace hf := if_fe c22 hf
      refine lv_tableOut (x := x1) (tgt := 96) hx hb dX5_shelf_10 (swo_0_2 c3 c11 c22) (by decide) ?_
      refine lv_iconst (v := (-1)) hx hb dX5_shelf_96 rfl ?_
      cases hf
      exact kri hQ hAe hx hb hr hlocks hP hD hK hS dX5_shelf_97
    · replace hf := if_te c2 hf
      refine lv_iconst (v := (-1)) hx hb dX5_shelf_7 rfl ?_
      cases hf
      exact kri hQ hAe hx hb hr hlocks hP hD hK hS dX5_shelf_8
  exact main _ _ hP hD hS

def rmX5_heldBy : Room := { frames := 2, cells := 0, slots := 0, locals := 43 }
theorem hdX5_heldBy : yX5_heldBy.cls = RX5 ∧ yX5_heldBy.cls ≠ "java/lang/invoke/MethodHandle" ∧ yX5_heldBy.cls ≠ "java/lang/invoke/VarHandle" ∧ (parseMethodDescriptor yX5_heldBy.desc).map (fun d => d.parameters.length) = some 1 := by decide +kernel
set_option maxHeartbeats 40000000 in
set_option maxRecDepth 100000 in
theorem c_X5_heldBy (l : Launch) (E : Nat → Nat) (D : va_G) (C : Nat → ClassId) (q0 qn0 qk0 qr0 qc0 qt0 qd0 qs0 qf0 qw0 qn1 qn2 qn3 qn4 qn5 qn6 b0_0 : Nat) (sz : Nat) (rowCount : Int32) (anyKept : Int32) (now : PV) (w0 : FV)  (r : Int32) (hf : f_X5_heldBy now w0 = r) : Met l yX5_heldBy wsX5_heldBy rmX5_heldBy (PC E D C [.ref q0, .ref b0_0] (oTM q0 qn0 qk0 qr0 qc0 qt0 qd0 qs0 qf0 qw0 rowCount anyKept (oPort C qn0 qn1 qn2 qn3 qn4 qn5 qn6 now (oShelf C b0_0 w0 []))) sz) (QI D C (oTM q0 qn0 qk0 qr0 qc0 qt0 qd0 qs0 qf0 qw0 rowCount anyKept (oPort C qn0 qn1 qn2 qn3 qn4 qn5 qn6 now (oShelf C b0_0 w0 []))) (oTM q0 qn0 qk0 qr0 qc0 qt0 qd0 qs0 qf0 qw0 rowCount anyKept (oPort C qn0 qn1 qn2 qn3 qn4 qn5 qn6 now (oShelf C b0_0 w0 []))) sz r) 0 0 (va_A (oTM q0 qn0 qk0 qr0 qc0 qt0 qd0 qs0 qf0 qw0 rowCount anyKept (oPort C qn0 qn1 qn2 qn3 qn4 qn5 qn6 now (oShelf C b0_0 w0 []))) sz) := by
  refine Met.ofW (cc := cX5_heldBy) (maxL := 2) (ret := (some .int)) (by decide) rfl ?_
  intro p e s m args below meth c s₁ B hml hv
  obtain ⟨rfl, hsz, hP, hK, hD0, hE⟩ := hv
  have hx := B.exec
  have hb := B.bytes
  have hr := B.returns
  have hts := atoms_spec (ws := wsX5_heldBy) B.pre
  have hown : s.vm.findClass RX5 = some m.cls := findClass_of_methodNamed B.named
  have hlocks := B.notSynchronized
  subst hsz
  have hi_RX3 : ∀ w ∈ wsX30, w ∈ wsX5_heldBy := fun _ h => List.mem_cons_of_mem _ (List.mem_append_left _ (List.mem_append_left _ (List.mem_append_right _ h)))
  have hD := hD0.self (sz := s.heap.size)
  obtain ⟨A, hAe⟩ := nm_ex (va_A (oTM q0 qn0 qk0 qr0 qc0 qt0 qd0 qs0 qf0 qw0 rowCount anyKept (oPort C qn0 qn1 qn2 qn3 qn4 qn5 qn6 now (oShelf C b0_0 w0 []))) s.heap.size)
  rw [← hAe] at hD hE ⊢
  have hA : ∀ q : Nat, s.heap.size ≤ q → A q := fun q h => by rw [hAe]; exact Or.inr h
  have hS : va_S A s.heap s.heap [] := va_S.rf
  have hl := lv_entry ([.ref q0, .ref b0_0]) (n := 2) (Nat.le_of_ble_eq_true rfl)
  rw [lg_entry_eq]
  generalize (lg_sl ([.ref q0, .ref b0_0]) ++ List.replicate (2 - (lg_sl ([.ref q0, .ref b0_0])).length) Slot.unset).toArray = ls at hl ⊢
  have hl : lv_has ls 2 [(0, .ref q0), (1, .ref b0_0)] := hl
  obtain ⟨Q, hQ⟩ := nm_ex (MQ below (QI D C (oTM q0 qn0 qk0 qr0 qc0 qt0 qd0 qs0 qf0 qw0 rowCount anyKept (oPort C qn0 qn1 qn2 qn3 qn4 qn5 qn6 now (oShelf C b0_0 w0 []))) (oTM q0 qn0 qk0 qr0 qc0 qt0 qd0 qs0 qf0 qw0 rowCount anyKept (oPort C qn0 qn1 qn2 qn3 qn4 qn5 qn6 now (oShelf C b0_0 w0 []))) s.heap.size r) (List.toArray [Value.ref q0, Value.ref b0_0]) s 0 0 A)
  show W p l e (headSpec wsX5_heldBy (rmX5_heldBy)).room s m (List.toArray [Value.ref q0, Value.ref b0_0]) below meth c s.heap [] 0 0 (MQ below (QI D C (oTM q0 qn0 qk0 qr0 qc0 qt0 qd0 qs0 qf0 qw0 rowCount anyKept (oPort C qn0 qn1 qn2 qn3 qn4 qn5 qn6 now (oShelf C b0_0 w0 []))) (oTM q0 qn0 qk0 qr0 qc0 qt0 qd0 qs0 qf0 qw0 rowCount anyKept (oPort C qn0 qn1 qn2 qn3 qn4 qn5 qn6 now (oShelf C b0_0 w0 []))) s.heap.size r) (List.toArray [Value.ref q0, Value.ref b0_0]) s 0 0 A) _
  rw [← hQ]
  unfold f_X5_heldBy at hf
  have main : ∀ (H : Heap) (locs : List Loc), va_P D vwCl (oTM q0 qn0 qk0 qr0 qc0 qt0 qd0 qs0 qf0 qw0 rowCount anyKept (oPort C qn0 qn1 qn2 qn3 qn4 qn5 qn6 now (oShelf C b0_0 w0 []))) H → va_D A (oTM q0 qn0 qk0 qr0 qc0 qt0 qd0 qs0 qf0 qw0 rowCount anyKept (oPort C qn0 qn1 qn2 qn3 qn4 qn5 qn6 now (oShelf C b0_0 w0 []))) → va_S A s.heap H locs → W p l e (headSpec wsX5_heldBy (rmX5_heldBy)).room s m (List.toArray [Value.ref q0, Value.ref b0_0]) below meth c H locs 0 0 Q (F0 m 0 ls []) := by
    intro H locs hP hD hS
    refine lv_aload_n hx hb dX5_heldBy_0 rfl (lv_at hl 1 rfl) ?_
    refine va_get (D := D) (ci := 3) (v := .int (sfHolding w0)) (C := RX3) (T := TX3) (N := 4) hx hb hts hi_RX3 hown hK hP 8 rfl rfl 0 (by decide) (hts (.fieldLink RX5 273 "TravelMarks$Shelf" "holding" "I") (List.mem_of_getElem? (i := 1) rfl)) (fun _ h9 => h9) rfl dX5_heldBy_1 ?_
    refine lv_if_ne (tgt := 22) hx hb dX5_heldBy_4 (by decide) (fun c1 => ?_) (fun c1 => ?_)
    · replace hf := if_fe c1 hf
      refine lv_aload_n hx hb dX5_heldBy_22 rfl (lv_at hl 1 rfl) ?_
      refine va_get (D := D) (ci := 3) (v := .int (sfHolding w0)) (C := RX3) (T := TX3) (N := 4) hx hb hts hi_RX3 hown hK hP 8 rfl rfl 0 (by decide) (hts (.fieldLink RX5 273 "TravelMarks$Shelf" "holding" "I") (List.mem_of_getElem? (i := 1) rfl)) (fun _ h9 => h9) rfl dX5_heldBy_23 ?_
      cases hf
      exact kri hQ hAe hx hb hr hlocks hP hD hK hS dX5_heldBy_26
    · replace hf := if_te c1 hf
      refine lv_aload_n hx hb dX5_heldBy_7 rfl (lv_at hl 0 rfl) ?_
      refine lv_aload_n hx hb dX5_heldBy_8 rfl (lv_at hl 1 rfl) ?_
      refine va_get (D := D) (ci := 3) (v := .int (sfNumber w0)) (C := RX3) (T := TX3) (N := 4) hx hb hts hi_RX3 hown hK hP 8 rfl rfl 1 (by decide) (hts (.fieldLink RX5 282 "TravelMarks$Shelf" "number" "I") (List.mem_of_getElem? (i := 2) rfl)) (fun _ h9 => h9) rfl dX5_heldBy_9 ?_
      refine kcz (Wx := (oTM q0 qn0 qk0 qr0 qc0 qt0 qd0 qs0 qf0 qw0 rowCount anyKept (oPort C qn0 qn1 qn2 qn3 qn4 qn5 qn6 now (oShelf C b0_0 w0 [])))) (va_runV (As := [.int (sfNumber w0)]) (rest := []) ⟨hx, hb, hml, hown, hts⟩ (c_X5_isMark l E D C q0 qn0 qk0 qr0 qc0 qt0 qd0 qs0 qf0 qw0 qn1 qn2 qn3 qn4 qn5 qn6 H.size rowCount anyKept now (sfNumber w0) _ rfl) (cwV 1 hts gX5_heldBy_X5_isMark rfl rfl rfl hdX5_isMark ⟨Nat.le_of_ble_eq_true rfl, Nat.le_of_ble_eq_true rfl⟩) (kpreV hP hD hK hS hE hA [0, 1, 2, 3, 4, 5, 6, 7] rfl rfl 0 rfl rfl rfl) rfl rfl hl.1 rfl (lv_room (Nat.le_of_ble_eq_true rfl)) dX5_heldBy_12 ⟨Nat.zero_le _, Nat.zero_le _⟩) hP hD hS hA [0, 1, 2, 3, 4, 5, 6, 7] rfl rfl rfl (fun H locs hz2 hP hD hS => ?_)
      refine lv_if_ne (tgt := 22) hx hb dX5_heldBy_15 (by decide) (fun c3 => ?_) (fun c3 => ?_)
      · replace hf := if_fe c3 hf
        refine lv_aload_n hx hb dX5_heldBy_22 rfl (lv_at hl 1 rfl) ?_
        refine va_get (D := D) (ci := 3) (v := .int (sfHolding w0)) (C := RX3) (T := TX3) (N := 4) hx hb hts hi_RX3 hown hK hP 8 rfl rfl 0 (by decide) (hts (.fieldLink RX5 273 "TravelMarks$Shelf" "holding" "I") (List.mem_of_getElem? (i := 1) rfl)) (fun _ h9 => h9) rfl dX5_heldBy_23 ?_
        cases hf
        exact kri hQ hAe hx hb hr hlocks hP hD hK hS dX5_heldBy_26
      · replace hf := if_te c3 hf
        refine lv_iconst (v := 2) hx hb dX5_heldBy_18 rfl ?_
        refine lv_goto (tgt := 26) hx hb dX5_heldBy_19 (by decide) ?_
        cases hf
        exact kri hQ hAe hx hb hr hlocks hP hD hK hS dX5_heldBy_26
  exact main _ _ hP hD hS

def rmX5_isUnder : Room := { frames := 2, cells := 0, slots := 0, locals := 42 }
theorem hdX5_isUnder : yX5_isUnder.cls ≠ "java/lang/invoke/MethodHandle" ∧ yX5_isUnder.cls ≠ "java/lang/invoke/VarHandle" ∧ (parseMethodDescriptor yX5_isUnder.desc).map (fun d => d.parameters.length) = some 2 := by decide +kernel
set_option maxHeartbeats 40000000 in
set_option maxRecDepth 100000 in
theorem c_X5_isUnder (l : Launch) (E : Nat → Nat) (D : va_G) (C : Nat → ClassId) (sz : Nat) (N : Nat)  (x0 : Int32) (x1 : Int32) (r : Int32) (hf : f_X5_isUnder N x0 x1 = some r) : Met l yX5_isUnder wsX5_isUnder rmX5_isUnder (PC E D C [.int x0, .int x1] [] sz) (QZ D C [] [] sz r) 0 0 (va_A [] sz) := by
  refine Met.ofW (cc := cX5_isUnder) (maxL := 4) (ret := (some .boolean)) (by decide) rfl ?_
  intro p e s m args below meth c s₁ B hml hv
  obtain ⟨rfl, hsz, hP, hK, hD0, hE⟩ := hv
  have hx := B.exec
  have hb := B.bytes
  have hr := B.returns
  have hts := atoms_spec (ws := wsX5_isUnder) B.pre
  have hown : s.vm.findClass RX5 = some m.cls := findClass_of_methodNamed B.named
  have hlocks := B.notSynchronized
  subst hsz
  have hD := hD0.self (sz := s.heap.size)
  obtain ⟨A, hAe⟩ := nm_ex (va_A [] s.heap.size)
  rw [← hAe] at hD hE ⊢
  have hA : ∀ q : Nat, s.heap.size ≤ q → A q := fun q h => by rw [hAe]; exact Or.inr h
  have hS : va_S A s.heap s.heap [] := va_S.rf
  have hl := lv_entry ([.int x0, .int x1]) (n := 4) (Nat.le_of_ble_eq_true rfl)
  rw [lg_entry_eq]
  generalize (lg_sl ([.int x0, .int x1]) ++ List.replicate (4 - (lg_sl ([.int x0, .int x1])).length) Slot.unset).toArray = ls at hl ⊢
  have hl : lv_has ls 4 [(0, .int x0), (1, .int x1)] := hl
  obtain ⟨Q, hQ⟩ := nm_ex (MQ below (QZ D C [] [] s.heap.size r) (List.toArray [Value.int x0, Value.int x1]) s 0 0 A)
  show W p l e (headSpec wsX5_isUnder (rmX5_isUnder)).room s m (List.toArray [Value.int x0, Value.int x1]) below meth c s.heap [] 0 0 (MQ below (QZ D C [] [] s.heap.size r) (List.toArray [Value.int x0, Value.int x1]) s 0 0 A) _
  rw [← hQ]
  unfold f_X5_isUnder at hf
  have main : ∀ (H : Heap) (locs : List Loc), va_P D vwCl [] H → va_D A [] → va_S A s.heap H locs → W p l e (headSpec wsX5_isUnder (rmX5_isUnder)).room s m (List.toArray [Value.int x0, Value.int x1]) below meth c H locs 0 0 Q (F0 m 0 ls []) := by
    intro H locs hP hD hS
    refine lv_iload_n hx hb dX5_isUnder_0 rfl (lv_at hl 0 rfl) ?_
    refine lv_istore_n (lv' := [(2, .int x0), (0, .int x0), (1, .int x1)]) hx hb dX5_isUnder_1 rfl hl (by decide) rfl (fun ls hl => ?_)
    refine lv_iconst (v := 0) hx hb dX5_isUnder_2 rfl ?_
    refine lv_istore_n (lv' := [(3, .int 0), (2, .int x0), (0, .int x0), (1, .int x1)]) hx hb dX5_isUnder_3 rfl hl (by decide) rfl (fun ls hl => ?_)
    have hL4 : ∀ (n : Nat) (i1 : Int32) (i2 : Int32) (H : Heap) (locs : List Loc) (ls : Array Slot), va_P D vwCl [] H → va_D A [] → va_S A s.heap H locs → lv_has ls 4 [(3, .int i1), (2, .int i2), (1, .int x1)] → f_X5_isUnder_L4 x1 n i1 i2 = some r → W p l e (headSpec wsX5_isUnder (rmX5_isUnder)).room s m (List.toArray [Value.int x0, Value.int x1]) below meth c H locs 0 0 Q (F0 m 4 ls []) := by
      intro n
      induction n with
      | zero =>
        intro i1 i2 H locs ls hP hD hS hl hf
        exact absurd hf (fun h => by cases h)
      | succ n ih =>
        intro i1 i2 H locs ls hP hD hS hl hf
        rw [f_X5_isUnder_L4] at hf
        refine lv_iload_n hx hb dX5_isUnder_4 rfl (lv_at hl 0 rfl) ?_
        refine lv_bipush (v := 6) hx hb dX5_isUnder_5 rfl ?_
        refine lv_icmp_ge (tgt := 36) hx hb dX5_isUnder_7 (by decide) (fun c3 => ?_) (fun c3 => ?_)
        · replace hf := if_te c3 hf
          refine lv_iconst (v := 0) hx hb dX5_isUnder_36 rfl ?_
          cases hf
          exact krz hQ hAe hx hb hr hlocks zb_0 hP hD hK hS dX5_isUnder_37
        · replace hf := if_fe c3 hf
          refine lv_iload_n hx hb dX5_isUnder_10 rfl (lv_at hl 1 rfl) ?_
          refine kcz (Wx := []) (va_runS (As := [.int i2]) (rest := []) ⟨hx, hb, hml, hown, hts⟩ (c_X5_isKind l E D C H.size i2 _ rfl) (va_cwS 1 hts gX5_isUnder_X5_isKind rfl rfl rfl hdX5_isKind ⟨Nat.le_of_ble_eq_true rfl, Nat.le_of_ble_eq_true rfl⟩) (kpre hP hD hK hS hE hA [] rfl rfl) rfl rfl hl.1 rfl (lv_room (Nat.le_of_ble_eq_true rfl)) dX5_isUnder_11 ⟨Nat.zero_le _, Nat.zero_le _⟩) hP hD hS hA [] rfl rfl rfl (fun H locs hz4 hP hD hS => ?_)
          refine lv_if_eq (tgt := 36) hx hb dX5_isUnder_14 (by decide) (fun c5 => ?_) (fun c5 => ?_)
          · replace hf := if_te c5 hf
            refine lv_iconst (v := 0) hx hb dX5_isUnder_36 rfl ?_
            cases hf
            exact krz hQ hAe hx hb hr hlocks zb_0 hP hD hK hS dX5_isUnder_37
          · replace hf := if_fe c5 hf
            refine lv_iload_n hx hb dX5_isUnder_17 rfl (lv_at hl 1 rfl) ?_
            refine lv_iload_n hx hb dX5_isUnder_18 rfl (lv_at hl 2 rfl) ?_
            refine lv_icmp_ne (tgt := 24) hx hb dX5_isUnder_19 (by decide) (fun c6 => ?_) (fun c6 => ?_)
            · replace hf := if_fe c6 hf
              refine va_gets hx hb (tZ3 hE) hS hown (hts (.fieldLink RX5 316 "TravelMarks" "ABOVE" "[I") (List.mem_of_getElem? (i := 1) rfl)) (fun _ h9 => h9) dX5_isUnder_24 ?_
              refine lv_iload_n hx hb dX5_isUnder_27 rfl (lv_at hl 1 rfl) ?_
              obtain ⟨y8, ey8, hi7, hf⟩ := rdA_x hf
              refine va_ti hx hb (tT3 hE) hS hi7 (v := .int (tbAbove (i2).toNatClampNeg)) rfl dX5_isUnder_28 ?_
              refine lv_ren ey8 ?_
              refine lv_istore_n (lv' := [(2, .int y8), (3, .int i1), (1, .int x1)]) hx hb dX5_isUnder_29 rfl hl (by decide) rfl (fun ls hl => ?_)
              obtain ⟨t9, et9, hf⟩ := lj_e hf
              refine lv_iinc (v := t9) (lv' := [(3, .int t9), (2, .int y8), (1, .int x1)]) hx hb dX5_isUnder_30 hl (k := 1) rfl (by rw [et9]; rfl) (by decide) rfl (fun ls hl => ?_)
              refine lv_goto (tgt := 4) hx hb dX5_isUnder_33 (by decide) ?_
              exact ih t9 y8 H locs ls hP hD hS (lv_sub hl [0, 1, 2] rfl) hf
            · replace hf := if_te c6 hf
              refine lv_iconst (v := 1) hx hb dX5_isUnder_22 rfl ?_
              cases hf
              exact krz hQ hAe hx hb hr hlocks zb_1 hP hD hK hS dX5_isUnder_23
    exact hL4 N 0 x0 H locs ls hP hD hS (lv_sub hl [0, 1, 3] rfl) hf
  exact main _ _ hP hD hS

def rmX5_taken : Room := { frames := 3, cells := 0, slots := 0, locals := 65 }
theorem hdX5_taken : yX5_taken.cls = RX5 ∧ yX5_taken.cls ≠ "java/lang/invoke/MethodHandle" ∧ yX5_taken.cls ≠ "java/lang/invoke/VarHandle" ∧ (parseMethodDescriptor yX5_taken.desc).map (fun d => d.parameters.length) = some 2 := by decide +kernel
set_option maxHeartbeats 40000000 in
set_option maxRecDepth 100000 in
theorem c_X5_taken (l : Launch) (E : Nat → Nat) (D : va_G) (C : Nat → ClassId) (q0 qn0 qk0 qr0 qc0 qt0 qd0 qs0 qf0 qw0 qn1 qn2 qn3 qn4 qn5 qn6 qf1 qf2 qf3 qf4 : Nat) (sz : Nat) (N : Nat) (rowCount : Int32) (anyKept : Int32) (now : PV) (shelves : Nat → FV) (x0 : Int32) (x1 : Int32) (r : Int32) (hf : f_X5_taken N now shelves x0 x1 = some r) : Met l yX5_taken wsX5_taken rmX5_taken (PC E D C [.ref q0, .int x0, .int x1] (oTM q0 qn0 qk0 qr0 qc0 qt0 qd0 qs0 qf0 qw0 rowCount anyKept (oPort C qn0 qn1 qn2 qn3 qn4 qn5 qn6 now (oShelves C qf0 qf1 qf2 qf3 qf4 shelves []))) sz) (QI D C (oTM q0 qn0 qk0 qr0 qc0 qt0 qd0 qs0 qf0 qw0 rowCount anyKept (oPort C qn0 qn1 qn2 qn3 qn4 qn5 qn6 now (oShelves C qf0 qf1 qf2 qf3 qf4 shelves []))) (oTM q0 qn0 qk0 qr0 qc0 qt0 qd0 qs0 qf0 qw0 rowCount anyKept (oPort C qn0 qn1 qn2 qn3 qn4 qn5 qn6 now (oShelves C qf0 qf1 qf2 qf3 qf4 shelves []))) sz r) 0 0 (va_A (oTM q0 qn0 qk0 qr0 qc0 qt0 qd0 qs0 qf0 qw0 rowCount anyKept (oPort C qn0 qn1 qn2 qn3 qn4 qn5 qn6 now (oShelves C qf0 qf1 qf2 qf3 qf4 shelves []))) sz) := by
  refine Met.ofW (cc := cX5_taken) (maxL := 6) (ret := (some .int)) (by decide) rfl ?_
  intro p e s m args below meth c s₁ B hml hv
  obtain ⟨rfl, hsz, hP, hK, hD0, hE⟩ := hv
  have hx := B.exec
  have hb := B.bytes
  have hr := B.returns
  have hts := atoms_spec (ws := wsX5_taken) B.pre
  have hown : s.vm.findClass RX5 = some m.cls := findClass_of_methodNamed B.named
  have hlocks := B.notSynchronized
  subst hsz
  have hi_RX1 : ∀ w ∈ wsX10, w ∈ wsX5_taken := fun _ h => List.mem_cons_of_mem _ (List.mem_append_right _ h)
  have hi_RX3 : ∀ w ∈ wsX30, w ∈ wsX5_taken := fun _ h => List.mem_cons_of_mem _ (List.mem_append_left _ (List.mem_append_right _ h))
  have hi_RX5 : ∀ w ∈ wsX50, w ∈ wsX5_taken := fun _ h => List.mem_cons_of_mem _ (List.mem_append_left _ (List.mem_append_left _ (List.mem_append_right _ h)))
  have hD := hD0.self (sz := s.heap.size)
  obtain ⟨A, hAe⟩ := nm_ex (va_A (oTM q0 qn0 qk0 qr0 qc0 qt0 qd0 qs0 qf0 qw0 rowCount anyKept (oPort C qn0 qn1 qn2 qn3 qn4 qn5 qn6 now (oShelves C qf0 qf1 qf2 qf3 qf4 shelves []))) s.heap.size)
  rw [← hAe] at hD hE ⊢
  have hA : ∀ q : Nat, s.heap.size ≤ q → A q := fun q h => by rw [hAe]; exact Or.inr h
  have hS : va_S A s.heap s.heap [] := va_S.rf
  have hl := lv_entry ([.ref q0, .int x0, .int x1]) (n := 6) (Nat.le_of_ble_eq_true rfl)
  rw [lg_entry_eq]
  generalize (lg_sl ([.ref q0, .int x0, .int x1]) ++ List.replicate (6 - (lg_sl ([.ref q0, .int x0, .int x1])).length) Slot.unset).toArray = ls at hl ⊢
  have hl : lv_has ls 6 [(0, .ref q0), (1, .int x0), (2, .int x1)] := hl
  obtain ⟨Q, hQ⟩ := nm_ex (MQ below (QI D C (oTM q0 qn0 qk0 qr0 qc0 qt0 qd0 qs0 qf0 qw0 rowCount anyKept (oPort C qn0 qn1 qn2 qn3 qn4 qn5 qn6 now (oShelves C qf0 qf1 qf2 qf3 qf4 shelves []))) (oTM q0 qn0 qk0 qr0 qc0 qt0 qd0 qs0 qf0 qw0 rowCount anyKept (oPort C qn0 qn1 qn2 qn3 qn4 qn5 qn6 now (oShelves C qf0 qf1 qf2 qf3 qf4 shelves []))) s.heap.size r) (List.toArray [Value.ref q0, Value.int x0, Value.int x1]) s 0 0 A)
  show W p l e (headSpec wsX5_taken (rmX5_taken)).room s m (List.toArray [Value.ref q0, Value.int x0, Value.int x1]) below meth c s.heap [] 0 0 (MQ below (QI D C (oTM q0 qn0 qk0 qr0 qc0 qt0 qd0 qs0 qf0 qw0 rowCount anyKept (oPort C qn0 qn1 qn2 qn3 qn4 qn5 qn6 now (oShelves C qf0 qf1 qf2 qf3 qf4 shelves []))) (oTM q0 qn0 qk0 qr0 qc0 qt0 qd0 qs0 qf0 qw0 rowCount anyKept (oPort C qn0 qn1 qn2 qn3 qn4 qn5 qn6 now (oShelves C qf0 qf1 qf2 qf3 qf4 shelves []))) s.heap.size r) (List.toArray [Value.ref q0, Value.int x0, Value.int x1]) s 0 0 A) _
  rw [← hQ]
  unfold f_X5_taken at hf
  have main : ∀ (H : Heap) (locs : List Loc), va_P D vwCl (oTM q0 qn0 qk0 qr0 qc0 qt0 qd0 qs0 qf0 qw0 rowCount anyKept (oPort C qn0 qn1 qn2 qn3 qn4 qn5 qn6 now (oShelves C qf0 qf1 qf2 qf3 qf4 shelves []))) H → va_D A (oTM q0 qn0 qk0 qr0 qc0 qt0 qd0 qs0 qf0 qw0 rowCount anyKept (oPort C qn0 qn1 qn2 qn3 qn4 qn5 qn6 now (oShelves C qf0 qf1 qf2 qf3 qf4 shelves []))) → va_S A s.heap H locs → W p l e (headSpec wsX5_taken (rmX5_taken)).room s m (List.toArray [Value.ref q0, Value.int x0, Value.int x1]) below meth c H locs 0 0 Q (F0 m 0 ls []) := by
    intro H locs hP hD hS
    refine lv_iload_n hx hb dX5_taken_0 rfl (lv_at hl 2 rfl) ?_
    refine lv_bipush (v := 10) hx hb dX5_taken_1 rfl ?_
    refine lv_bipush (v := 13) hx hb dX5_taken_3 rfl ?_
    refine kcz (Wx := (oTM q0 qn0 qk0 qr0 qc0 qt0 qd0 qs0 qf0 qw0 rowCount anyKept (oPort C qn0 qn1 qn2 qn3 qn4 qn5 qn6 now (oShelves C qf0 qf1 qf2 qf3 qf4 shelves [])))) (va_runS (As := [.int x1, .int 10, .int 13]) (rest := []) ⟨hx, hb, hml, hown, hts⟩ (c_X5_within l E D C H.size x1 10 13 _ rfl) (va_cwS 3 hts gX5_taken_X5_within rfl rfl rfl hdX5_within ⟨Nat.le_of_ble_eq_true rfl, Nat.le_of_ble_eq_true rfl⟩) (kpre hP hD hK hS hE hA [] rfl rfl) rfl rfl hl.1 rfl (lv_room (Nat.le_of_ble_eq_true rfl)) dX5_taken_5 ⟨Nat.zero_le _, Nat.zero_le _⟩) hP hD hS hA [] rfl rfl rfl (fun H locs hz1 hP hD hS => ?_)
    obtain ⟨t2, et2, hf⟩ := lj_e hf
    refine lv_ren et2 ?_
    refine lv_istore_n (lv' := [(3, .int t2), (0, .ref q0), (1, .int x0), (2, .int x1)]) hx hb dX5_taken_8 rfl hl (by decide) rfl (fun ls hl => ?_)
    refine lv_iload_n hx hb dX5_taken_9 rfl (lv_at hl 2 rfl) ?_
    refine kcz (Wx := (oTM q0 qn0 qk0 qr0 qc0 qt0 qd0 qs0 qf0 qw0 rowCount anyKept (oPort C qn0 qn1 qn2 qn3 qn4 qn5 qn6 now (oShelves C qf0 qf1 qf2 qf3 qf4 shelves [])))) (va_runS (As := [.int x0]) (rest := []) ⟨hx, hb, hml, hown, hts⟩ (c_X5_isShelf l E D C H.size x0 _ rfl) (va_cwS 1 hts gX5_taken_X5_isShelf rfl rfl rfl hdX5_isShelf ⟨Nat.le_of_ble_eq_true rfl, Nat.le_of_ble_eq_true rfl⟩) (kpre hP hD hK hS hE hA [] rfl rfl) rfl rfl hl.1 rfl (lv_room (Nat.le_of_ble_eq_true rfl)) dX5_taken_10 ⟨Nat.zero_le _, Nat.zero_le _⟩) hP hD hS hA [] rfl rfl rfl (fun H locs hz3 hP hD hS => ?_)
    refine lv_if_eq (tgt := 27) hx hb dX5_taken_13 (by decide) (fun c4 => ?_) (fun c4 => ?_)
    · replace hf := if_te c4 hf
      refine lv_iconst (v := (-1)) hx hb dX5_taken_27 rfl ?_
      cases hf
      exact kri hQ hAe hx hb hr hlocks hP hD hK hS dX5_taken_28
    · replace hf := if_fe c4 hf
      refine lv_iload_n hx hb dX5_taken_16 rfl (lv_at hl 3 rfl) ?_
      refine kcz (Wx := (oTM q0 qn0 qk0 qr0 qc0 qt0 qd0 qs0 qf0 qw0 rowCount anyKept (oPort C qn0 qn1 qn2 qn3 qn4 qn5 qn6 now (oShelves C qf0 qf1 qf2 qf3 qf4 shelves [])))) (va_runS (As := [.int x1]) (rest := []) ⟨hx, hb, hml, hown, hts⟩ (c_X5_isKind l E D C H.size x1 _ rfl) (va_cwS 1 hts gX5_taken_X5_isKind rfl rfl rfl hdX5_isKind ⟨Nat.le_of_ble_eq_true rfl, Nat.le_of_ble_eq_true rfl⟩) (kpre hP hD hK hS hE hA [] rfl rfl) rfl rfl hl.1 rfl (lv_room (Nat.le_of_ble_eq_true rfl)) dX5_taken_17 ⟨Nat.zero_le _, Nat.zero_le _⟩) hP hD hS hA [] rfl rfl rfl (fun H locs hz5 hP hD hS => ?_)
      obtain ⟨j6, hj6, hf⟩ := lj_e hf
      have Hj6 : ∀ (H : Heap) (locs : List Loc) (ls : Array Slot), va_P D vwCl (oTM q0 qn0 qk0 qr0 qc0 qt0 qd0 qs0 qf0 qw0 rowCount anyKept (oPort C qn0 qn1 qn2 qn3 qn4 qn5 qn6 now (oShelves C qf0 qf1 qf2 qf3 qf4 shelves []))) H → va_D A (oTM q0 qn0 qk0 qr0 qc0 qt0 qd0 qs0 qf0 qw0 rowCount anyKept (oPort C qn0 qn1 qn2 qn3 qn4 qn5 qn6 now (oShelves C qf0 qf1 qf2 qf3 qf4 shelves []))) → va_S A s.heap H locs → lv_has ls 6 [(3, .int t2), (0, .ref q0), (1, .int x0), (2, .int x1)] → j6 = some r → W p l e (headSpec wsX5_taken (rmX5_taken)).room s m (List.toArray [Value.ref q0, Value.int x0, Value.int x1]) below meth c H locs 0 0 Q (F0 m 29 ls []) := by
        intro H locs ls hP hD hS hl hf
        rw [hj6] at hf
        refine lv_aload_n hx hb dX5_taken_29 rfl (lv_at hl 1 rfl) ?_
        refine va_get (D := D) (ci := 5) (v := .ref qf0) (C := RX5) (T := TX5) (N := 11) hx hb hts hi_RX5 hown hK hP 0 rfl rfl 7 (by decide) (hts (.fieldLink RX5 47 "TravelMarks" "shelves" "[LTravelMarks$Shelf;") (List.mem_of_getElem? (i := 1) rfl)) (fun _ h9 => h9) rfl dX5_taken_30 ?_
        refine lv_iload_n hx hb dX5_taken_33 rfl (lv_at hl 2 rfl) ?_
        obtain ⟨hi7, hf⟩ := ckA_e hf
        obtain ⟨o8, eo8, hf⟩ := lj_e hf
        rcases four hi7 with e4_9 | e4_9 | e4_9 | e4_9
        · rw [e4_9] at eo8
          subst eo8
          try rw [e4_9] at hf
          refine va_aldq hx hb hK hP 8 4 rfl rfl hi7 dX5_taken_34 ?_
          rw [e4_9]
          refine lv_renV (v := .ref qf1) rfl ?_
          refine lv_astore (lv' := [(4, .ref qf1), (3, .int t2), (0, .ref q0), (1, .int x0), (2, .int x1)]) hx hb dX5_taken_35 hl (by decide) rfl (fun ls hl => ?_)
          refine lv_aload_n hx hb dX5_taken_37 rfl (lv_at hl 2 rfl) ?_
          refine lv_aload hx hb dX5_taken_38 (lv_at hl 0 rfl) ?_
          refine kci (Wx := (oTM q0 qn0 qk0 qr0 qc0 qt0 qd0 qs0 qf0 qw0 rowCount anyKept (oPort C qn0 qn1 qn2 qn3 qn4 qn5 qn6 now (oShelves C qf0 qf1 qf2 qf3 qf4 shelves [])))) (va_runV (As := [.ref qf1]) (rest := []) ⟨hx, hb, hml, hown, hts⟩ (c_X5_heldBy l E D C q0 qn0 qk0 qr0 qc0 qt0 qd0 qs0 qf0 qw0 qn1 qn2 qn3 qn4 qn5 qn6 qf1 H.size rowCount anyKept now (shelves 0) _ rfl) (cwV 1 hts gX5_taken_X5_heldBy rfl rfl rfl hdX5_heldBy ⟨Nat.le_of_ble_eq_true rfl, Nat.le_of_ble_eq_true rfl⟩) (kpreV hP hD hK hS hE hA [0, 1, 2, 3, 4, 5, 6, 7, 9] rfl rfl 0 rfl rfl rfl) rfl rfl hl.1 rfl (lv_room (Nat.le_of_ble_eq_true rfl)) dX5_taken_40 ⟨Nat.zero_le _, Nat.zero_le _⟩) hP hD hS hA [0, 1, 2, 3, 4, 5, 6, 7, 9] rfl rfl rfl (fun H locs hP hD hS => ?_)
          obtain ⟨t10, et10, hf⟩ := lj_e hf
          refine lv_ren et10 ?_
          refine lv_istore (lv' := [(5, .int t10), (4, .ref qf1), (3, .int t2), (0, .ref q0), (1, .int x0), (2, .int x1)]) hx hb dX5_taken_43 hl (by decide) rfl (fun ls hl => ?_)
          refine lv_iload hx hb dX5_taken_45 (lv_at hl 0 rfl) ?_
          refine lv_iconst (v := 2) hx hb dX5_taken_47 rfl ?_
          refine lv_icmp_ne (tgt := 54) hx hb dX5_taken_48 (by decide) (fun c11 => ?_) (fun c11 => ?_)
          · replace hf := if_fe c11 hf
            refine lv_iload_n hx hb dX5_taken_54 rfl (lv_at hl 2 rfl) ?_
            refine lv_if_eq (tgt := 87) hx hb dX5_taken_55 (by decide) (fun c12 => ?_) (fun c12 => ?_)
            · replace hf := if_te c12 hf
              refine lv_iload hx hb dX5_taken_87 (lv_at hl 0 rfl) ?_
              refine lv_if_ne (tgt := 120) hx hb dX5_taken_89 (by decide) (fun c13 => ?_) (fun c13 => ?_)
              · replace hf := if_fe c13 hf
                refine lv_bipush (v := (-13)) hx hb dX5_taken_120 rfl ?_
                cases hf
                exact kri hQ hAe hx hb hr hlocks hP hD hK hS dX5_taken_122
              · replace hf := if_te c13 hf
                refine lv_aload_n hx hb dX5_taken_92 rfl (lv_at hl 3 rfl) ?_
                refine va_get (D := D) (ci := 5) (v := .ref qn0) (C := RX5) (T := TX5) (N := 11) hx hb hts hi_RX5 hown hK hP 0 rfl rfl 0 (by decide) (hts (.fieldLink RX5 10 "TravelMarks" "now" "LTravelMarks$Port;") (List.mem_of_getElem? (i := 4) rfl)) (fun _ h9 => h9) rfl dX5_taken_93 ?_
                refine va_get (D := D) (ci := 1) (v := .ref qn2) (C := RX1) (T := TX1) (N := 10) hx hb hts hi_RX1 hown hK hP 1 rfl rfl 1 (by decide) (hts (.fieldLink RX5 114 "TravelMarks$Port" "kind" "[I") (List.mem_of_getElem? (i := 5) rfl)) (fun _ h9 => h9) rfl dX5_taken_96 ?_
                refine lv_aload hx hb dX5_taken_99 (lv_at hl 1 rfl) ?_
                refine va_get (D := D) (ci := 3) (v := .int (sfNumber (shelves 0))) (C := RX3) (T := TX3) (N := 4) hx hb hts hi_RX3 hown hK hP 9 rfl rfl 1 (by decide) (hts (.fieldLink RX5 282 "TravelMarks$Shelf" "number" "I") (List.mem_of_getElem? (i := 6) rfl)) (fun _ h9 => h9) rfl dX5_taken_101 ?_
                obtain ⟨y15, ey15, hi14, hf⟩ := rdA_x hf
                refine va_iald hx hb hK hP 3 0 rfl rfl hi14 dX5_taken_104 ?_
                refine lv_ren ey15 ?_
                refine lv_iload_n hx hb dX5_taken_105 rfl (lv_at hl 5 rfl) ?_
                obtain ⟨r16, h17, hf⟩ := ob1_e hf
                refine kcz (Wx := (oTM q0 qn0 qk0 qr0 qc0 qt0 qd0 qs0 qf0 qw0 rowCount anyKept (oPort C qn0 qn1 qn2 qn3 qn4 qn5 qn6 now (oShelves C qf0 qf1 qf2 qf3 qf4 shelves [])))) (va_runS (As := [.int y15, .int x1]) (rest := []) ⟨hx, hb, hml, hown, hts⟩ (c_X5_isUnder l E D C H.size N y15 x1 r16 h17) (va_cwS 2 hts gX5_taken_X5_isUnder rfl rfl rfl hdX5_isUnder ⟨Nat.le_of_ble_eq_true rfl, Nat.le_of_ble_eq_true rfl⟩) (kpre hP hD hK hS hE hA [] rfl rfl) rfl rfl hl.1 rfl (lv_room (Nat.le_of_ble_eq_true rfl)) dX5_taken_106 ⟨Nat.zero_le _, Nat.zero_le _⟩) hP hD hS hA [] rfl rfl rfl (fun H locs hz18 hP hD hS => ?_)
                refine lv_if_eq (tgt := 120) hx hb dX5_taken_109 (by decide) (fun c19 => ?_) (fun c19 => ?_)
                · replace hf := if_te c19 hf
                  refine lv_bipush (v := (-13)) hx hb dX5_taken_120 rfl ?_
                  cases hf
                  exact kri hQ hAe hx hb hr hlocks hP hD hK hS dX5_taken_122
                · replace hf := if_fe c19 hf
                  refine lv_aload hx hb dX5_taken_112 (lv_at hl 1 rfl) ?_
                  refine va_get (D := D) (ci := 3) (v := .int (sfNumber (shelves 0))) (C := RX3) (T := TX3) (N := 4) hx hb hts hi_RX3 hown hK hP 9 rfl rfl 1 (by decide) (hts (.fieldLink RX5 282 "TravelMarks$Shelf" "number" "I") (List.mem_of_getElem? (i := 6) rfl)) (fun _ h9 => h9) rfl dX5_taken_114 ?_
                  refine lv_goto (tgt := 122) hx hb dX5_taken_117 (by decide) ?_
                  obtain ⟨t20, et20, hf⟩ := lj_e hf
                  refine lv_ren et20 ?_
                  cases hf
                  exact kri hQ hAe hx hb hr hlocks hP hD hK hS dX5_taken_122
            · replace hf := if_fe c12 hf
              refine lv_iload hx hb dX5_taken_58 (lv_at hl 0 rfl) ?_
              refine lv_iconst (v := 1) hx hb dX5_taken_60 rfl ?_
              refine lv_icmp_ne (tgt := 84) hx hb dX5_taken_61 (by decide) (fun c21 => ?_) (fun c21 => ?_)
              · replace hf := if_fe c21 hf
                refine lv_bipush (v := (-13)) hx hb dX5_taken_84 rfl ?_
                cases hf
                exact kri hQ hAe hx hb hr hlocks hP hD hK hS dX5_taken_86
              · replace hf := if_te c21 hf
                refine lv_aload hx hb dX5_taken_64 (lv_at hl 1 rfl) ?_
                refine va_get (D := D) (ci := 3) (v := .int (sfSort (shelves 0))) (C := RX3) (T := TX3) (N := 4) hx hb hts hi_RX3 hown hK hP 9 rfl rfl 2 (by decide) (hts (.fieldLink RX5 280 "TravelMarks$Shelf" "sort" "I") (List.mem_of_getElem? (i := 2) rfl)) (fun _ h9 => h9) rfl dX5_taken_66 ?_
                refine lv_iload_n hx hb dX5_taken_69 rfl (lv_at hl 5 rfl) ?_
                refine lv_bipush (v := 10) hx hb dX5_taken_70 rfl ?_
                refine lv_isub hx hb dX5_taken_72 ?_
                refine lv_icmp_ne (tgt := 84) hx hb dX5_taken_73 (by decide) (fun c22 => ?_) (fun c22 => ?_)
                · replace hf := if_fe c22 hf
                  refine lv_bipush (v := (-13)) hx hb dX5_taken_84 rfl ?_
                  cases hf
                  exact kri hQ hAe hx hb hr hlocks hP hD hK hS dX5_taken_86
                · replace hf := if_te c22 hf
                  refine lv_aload hx hb dX5_taken_76 (lv_at hl 1 rfl) ?_
                  refine va_get (D := D) (ci := 3) (v := .int (sfSize (shelves 0))) (C := RX3) (T := TX3) (N := 4) hx hb hts hi_RX3 hown hK hP 9 rfl rfl 3 (by decide) (hts (.fieldLink RX5 281 "TravelMarks$Shelf" "size" "I") (List.mem_of_getElem? (i := 3) rfl)) (fun _ h9 => h9) rfl dX5_taken_78 ?_
                  refine lv_goto (tgt := 86) hx hb dX5_taken_81 (by decide) ?_
                  obtain ⟨t23, et23, hf⟩ := lj_e hf
                  refine lv_ren et23 ?_
                  cases hf
                  exact kri hQ hAe hx hb hr hlocks hP hD hK hS dX5_taken_86
          · replace hf := if_te c11 hf
            refine lv_bipush (v := (-11)) hx hb dX5_taken_51 rfl ?_
            cases hf
            exact kri hQ hAe hx hb hr hlocks hP hD hK hS dX5_taken_53
        · rw [e4_9] at eo8
          subst eo8
          try rw [e4_9] at hf
          refine va_aldq hx hb hK hP 8 4 rfl rfl hi7 dX5_taken_34 ?_
          rw [e4_9]
          refine lv_renV (v := .ref qf2) rfl ?_
          refine lv_astore (lv' := [(4, .ref qf2), (3, .int t2), (0, .ref q0), (1, .int x0), (2, .int x1)]) hx hb dX5_taken_35 hl (by decide) rfl (fun ls hl => ?_)
          refine lv_aload_n hx hb dX5_taken_37 rfl (lv_at hl 2 rfl) ?_
          refine lv_aload hx hb dX5_taken_38 (lv_at hl 0 rfl) ?_
          refine kci (Wx := (oTM q0 qn0 qk0 qr0 qc0 qt0 qd0 qs0 qf0 qw0 rowCount anyKept (oPort C qn0 qn1 qn2 qn3 qn4 qn5 qn6 now (oShelves C qf0 qf1 qf2 qf3 qf4 shelves [])))) (va_runV (As := [.ref qf2]) (rest := []) ⟨hx, hb, hml, hown, hts⟩ (c_X5_heldBy l E D C q0 qn0 qk0 qr0 qc0 qt0 qd0 qs0 qf0 qw0 qn1 qn2 qn3 qn4 qn5 qn6 qf2 H.size rowCount anyKept now (shelves 1) _ rfl) (cwV 1 hts gX5_taken_X5_heldBy rfl rfl rfl hdX5_heldBy ⟨Nat.le_of_ble_eq_true rfl, Nat.le_of_ble_eq_true rfl⟩) (kpreV hP hD hK hS hE hA [0, 1, 2, 3, 4, 5, 6, 7, 10] rfl rfl 0 rfl rfl rfl) rfl rfl hl.1 rfl (lv_room (Nat.le_of_ble_eq_true rfl)) dX5_taken_40 ⟨Nat.zero_le _, Nat.zero_le _⟩) hP hD hS hA [0, 1, 2, 3, 4, 5, 6, 7, 10] rfl rfl rfl (fun H locs hP hD hS => ?_)
          obtain ⟨t10, et10, hf⟩ := lj_e hf
          refine lv_ren et10 ?_
          refine lv_istore (lv' := [(5, .int t10), (4, .ref qf2), (3, .int t2), (0, .ref q0), (1, .int x0), (2, .int x1)]) hx hb dX5_taken_43 hl (by decide) rfl (fun ls hl => ?_)
          refine lv_iload hx hb dX5_taken_45 (lv_at hl 0 rfl) ?_
          refine lv_iconst (v := 2) hx hb dX5_taken_47 rfl ?_
          refine lv_icmp_ne (tgt := 54) hx hb dX5_taken_48 (by decide) (fun c11 => ?_) (fun c11 => ?_)
          · replace hf := if_fe c11 hf
            refine lv_iload_n hx hb dX5_taken_54 rfl (lv_at hl 2 rfl) ?_
            refine lv_if_eq (tgt := 87) hx hb dX5_taken_55 (by decide) (fun c12 => ?_) (fun c12 => ?_)
            · replace hf := if_te c12 hf
              refine lv_iload hx hb dX5_taken_87 (lv_at hl 0 rfl) ?_
              refine lv_if_ne (tgt := 120) hx hb dX5_taken_89 (by decide) (fun c13 => ?_) (fun c13 => ?_)
              · replace hf := if_fe c13 hf
                refine lv_bipush (v := (-13)) hx hb dX5_taken_120 rfl ?_
                cases hf
                exact kri hQ hAe hx hb hr hlocks hP hD hK hS dX5_taken_122
              · replace hf := if_te c13 hf
                refine lv_aload_n hx hb dX5_taken_92 rfl (lv_at hl 3 rfl) ?_
                refine va_get (D := D) (ci := 5) (v := .ref qn0) (C := RX5) (T := TX5) (N := 11) hx hb hts hi_RX5 hown hK hP 0 rfl rfl 0 (by decide) (hts (.fieldLink RX5 10 "TravelMarks" "now" "LTravelMarks$Port;") (List.mem_of_getElem? (i := 4) rfl)) (fun _ h9 => h9) rfl dX5_taken_93 ?_
                refine va_get (D := D) (ci := 1) (v := .ref qn2) (C := RX1) (T := TX1) (N := 10) hx hb hts hi_RX1 hown hK hP 1 rfl rfl 1 (by decide) (hts (.fieldLink RX5 114 "TravelMarks$Port" "kind" "[I") (List.mem_of_getElem? (i := 5) rfl)) (fun _ h9 => h9) rfl dX5_taken_96 ?_
                refine lv_aload hx hb dX5_taken_99 (lv_at hl 1 rfl) ?_
                refine va_get (D := D) (ci := 3) (v := .int (sfNumber (shelves 1))) (C := RX3) (T := TX3) (N := 4) hx hb hts hi_RX3 hown hK hP 10 rfl rfl 1 (by decide) (hts (.fieldLink RX5 282 "TravelMarks$Shelf" "number" "I") (List.mem_of_getElem? (i := 6) rfl)) (fun _ h9 => h9) rfl dX5_taken_101 ?_
                obtain ⟨y15, ey15, hi14, hf⟩ := rdA_x hf
                refine va_iald hx hb hK hP 3 0 rfl rfl hi14 dX5_taken_104 ?_
                refine lv_ren ey15 ?_
                refine lv_iload_n hx hb dX5_taken_105 rfl (lv_at hl 5 rfl) ?_
                obtain ⟨r16, h17, hf⟩ := ob1_e hf
                refine kcz (Wx := (oTM q0 qn0 qk0 qr0 qc0 qt0 qd0 qs0 qf0 qw0 rowCount anyKept (oPort C qn0 qn1 qn2 qn3 qn4 qn5 qn6 now (oShelves C qf0 qf1 qf2 qf3 qf4 shelves [])))) (va_runS (As := [.int y15, .int x1]) (rest := []) ⟨hx, hb, hml, hown, hts⟩ (c_X5_isUnder l E D C H.size N y15 x1 r16 h17) (va_cwS 2 hts gX5_taken_X5_isUnder rfl rfl rfl hdX5_isUnder ⟨Nat.le_of_ble_eq_true rfl, Nat.le_of_ble_eq_true rfl⟩) (kpre hP hD hK hS hE hA [] rfl rfl) rfl rfl hl.1 rfl (lv_room (Nat.le_of_ble_eq_true rfl)) dX5_taken_106 ⟨Nat.zero_le _, Nat.zero_le _⟩) hP hD hS hA [] rfl rfl rfl (fun H locs hz18 hP hD hS => ?_)
                refine lv_if_eq (tgt := 120) hx hb dX5_taken_109 (by decide) (fun c19 => ?_) (fun c19 => ?_)
                · replace hf := if_te c19 hf
                  refine lv_bipush (v := (-13)) hx hb dX5_taken_120 rfl ?_
                  cases hf
                  exact kri hQ hAe hx hb hr hlocks hP hD hK hS dX5_taken_122
                · replace hf := if_fe c19 hf
                  refine lv_aload hx hb dX5_taken_112 (lv_at hl 1 rfl) ?_
                  refine va_get (D := D) (ci := 3) (v := .int (sfNumber (shelves 1))) (C := RX3) (T := TX3) (N := 4) hx hb hts hi_RX3 hown hK hP 10 rfl rfl 1 (by decide) (hts (.fieldLink RX5 282 "TravelMarks$Shelf" "number" "I") (List.mem_of_getElem? (i := 6) rfl)) (fun _ h9 => h9) rfl dX5_taken_114 ?_
                  refine lv_goto (tgt := 122) hx hb dX5_taken_117 (by decide) ?_
                  obtain ⟨t20, et20, hf⟩ := lj_e hf
                  refine lv_ren et20 ?_
                  cases hf
                  exact kri hQ hAe hx hb hr hlocks hP hD hK hS dX5_taken_122
            · replace hf := if_fe c12 hf
              refine lv_iload hx hb dX5_taken_58 (lv_at hl 0 rfl) ?_
              refine lv_iconst (v := 1) hx hb dX5_taken_60 rfl ?_
              refine lv_icmp_ne (tgt := 84) hx hb dX5_taken_61 (by decide) (fun c21 => ?_) (fun c21 => ?_)
              · replace hf := if_fe c21 hf
                refine lv_bipush (v := (-13)) hx hb dX5_taken_84 rfl ?_
                cases hf
                exact kri hQ hAe hx hb hr hlocks hP hD hK hS dX5_taken_86
              · replace hf := if_te c21 hf
                refine lv_aload hx hb dX5_taken_64 (lv_at hl 1 rfl) ?_
                refine va_get (D := D) (ci := 3) (v := .int (sfSort (shelves 1))) (C := RX3) (T := TX3) (N := 4) hx hb hts hi_RX3 hown hK hP 10 rfl rfl 2 (by decide) (hts (.fieldLink RX5 280 "TravelMarks$Shelf" "sort" "I") (List.mem_of_getElem? (i := 2) rfl)) (fun _ h9 => h9) rfl dX5_taken_66 ?_
                refine lv_iload_n hx hb dX5_taken_69 rfl (lv_at hl 5 rfl) ?_
                refine lv_bipush (v := 10) hx hb dX5_taken_70 rfl ?_
                refine lv_isub hx hb dX5_taken_72 ?_
                refine lv_icmp_ne (tgt := 84) hx hb dX5_taken_73 (by decide) (fun c22 => ?_) (fun c22 => ?_)
                · replace hf := if_fe c22 hf
                  refine lv_bipush (v := (-13)) hx hb dX5_taken_84 rfl ?_
                  cases hf
                  exact kri hQ hAe hx hb hr hlocks hP hD hK hS dX5_taken_86
                · replace hf := if_te c22 hf
                  refine lv_aload hx hb dX5_taken_76 (lv_at hl 1 rfl) ?_
                  refine va_get (D := D) (ci := 3) (v := .int (sfSize (shelves 1))) (C := RX3) (T := TX3) (N := 4) hx hb hts hi_RX3 hown hK hP 10 rfl rfl 3 (by decide) (hts (.fieldLink RX5 281 "TravelMarks$Shelf" "size" "I") (List.mem_of_getElem? (i := 3) rfl)) (fun _ h9 => h9) rfl dX5_taken_78 ?_
                  refine lv_goto (tgt := 86) hx hb dX5_taken_81 (by decide) ?_
                  obtain ⟨t23, et23, hf⟩ := lj_e hf
                  refine lv_ren et23 ?_
                  cases hf
                  exact kri hQ hAe hx hb hr hlocks hP hD hK hS dX5_taken_86
          · replace hf := if_te c11 hf
            refine lv_bipush (v := (-11)) hx hb dX5_taken_51 rfl ?_
            cases hf
            exact kri hQ hAe hx hb hr hlocks hP hD hK hS dX5_taken_53
        · rw [e4_9] at eo8
          subst eo8
          try rw [e4_9] at hf
          refine va_aldq hx hb hK hP 8 4 rfl rfl hi7 dX5_taken_34 ?_
          rw [e4_9]
          refine lv_renV (v := .ref qf3) rfl ?_
          refine lv_astore (lv' := [(4, .ref qf3), (3, .int t2), (0, .ref q0), (1, .int x0), (2, .int x1)]) hx hb dX5_taken_35 hl (by decide) rfl (fun ls hl => ?_)
          refine lv_aload_n hx hb dX5_taken_37 rfl (lv_at hl 2 rfl) ?_
          refine lv_aload hx hb dX5_taken_38 (lv_at hl 0 rfl) ?_
          refine kci (Wx := (oTM q0 qn0 qk0 qr0 qc0 qt0 qd0 qs0 qf0 qw0 rowCount anyKept (oPort C qn0 qn1 qn2 qn3 qn4 qn5 qn6 now (oShelves C qf0 qf1 qf2 qf3 qf4 shelves [])))) (va_runV (As := [.ref qf3]) (rest := []) ⟨hx, hb, hml, hown, hts⟩ (c_X5_heldBy l E D C q0 qn0 qk0 qr0 qc0 qt0 qd0 qs0 qf0 qw0 qn1 qn2 qn3 qn4 qn5 qn6 qf3 H.size rowCount anyKept now (shelves 2) _ rfl) (cwV 1 hts gX5_taken_X5_heldBy rfl rfl rfl hdX5_heldBy ⟨Nat.le_of_ble_eq_true rfl, Nat.le_of_ble_eq_true rfl⟩) (kpreV hP hD hK hS hE hA [0, 1, 2, 3, 4, 5, 6, 7, 11] rfl rfl 0 rfl rfl rfl) rfl rfl hl.1 rfl (lv_room (Nat.le_of_ble_eq_true rfl)) dX5_taken_40 ⟨Nat.zero_le _, Nat.zero_le _⟩) hP hD hS hA [0, 1, 2, 3, 4, 5, 6, 7, 11] rfl rfl rfl (fun H locs hP hD hS => ?_)
          obtain ⟨t10, et10, hf⟩ := lj_e hf
          refine lv_ren et10 ?_
          refine lv_istore (lv' := [(5, .int t10), (4, .ref qf3), (3, .int t2), (0, .ref q0), (1, .int x0), (2, .int x1)]) hx hb dX5_taken_43 hl (by decide) rfl (fun ls hl => ?_)
          refine lv_iload hx hb dX5_taken_45 (lv_at hl 0 rfl) ?_
          refine lv_iconst (v := 2) hx hb dX5_taken_47 rfl ?_
          refine lv_icmp_ne (tgt := 54) hx hb dX5_taken_48 (by decide) (fun c11 => ?_) (fun c11 => ?_)
          · replace hf := if_fe c11 hf
            refine lv_iload_n hx hb dX5_taken_54 rfl (lv_at hl 2 rfl) ?_
            refine lv_if_eq (tgt := 87) hx hb dX5_taken_55 (by decide) (fun c12 => ?_) (fun c12 => ?_)
            · replace hf := if_te c12 hf
              refine lv_iload hx hb dX5_taken_87 (lv_at hl 0 rfl) ?_
              refine lv_if_ne (tgt := 120) hx hb dX5_taken_89 (by decide) (fun c13 => ?_) (fun c13 => ?_)
              · replace hf := if_fe c13 hf
                refine lv_bipush (v := (-13)) hx hb dX5_taken_120 rfl ?_
                cases hf
                exact kri hQ hAe hx hb hr hlocks hP hD hK hS dX5_taken_122
              · replace hf := if_te c13 hf
                refine lv_aload_n hx hb dX5_taken_92 rfl (lv_at hl 3 rfl) ?_
                refine va_get (D := D) (ci := 5) (v := .ref qn0) (C := RX5) (T := TX5) (N := 11) hx hb hts hi_RX5 hown hK hP 0 rfl rfl 0 (by decide) (hts (.fieldLink RX5 10 "TravelMarks" "now" "LTravelMarks$Port;") (List.mem_of_getElem? (i := 4) rfl)) (fun _ h9 => h9) rfl dX5_taken_93 ?_
                refine va_get (D := D) (ci := 1) (v := .ref qn2) (C := RX1) (T := TX1) (N := 10) hx hb hts hi_RX1 hown hK hP 1 rfl rfl 1 (by decide) (hts (.fieldLink RX5 114 "TravelMarks$Port" "kind" "[I") (List.mem_of_getElem? (i := 5) rfl)) (fun _ h9 => h9) rfl dX5_taken_96 ?_
                refine lv_aload hx hb dX5_taken_99 (lv_at hl 1 rfl) ?_
                refine va_get (D := D) (ci := 3) (v := .int (sfNumber (shelves 2))) (C := RX3) (T := TX3) (N := 4) hx hb hts hi_RX3 hown hK hP 11 rfl rfl 1 (by decide) (hts (.fieldLink RX5 282 "TravelMarks$Shelf" "number" "I") (List.mem_of_getElem? (i := 6) rfl)) (fun _ h9 => h9) rfl dX5_taken_101 ?_
                obtain ⟨y15, ey15, hi14, hf⟩ := rdA_x hf
                refine va_iald hx hb hK hP 3 0 rfl rfl hi14 dX5_taken_104 ?_
                refine lv_ren ey15 ?_
                refine lv_iload_n hx hb dX5_taken_105 rfl (lv_at hl 5 rfl) ?_
                obtain ⟨r16, h17, hf⟩ := ob1_e hf
                refine kcz (Wx := (oTM q0 qn0 qk0 qr0 qc0 qt0 qd0 qs0 qf0 qw0 rowCount anyKept (oPort C qn0 qn1 qn2 qn3 qn4 qn5 qn6 now (oShelves C qf0 qf1 qf2 qf3 qf4 shelves [])))) (va_runS (As := [.int y15, .int x1]) (rest := []) ⟨hx, hb, hml, hown, hts⟩ (c_X5_isUnder l E D C H.size N y15 x1 r16 h17) (va_cwS 2 hts gX5_taken_X5_isUnder rfl rfl rfl hdX5_isUnder ⟨Nat.le_of_ble_eq_true rfl, Nat.le_of_ble_eq_true rfl⟩) (kpre hP hD hK hS hE hA [] rfl rfl) rfl rfl hl.1 rfl (lv_room (Nat.le_of_ble_eq_true rfl)) dX5_taken_106 ⟨Nat.zero_le _, Nat.zero_le _⟩) hP hD hS hA [] rfl rfl rfl (fun H locs hz18 hP hD hS => ?_)
                refine lv_if_eq (tgt := 120) hx hb dX5_taken_109 (by decide) (fun c19 => ?_) (fun c19 => ?_)
                · replace hf := if_te c19 hf
                  refine lv_bipush (v := (-13)) hx hb dX5_taken_120 rfl ?_
                  cases hf
                  exact kri hQ hAe hx hb hr hlocks hP hD hK hS dX5_taken_122
                · replace hf := if_fe c19 hf
                  refine lv_aload hx hb dX5_taken_112 (lv_at hl 1 rfl) ?_
                  refine va_get (D := D) (ci := 3) (v := .int (sfNumber (shelves 2))) (C := RX3) (T := TX3) (N := 4) hx hb hts hi_RX3 hown hK hP 11 rfl rfl 1 (by decide) (hts (.fieldLink RX5 282 "TravelMarks$Shelf" "number" "I") (List.mem_of_getElem? (i := 6) rfl)) (fun _ h9 => h9) rfl dX5_taken_114 ?_
                  refine lv_goto (tgt := 122) hx hb dX5_taken_117 (by decide) ?_
                  obtain ⟨t20, et20, hf⟩ := lj_e hf
                  refine lv_ren et20 ?_
                  cases hf
                  exact kri hQ hAe hx hb hr hlocks hP hD hK hS dX5_taken_122
            · replace hf := if_fe c12 hf
              refine lv_iload hx hb dX5_taken_58 (lv_at hl 0 rfl) ?_
              refine lv_iconst (v := 1) hx hb dX5_taken_60 rfl ?_
              refine lv_icmp_ne (tgt := 84) hx hb dX5_taken_61 (by decide) (fun c21 => ?_) (fun c21 => ?_)
              · replace hf := if_fe c21 hf
                refine lv_bipush (v := (-13)) hx hb dX5_taken_84 rfl ?_
                cases hf
                exact kri hQ hAe hx hb hr hlocks hP hD hK hS dX5_taken_86
              · replace hf := if_te c21 hf
                refine lv_aload hx hb dX5_taken_64 (lv_at hl 1 rfl) ?_
                refine va_get (D := D) (ci := 3) (v := .int (sfSort (shelves 2))) (C := RX3) (T := TX3) (N := 4) hx hb hts hi_RX3 hown hK hP 11 rfl rfl 2 (by decide) (hts (.fieldLink RX5 280 "TravelMarks$Shelf" "sort" "I") (List.mem_of_getElem? (i := 2) rfl)) (fun _ h9 => h9) rfl dX5_taken_66 ?_
                refine lv_iload_n hx hb dX5_taken_69 rfl (lv_at hl 5 rfl) ?_
                refine lv_bipush (v := 10) hx hb dX5_taken_70 rfl ?_
                refine lv_isub hx hb dX5_taken_72 ?_
                refine lv_icmp_ne (tgt := 84) hx hb dX5_taken_73 (by decide) (fun c22 => ?_) (fun c22 => ?_)
                · replace hf := if_fe c22 hf
                  refine lv_bipush (v := (-13)) hx hb dX5_taken_84 rfl ?_
                  cases hf
                  exact kri hQ hAe hx hb hr hlocks hP hD hK hS dX5_taken_86
                · replace hf := if_te c22 hf
                  refine lv_aload hx hb dX5_taken_76 (lv_at hl 1 rfl) ?_
                  refine va_get (D := D) (ci := 3) (v := .int (sfSize (shelves 2))) (C := RX3) (T := TX3) (N := 4) hx hb hts hi_RX3 hown hK hP 11 rfl rfl 3 (by decide) (hts (.fieldLink RX5 281 "TravelMarks$Shelf" "size" "I") (List.mem_of_getElem? (i := 3) rfl)) (fun _ h9 => h9) rfl dX5_taken_78 ?_
                  refine lv_goto (tgt := 86) hx hb dX5_taken_81 (by decide) ?_
                  obtain ⟨t23, et23, hf⟩ := lj_e hf
                  refine lv_ren et23 ?_
                  cases hf
                  exact kri hQ hAe hx hb hr hlocks hP hD hK hS dX5_taken_86
          · replace hf := if_te c11 hf
            refine lv_bipush (v := (-11)) hx hb dX5_taken_51 rfl ?_
            cases hf
            exact kri hQ hAe hx hb hr hlocks hP hD hK hS dX5_taken_53
        · rw [e4_9] at eo8
          subst eo8
          try rw [e4_9] at hf
          refine va_aldq hx hb hK hP 8 4 rfl rfl hi7 dX5_taken_34 ?_
          rw [e4_9]
          refine lv_renV (v := .ref qf4) rfl ?_
          refine lv_astore (lv' := [(4, .ref qf4), (3, .int t2), (0, .ref q0), (1, .int x0), (2, .int x1)]) hx hb dX5_taken_35 hl (by decide) rfl (fun ls hl => ?_)
          refine lv_aload_n hx hb dX5_taken_37 rfl (lv_at hl 2 rfl) ?_
          refine lv_aload hx hb dX5_taken_38 (lv_at hl 0 rfl) ?_
          refine kci (Wx := (oTM q0 qn0 qk0 qr0 qc0 qt0 qd0 qs0 qf0 qw0 rowCount anyKept (oPort C qn0 qn1 qn2 qn3 qn4 qn5 qn6 now (oShelves C qf0 qf1 qf2 qf3 qf4 shelves [])))) (va_runV (As := [.ref qf4]) (rest := []) ⟨hx, hb, hml, hown, hts⟩ (c_X5_heldBy l E D C q0 qn0 qk0 qr0 qc0 qt0 qd0 qs0 qf0 qw0 qn1 qn2 qn3 qn4 qn5 qn6 qf4 H.size rowCount anyKept now (shelves 3) _ rfl) (cwV 1 hts gX5_taken_X5_heldBy rfl rfl rfl hdX5_heldBy ⟨Nat.le_of_ble_eq_true rfl, Nat.le_of_ble_eq_true rfl⟩) (kpreV hP hD hK hS hE hA [0, 1, 2, 3, 4, 5, 6, 7, 12] rfl rfl 0 rfl rfl rfl) rfl rfl hl.1 rfl (lv_room (Nat.le_of_ble_eq_true rfl)) dX5_taken_40 ⟨Nat.zero_le _, Nat.zero_le _⟩) hP hD hS hA [0, 1, 2, 3, 4, 5, 6, 7, 12] rfl rfl rfl (fun H locs hP hD hS => ?_)
          obtain ⟨t10, et10, hf⟩ := lj_e hf
          refine lv_ren et10 ?_
          refine lv_istore (lv' := [(5, .int t10), (4, .ref qf4), (3, .int t2), (0, .ref q0), (1, .int x0), (2, .int x1)]) hx hb dX5_taken_43 hl (by decide) rfl (fun ls hl => ?_)
          refine lv_iload hx hb dX5_taken_45 (lv_at hl 0 rfl) ?_
          refine lv_iconst (v := 2) hx hb dX5_taken_47 rfl ?_
          refine lv_icmp_ne (tgt := 54) hx hb dX5_taken_48 (by decide) (fun c11 => ?_) (fun c11 => ?_)
          · replace hf := if_fe c11 hf
            refine lv_iload_n hx hb dX5_taken_54 rfl (lv_at hl 2 rfl) ?_
            refine lv_if_eq (tgt := 87) hx hb dX5_taken_55 (by decide) (fun c12 => ?_) (fun c12 => ?_)
            · replace hf := if_te c12 hf
              refine lv_iload hx hb dX5_taken_87 (lv_at hl 0 rfl) ?_
              refine lv_if_ne (tgt := 120) hx hb dX5_taken_89 (by decide) (fun c13 => ?_) (fun c13 => ?_)
              · replace hf := if_fe c13 hf
                refine lv_bipush (v := (-13)) hx hb dX5_taken_120 rfl ?_
                cases hf
                exact kri hQ hAe hx hb hr hlocks hP hD hK hS dX5_taken_122
              · replace hf := if_te c13 hf
                refine lv_aload_n hx hb dX5_taken_92 rfl (lv_at hl 3 rfl) ?_
                refine va_get (D := D) (ci := 5) (v := .ref qn0) (C := RX5) (T := TX5) (N := 11) hx hb hts hi_RX5 hown hK hP 0 rfl rfl 0 (by decide) (hts (.fieldLink RX5 10 "TravelMarks" "now" "LTravelMarks$Port;") (List.mem_of_getElem? (i := 4) rfl)) (fun _ h9 => h9) rfl dX5_taken_93 ?_
                refine va_get (D := D) (ci := 1) (v := .ref qn2) (C := RX1) (T := TX1) (N := 10) hx hb hts hi_RX1 hown hK hP 1 rfl rfl 1 (by decide) (hts (.fieldLink RX5 114 "TravelMarks$Port" "kind" "[I") (List.mem_of_getElem? (i := 5) rfl)) (fun _ h9 => h9) rfl dX5_taken_96 ?_
                refine lv_aload hx hb dX5_taken_99 (lv_at hl 1 rfl) ?_
                refine va_get (D := D) (ci := 3) (v := .int (sfNumber (shelves 3))) (C := RX3) (T := TX3) (N := 4) hx hb hts hi_RX3 hown hK hP 12 rfl rfl 1 (by decide) (hts (.fieldLink RX5 282 "TravelMarks$Shelf" "number" "I") (List.mem_of_getElem? (i := 6) rfl)) (fun _ h9 => h9) rfl dX5_taken_101 ?_
                obtain ⟨y15, ey15, hi14, hf⟩ := rdA_x hf
                refine va_iald hx hb hK hP 3 0 rfl rfl hi14 dX5_taken_104 ?_
                refine lv_ren ey15 ?_
                refine lv_iload_n hx hb dX5_taken_105 rfl (lv_at hl 5 rfl) ?_
                obtain ⟨r16, h17, hf⟩ := ob1_e hf
                refine kcz (Wx := (oTM q0 qn0 qk0 qr0 qc0 qt0 qd0 qs0 qf0 qw0 rowCount anyKept (oPort C qn0 qn1 qn2 qn3 qn4 qn5 qn6 now (oShelves C qf0 qf1 qf2 qf3 qf4 shelves [])))) (va_runS (As := [.int y15, .int x1]) (rest := []) ⟨hx, hb, hml, hown, hts⟩ (c_X5_isUnder l E D C H.size N y15 x1 r16 h17) (va_cwS 2 hts gX5_taken_X5_isUnder rfl rfl rfl hdX5_isUnder ⟨Nat.le_of_ble_eq_true rfl, Nat.le_of_ble_eq_true rfl⟩) (kpre hP hD hK hS hE hA [] rfl rfl) rfl rfl hl.1 rfl (lv_room (Nat.le_of_ble_eq_true rfl)) dX5_taken_106 ⟨Nat.zero_le _, Nat.zero_le _⟩) hP hD hS hA [] rfl rfl rfl (fun H locs hz18 hP hD hS => ?_)
                refine lv_if_eq (tgt := 120) hx hb dX5_taken_109 (by decide) (fun c19 => ?_) (fun c19 => ?_)
                · replace hf := if_te c19 hf
                  refine lv_bipush (v := (-13)) hx hb dX5_taken_120 rfl ?_
                  cases hf
                  exact kri hQ hAe hx hb hr hlocks hP hD hK hS dX5_taken_122
                · replace hf := if_fe c19 hf
                  refine lv_aload hx hb dX5_taken_112 (lv_at hl 1 rfl) ?_
                  refine va_get (D := D) (ci := 3) (v := .int (sfNumber (shelves 3))) (C := RX3) (T := TX3) (N := 4) hx hb hts hi_RX3 hown hK hP 12 rfl rfl 1 (by decide) (hts (.fieldLink RX5 282 "TravelMarks$Shelf" "number" "I") (List.mem_of_getElem? (i := 6) rfl)) (fun _ h9 => h9) rfl dX5_taken_114 ?_
                  refine lv_goto (tgt := 122) hx hb dX5_taken_117 (by decide) ?_
                  obtain ⟨t20, et20, hf⟩ := lj_e hf
                  refine lv_ren et20 ?_
                  cases hf
                  exact kri hQ hAe hx hb hr hlocks hP hD hK hS dX5_taken_122
            · replace hf := if_fe c12 hf
              refine lv_iload hx hb dX5_taken_58 (lv_at hl 0 rfl) ?_
              refine lv_iconst (v := 1) hx hb dX5_taken_60 rfl ?_
              refine lv_icmp_ne (tgt := 84) hx hb dX5_taken_61 (by decide) (fun c21 => ?_) (fun c21 => ?_)
              · replace hf := if_fe c21 hf
                refine lv_bipush (v := (-13)) hx hb dX5_taken_84 rfl ?_
                cases hf
                exact kri hQ hAe hx hb hr hlocks hP hD hK hS dX5_taken_86
              · replace hf := if_te c21 hf
                refine lv_aload hx hb dX5_taken_64 (lv_at hl 1 rfl) ?_
                refine va_get (D := D) (ci := 3) (v := .int (sfSort (shelves 3))) (C := RX3) (T := TX3) (N := 4) hx hb hts hi_RX3 hown hK hP 12 rfl rfl 2 (by decide) (hts (.fieldLink RX5 280 "TravelMarks$Shelf" "sort" "I") (List.mem_of_getElem? (i := 2) rfl)) (fun _ h9 => h9) rfl dX5_taken_66 ?_
                refine lv_iload_n hx hb dX5_taken_69 rfl (lv_at hl 5 rfl) ?_
                refine lv_bipush (v := 10) hx hb dX5_taken_70 rfl ?_
                refine lv_isub hx hb dX5_taken_72 ?_
                refine lv_icmp_ne (tgt := 84) hx hb dX5_taken_73 (by decide) (fun c22 => ?_) (fun c22 => ?_)
                · replace hf := if_fe c22 hf
                  refine lv_bipush (v := (-13)) hx hb dX5_taken_84 rfl ?_
                  cases hf
                  exact kri hQ hAe hx hb hr hlocks hP hD hK hS dX5_taken_86
                · replace hf := if_te c22 hf
                  refine lv_aload hx hb dX5_taken_76 (lv_at hl 1 rfl) ?_
                  refine va_get (D := D) (ci := 3) (v := .int (sfSize (shelves 3))) (C := RX3) (T := TX3) (N := 4) hx hb hts hi_RX3 hown hK hP 12 rfl rfl 3 (by decide) (hts (.fieldLink RX5 281 "TravelMarks$Shelf" "size" "I") (List.mem_of_getElem? (i := 3) rfl)) (fun _ h9 => h9) rfl dX5_taken_78 ?_
                  refine lv_goto (tgt := 86) hx hb dX5_taken_81 (by decide) ?_
                  obtain ⟨t23, et23, hf⟩ := lj_e hf
                  refine lv_ren et23 ?_
                  cases hf
                  exact kri hQ hAe hx hb hr hlocks hP hD hK hS dX5_taken_86
          · replace hf := if_te c11 hf
            refine lv_bipush (v := (-11)) hx hb dX5_taken_51 rfl ?_
            cases hf
            exact kri hQ hAe hx hb hr hlocks hP hD hK hS dX5_taken_53
      refine lv_if_ne (tgt := 29) hx hb dX5_taken_20 (by decide) (fun c24 => ?_) (fun c24 => ?_)
      · replace hf := if_fe c24 hf
        exact Hj6 H locs ls hP hD hS (lv_sub hl [0, 1, 2, 3] rfl) hf
      · replace hf := if_te c24 hf
        refine lv_iload_n hx hb dX5_taken_23 rfl (lv_at hl 0 rfl) ?_
        refine lv_if_ne (tgt := 29) hx hb dX5_taken_24 (by decide) (fun c25 => ?_) (fun c25 => ?_)
        · replace hf := if_fe c25 hf
          exact Hj6 H locs ls hP hD hS (lv_sub hl [0, 1, 2, 3] rfl) hf
        · replace hf := if_te c25 hf
          refine lv_iconst (v := (-1)) hx hb dX5_taken_27 rfl ?_
          cases hf
          exact kri hQ hAe hx hb hr hlocks hP hD hK hS dX5_taken_28
  exact main _ _ hP hD hS

def rmX5_act : Room := { frames := 17, cells := 0, slots := 0, locals := 468 }
theorem hdX5_act : yX5_act.cls = RX5 ∧ yX5_act.cls ≠ "java/lang/invoke/MethodHandle" ∧ yX5_act.cls ≠ "java/lang/invoke/VarHandle" ∧ (parseMethodDescriptor yX5_act.desc).map (fun d => d.parameters.length) = some 3 := by decide +kernel
set_option maxHeartbeats 40000000 in
set_option maxRecDepth 100000 in
theorem c_X5_act (l : Launch) (E : Nat → Nat) (D : va_G) (C : Nat → ClassId) (q0 qn0 qk0 qr0 qc0 qt0 qd0 qs0 qf0 qw0 qn1 qn2 qn3 qn4 qn5 qn6 qd1 qf1 qf2 qf3 qf4 : Nat) (sz : Nat) (N : Nat) (rowCount : Int32) (anyKept : Int32) (now : PV) (deed : DV) (shelves : Nat → FV) (x0 : Int32) (x1 : Int32) (x2 : Int32) (r : Int32) (deed' : DV) (hf : f_X5_act N now deed shelves x0 x1 x2 = some (r, deed')) : Met l yX5_act wsX5_act rmX5_act (PC E D C [.ref q0, .int x0, .int x1, .int x2] (oTM q0 qn0 qk0 qr0 qc0 qt0 qd0 qs0 qf0 qw0 rowCount anyKept (oPort C qn0 qn1 qn2 qn3 qn4 qn5 qn6 now (oDeed C qd0 qd1 deed (oShelves C qf0 qf1 qf2 qf3 qf4 shelves [])))) sz) (QI D C (oTM q0 qn0 qk0 qr0 qc0 qt0 qd0 qs0 qf0 qw0 rowCount anyKept (oPort C qn0 qn1 qn2 qn3 qn4 qn5 qn6 now (oDeed C qd0 qd1 deed (oShelves C qf0 qf1 qf2 qf3 qf4 shelves [])))) (oTM q0 qn0 qk0 qr0 qc0 qt0 qd0 qs0 qf0 qw0 rowCount anyKept (oPort C qn0 qn1 qn2 qn3 qn4 qn5 qn6 now (oDeed C qd0 qd1 (deed') (oShelves C qf0 qf1 qf2 qf3 qf4 shelves [])))) sz r) 0 0 (va_A (oTM q0 qn0 qk0 qr0 qc0 qt0 qd0 qs0 qf0 qw0 rowCount anyKept (oPort C qn0 qn1 qn2 qn3 qn4 qn5 qn6 now (oDeed C qd0 qd1 deed (oShelves C qf0 qf1 qf2 qf3 qf4 shelves [])))) sz) := by
  refine Met.ofW (cc := cX5_act) (maxL := 5) (ret := (some .int)) (by decide) rfl ?_
  intro p e s m args below meth c s₁ B hml hv
  obtain ⟨rfl, hsz, hP, hK, hD0, hE⟩ := hv
  have hx := B.exec
  have hb := B.bytes
  have hr := B.returns
  have hts := atoms_spec (ws := wsX5_act) B.pre
  have hown : s.vm.findClass RX5 = some m.cls := findClass_of_methodNamed B.named
  have hlocks := B.notSynchronized
  subst hsz
  have hi_RX1 : ∀ w ∈ wsX10, w ∈ wsX5_act := fun _ h => List.mem_cons_of_mem _ (List.mem_append_left _ (List.mem_append_right _ h))
  have hi_RX3 : ∀ w ∈ wsX30, w ∈ wsX5_act := fun _ h => List.mem_cons_of_mem _ (List.mem_append_left _ (List.mem_append_left _ (List.mem_append_right _ h)))
  have hi_RX5 : ∀ w ∈ wsX50, w ∈ wsX5_act := fun _ h => List.mem_cons_of_mem _ (List.mem_append_left _ (List.mem_append_left _ (List.mem_append_left _ (List.mem_append_right _ h))))
  have hD := hD0.self (sz := s.heap.size)
  obtain ⟨A, hAe⟩ := nm_ex (va_A (oTM q0 qn0 qk0 qr0 qc0 qt0 qd0 qs0 qf0 qw0 rowCount anyKept (oPort C qn0 qn1 qn2 qn3 qn4 qn5 qn6 now (oDeed C qd0 qd1 deed (oShelves C qf0 qf1 qf2 qf3 qf4 shelves [])))) s.heap.size)
  rw [← hAe] at hD hE ⊢
  have hA : ∀ q : Nat, s.heap.size ≤ q → A q := fun q h => by rw [hAe]; exact Or.inr h
  have hS : va_S A s.heap s.heap [] := va_S.rf
  have hl := lv_entry ([.ref q0, .int x0, .int x1, .int x2]) (n := 5) (Nat.le_of_ble_eq_true rfl)
  rw [lg_entry_eq]
  generalize (lg_sl ([.ref q0, .int x0, .int x1, .int x2]) ++ List.replicate (5 - (lg_sl ([.ref q0, .int x0, .int x1, .int x2])).length) Slot.unset).toArray = ls at hl ⊢
  have hl : lv_has ls 5 [(0, .ref q0), (1, .int x0), (2, .int x1), (3, .int x2)] := hl
  obtain ⟨Q, hQ⟩ := nm_ex (MQ below (QI D C (oTM q0 qn0 qk0 qr0 qc0 qt0 qd0 qs0 qf0 qw0 rowCount anyKept (oPort C qn0 qn1 qn2 qn3 qn4 qn5 qn6 now (oDeed C qd0 qd1 deed (oShelves C qf0 qf1 qf2 qf3 qf4 shelves [])))) (oTM q0 qn0 qk0 qr0 qc0 qt0 qd0 qs0 qf0 qw0 rowCount anyKept (oPort C qn0 qn1 qn2 qn3 qn4 qn5 qn6 now (oDeed C qd0 qd1 (deed') (oShelves C qf0 qf1 qf2 qf3 qf4 shelves [])))) s.heap.size r) (List.toArray [Value.ref q0, Value.int x0, Value.int x1, Value.int x2]) s 0 0 A)
  show W p l e (headSpec wsX5_act (rmX5_act)).room s m (List.toArray [Value.ref q0, Value.int x0, Value.int x1, Value.int x2]) below meth c s.heap [] 0 0 (MQ below (QI D C (oTM q0 qn0 qk0 qr0 qc0 qt0 qd0 qs0 qf0 qw0 rowCount anyKept (oPort C qn0 qn1 qn2 qn3 qn4 qn5 qn6 now (oDeed C qd0 qd1 deed (oShelves C qf0 qf1 qf2 qf3 qf4 shelves [])))) (oTM q0 qn0 qk0 qr0 qc0 qt0 qd0 qs0 qf0 qw0 rowCount anyKept (oPort C qn0 qn1 qn2 qn3 qn4 qn5 qn6 now (oDeed C qd0 qd1 (deed') (oShelves C qf0 qf1 qf2 qf3 qf4 shelves [])))) s.heap.size r) (List.toArray [Value.ref q0, Value.int x0, Value.int x1, Value.int x2]) s 0 0 A) _
  rw [← hQ]
  unfold f_X5_act at hf
  have main : ∀ (H : Heap) (locs : List Loc), va_P D vwCl (oTM q0 qn0 qk0 qr0 qc0 qt0 qd0 qs0 qf0 qw0 rowCount anyKept (oPort C qn0 qn1 qn2 qn3 qn4 qn5 qn6 now (oDeed C qd0 qd1 deed (oShelves C qf0 qf1 qf2 qf3 qf4 shelves [])))) H → va_D A (oTM q0 qn0 qk0 qr0 qc0 qt0 qd0 qs0 qf0 qw0 rowCount anyKept (oPort C qn0 qn1 qn2 qn3 qn4 qn5 qn6 now (oDeed C qd0 qd1 deed (oShelves C qf0 qf1 qf2 qf3 qf4 shelves [])))) → va_S A s.heap H locs → W p l e (headSpec wsX5_act (rmX5_act)).room s m (List.toArray [Value.ref q0, Value.int x0, Value.int x1, Value.int x2]) below meth c H locs 0 0 Q (F0 m 0 ls []) := by
    intro H locs hP hD hS
    refine lv_aload_n hx hb dX5_act_0 rfl (lv_at hl 0 rfl) ?_
    refine va_get (D := D) (ci := 5) (v := .ref qd0) (C := RX5) (T := TX5) (N := 11) hx hb hts hi_RX5 hown hK hP 0 rfl rfl 5 (by decide) (hts (.fieldLink RX5 35 "TravelMarks" "deed" "LTravelMarks$Deed;") (List.mem_of_getElem? (i := 1) rfl)) (fun _ h9 => h9) rfl dX5_act_1 ?_
    obtain ⟨v1, h2, hf⟩ := ob1_e hf
    refine kcv (Wx := (oTM q0 qn0 qk0 qr0 qc0 qt0 qd0 qs0 qf0 qw0 rowCount anyKept (oPort C qn0 qn1 qn2 qn3 qn4 qn5 qn6 now (oDeed C qd0 qd1 v1 (oShelves C qf0 qf1 qf2 qf3 qf4 shelves []))))) (va_runV (As := []) (rest := []) ⟨hx, hb, hml, hown, hts⟩ (c_X0_forget l E D C qd0 qd1 H.size deed v1 h2) (cwV 0 hts gX5_act_X0_forget rfl rfl rfl hdX0_forget ⟨Nat.le_of_ble_eq_true rfl, Nat.le_of_ble_eq_true rfl⟩) (kpreV hP hD hK hS hE hA [8, 9] rfl rfl 8 rfl rfl rfl) rfl rfl hl.1 rfl (lv_room (Nat.le_of_ble_eq_true rfl)) dX5_act_4 ⟨Nat.zero_le _, Nat.zero_le _⟩) hP hD hS hA [8, 9] rfl rfl rfl (fun H locs hP hD hS => ?_)
    refine lv_iload_n hx hb dX5_act_7 rfl (lv_at hl 1 rfl) ?_
    refine kcz (Wx := (oTM q0 qn0 qk0 qr0 qc0 qt0 qd0 qs0 qf0 qw0 rowCount anyKept (oPort C qn0 qn1 qn2 qn3 qn4 qn5 qn6 now (oDeed C qd0 qd1 v1 (oShelves C qf0 qf1 qf2 qf3 qf4 shelves []))))) (va_runS (As := [.int x0]) (rest := []) ⟨hx, hb, hml, hown, hts⟩ (c_X5_isShelf l E D C H.size x0 _ rfl) (va_cwS 1 hts gX5_act_X5_isShelf rfl rfl rfl hdX5_isShelf ⟨Nat.le_of_ble_eq_true rfl, Nat.le_of_ble_eq_true rfl⟩) (kpre hP hD hK hS hE hA [] rfl rfl) rfl rfl hl.1 rfl (lv_room (Nat.le_of_ble_eq_true rfl)) dX5_act_8 ⟨Nat.zero_le _, Nat.zero_le _⟩) hP hD hS hA [] rfl rfl rfl (fun H locs hz3 hP hD hS => ?_)
    refine lv_if_eq (tgt := 36) hx hb dX5_act_11 (by decide) (fun c4 => ?_) (fun c4 => ?_)
    · replace hf := if_te c4 hf
      refine lv_iconst (v := 0) hx hb dX5_act_36 rfl ?_
      cases hf
      exact kri hQ hAe hx hb hr hlocks hP hD hK hS dX5_act_37
    · replace hf := if_fe c4 hf
      refine lv_iload_n hx hb dX5_act_14 rfl (lv_at hl 2 rfl) ?_
      refine lv_iconst (v := 0) hx hb dX5_act_15 rfl ?_
      refine lv_iconst (v := 3) hx hb dX5_act_16 rfl ?_
      refine kcz (Wx := (oTM q0 qn0 qk0 qr0 qc0 qt0 qd0 qs0 qf0 qw0 rowCount anyKept (oPort C qn0 qn1 qn2 qn3 qn4 qn5 qn6 now (oDeed C qd0 qd1 v1 (oShelves C qf0 qf1 qf2 qf3 qf4 shelves []))))) (va_runS (As := [.int x1, .int 0, .int 3]) (rest := []) ⟨hx, hb, hml, hown, hts⟩ (c_X5_within l E D C H.size x1 0 3 _ rfl) (va_cwS 3 hts gX5_act_X5_within rfl rfl rfl hdX5_within ⟨Nat.le_of_ble_eq_true rfl, Nat.le_of_ble_eq_true rfl⟩) (kpre hP hD hK hS hE hA [] rfl rfl) rfl rfl hl.1 rfl (lv_room (Nat.le_of_ble_eq_true rfl)) dX5_act_17 ⟨Nat.zero_le _, Nat.zero_le _⟩) hP hD hS hA [] rfl rfl rfl (fun H locs hz5 hP hD hS => ?_)
      refine lv_if_eq (tgt := 36) hx hb dX5_act_20 (by decide) (fun c6 => ?_) (fun c6 => ?_)
      · replace hf := if_te c6 hf
        refine lv_iconst (v := 0) hx hb dX5_act_36 rfl ?_
        cases hf
        exact kri hQ hAe hx hb hr hlocks hP hD hK hS dX5_act_37
      · replace hf := if_fe c6 hf
        refine lv_aload_n hx hb dX5_act_23 rfl (lv_at hl 0 rfl) ?_
        refine lv_aload_n hx hb dX5_act_24 rfl (lv_at hl 0 rfl) ?_
        refine va_get (D := D) (ci := 5) (v := .ref qf0) (C := RX5) (T := TX5) (N := 11) hx hb hts hi_RX5 hown hK hP 0 rfl rfl 7 (by decide) (hts (.fieldLink RX5 47 "TravelMarks" "shelves" "[LTravelMarks$Shelf;") (List.mem_of_getElem? (i := 2) rfl)) (fun _ h9 => h9) rfl dX5_act_25 ?_
        refine lv_iload_n hx hb dX5_act_28 rfl (lv_at hl 1 rfl) ?_
        obtain ⟨hi7, hf⟩ := ckA_e hf
        obtain ⟨o8, eo8, hf⟩ := lj_e hf
        rcases four hi7 with e4_9 | e4_9 | e4_9 | e4_9
        · rw [e4_9] at eo8
          subst eo8
          try rw [e4_9] at hf
          refine va_aldq hx hb hK hP 10 4 rfl rfl hi7 dX5_act_29 ?_
          rw [e4_9]
          refine lv_renV (v := .ref qf1) rfl ?_
          refine kci (Wx := (oTM q0 qn0 qk0 qr0 qc0 qt0 qd0 qs0 qf0 qw0 rowCount anyKept (oPort C qn0 qn1 qn2 qn3 qn4 qn5 qn6 now (oDeed C qd0 qd1 v1 (oShelves C qf0 qf1 qf2 qf3 qf4 shelves []))))) (va_runV (As := [.ref qf1]) (rest := []) ⟨hx, hb, hml, hown, hts⟩ (c_X5_heldBy l E D C q0 qn0 qk0 qr0 qc0 qt0 qd0 qs0 qf0 qw0 qn1 qn2 qn3 qn4 qn5 qn6 qf1 H.size rowCount anyKept now (shelves 0) _ rfl) (cwV 1 hts gX5_act_X5_heldBy rfl rfl rfl hdX5_heldBy ⟨Nat.le_of_ble_eq_true rfl, Nat.le_of_ble_eq_true rfl⟩) (kpreV hP hD hK hS hE hA [0, 1, 2, 3, 4, 5, 6, 7, 11] rfl rfl 0 rfl rfl rfl) rfl rfl hl.1 rfl (lv_room (Nat.le_of_ble_eq_true rfl)) dX5_act_30 ⟨Nat.zero_le _, Nat.zero_le _⟩) hP hD hS hA [0, 1, 2, 3, 4, 5, 6, 7, 11] rfl rfl rfl (fun H locs hP hD hS => ?_)
          refine lv_if_eq (tgt := 38) hx hb dX5_act_33 (by decide) (fun c10 => ?_) (fun c10 => ?_)
          · replace hf := if_te c10 hf
            refine lv_aload_n hx hb dX5_act_38 rfl (lv_at hl 0 rfl) ?_
            refine va_get (D := D) (ci := 5) (v := .ref qf0) (C := RX5) (T := TX5) (N := 11) hx hb hts hi_RX5 hown hK hP 0 rfl rfl 7 (by decide) (hts (.fieldLink RX5 47 "TravelMarks" "shelves" "[LTravelMarks$Shelf;") (List.mem_of_getElem? (i := 2) rfl)) (fun _ h9 => h9) rfl dX5_act_39 ?_
            refine lv_iload_n hx hb dX5_act_42 rfl (lv_at hl 1 rfl) ?_
            obtain ⟨hi11, hf⟩ := ckA_e hf
            obtain ⟨o12, eo12, hf⟩ := lj_e hf
            try rw [e4_9] at eo12
            subst eo12
            try rw [e4_9] at hf
            refine va_aldq hx hb hK hP 10 4 rfl rfl hi11 dX5_act_43 ?_
            rw [e4_9]
            refine lv_renV (v := .ref qf1) rfl ?_
            refine va_get (D := D) (ci := 3) (v := .int (sfNumber (shelves 0))) (C := RX3) (T := TX3) (N := 4) hx hb hts hi_RX3 hown hK hP 11 rfl rfl 1 (by decide) (hts (.fieldLink RX5 282 "TravelMarks$Shelf" "number" "I") (List.mem_of_getElem? (i := 3) rfl)) (fun _ h9 => h9) rfl dX5_act_44 ?_
            obtain ⟨t14, et14, hf⟩ := lj_e hf
            refine lv_ren et14 ?_
            refine lv_istore (lv' := [(4, .int t14), (0, .ref q0), (1, .int x0), (2, .int x1), (3, .int x2)]) hx hb dX5_act_47 hl (by decide) rfl (fun ls hl => ?_)
            refine lv_aload_n hx hb dX5_act_49 rfl (lv_at hl 1 rfl) ?_
            refine va_get (D := D) (ci := 5) (v := .ref qd0) (C := RX5) (T := TX5) (N := 11) hx hb hts hi_RX5 hown hK hP 0 rfl rfl 5 (by decide) (hts (.fieldLink RX5 35 "TravelMarks" "deed" "LTravelMarks$Deed;") (List.mem_of_getElem? (i := 1) rfl)) (fun _ h9 => h9) rfl dX5_act_50 ?_
            refine lv_iload hx hb dX5_act_53 (lv_at hl 0 rfl) ?_
            refine lv_aload_n hx hb dX5_act_55 rfl (lv_at hl 1 rfl) ?_
            refine va_get (D := D) (ci := 5) (v := .ref qn0) (C := RX5) (T := TX5) (N := 11) hx hb hts hi_RX5 hown hK hP 0 rfl rfl 0 (by decide) (hts (.fieldLink RX5 10 "TravelMarks" "now" "LTravelMarks$Port;") (List.mem_of_getElem? (i := 4) rfl)) (fun _ h9 => h9) rfl dX5_act_56 ?_
            refine va_get (D := D) (ci := 1) (v := .ref qn4) (C := RX1) (T := TX1) (N := 10) hx hb hts hi_RX1 hown hK hP 1 rfl rfl 3 (by decide) (hts (.fieldLink RX5 120 "TravelMarks$Port" "on" "[I") (List.mem_of_getElem? (i := 5) rfl)) (fun _ h9 => h9) rfl dX5_act_59 ?_
            refine lv_iload hx hb dX5_act_62 (lv_at hl 0 rfl) ?_
            obtain ⟨y16, ey16, hi15, hf⟩ := rdA_x hf
            refine va_iald hx hb hK hP 5 0 rfl rfl hi15 dX5_act_64 ?_
            refine lv_ren ey16 ?_
            refine lv_aload_n hx hb dX5_act_65 rfl (lv_at hl 1 rfl) ?_
            refine va_get (D := D) (ci := 5) (v := .ref qn0) (C := RX5) (T := TX5) (N := 11) hx hb hts hi_RX5 hown hK hP 0 rfl rfl 0 (by decide) (hts (.fieldLink RX5 10 "TravelMarks" "now" "LTravelMarks$Port;") (List.mem_of_getElem? (i := 4) rfl)) (fun _ h9 => h9) rfl dX5_act_66 ?_
            refine va_get (D := D) (ci := 1) (v := .ref qn2) (C := RX1) (T := TX1) (N := 10) hx hb hts hi_RX1 hown hK hP 1 rfl rfl 1 (by decide) (hts (.fieldLink RX5 114 "TravelMarks$Port" "kind" "[I") (List.mem_of_getElem? (i := 6) rfl)) (fun _ h9 => h9) rfl dX5_act_69 ?_
            refine lv_iload hx hb dX5_act_72 (lv_at hl 0 rfl) ?_
            obtain ⟨y18, ey18, hi17, hf⟩ := rdA_x hf
            refine va_iald hx hb hK hP 3 0 rfl rfl hi17 dX5_act_74 ?_
            refine lv_ren ey18 ?_
            refine lv_iload_n hx hb dX5_act_75 rfl (lv_at hl 3 rfl) ?_
            refine lv_iload_n hx hb dX5_act_76 rfl (lv_at hl 4 rfl) ?_
            obtain ⟨r19, v20, h21, hf⟩ := ob2_e hf
            refine kci (Wx := (oTM q0 qn0 qk0 qr0 qc0 qt0 qd0 qs0 qf0 qw0 rowCount anyKept (oPort C qn0 qn1 qn2 qn3 qn4 qn5 qn6 now (oDeed C qd0 qd1 v20 (oShelves C qf0 qf1 qf2 qf3 qf4 shelves []))))) (va_runV (As := [.int t14, .int y16, .int y18, .int x1, .int x2]) (rest := []) ⟨hx, hb, hml, hown, hts⟩ (c_X0_doAct l E D C qd0 qd1 H.size N v1 t14 y16 y18 x1 x2 r19 v20 h21) (cwV 5 hts gX5_act_X0_doAct rfl rfl rfl hdX0_doAct ⟨Nat.le_of_ble_eq_true rfl, Nat.le_of_ble_eq_true rfl⟩) (kpreV hP hD hK hS hE hA [8, 9] rfl rfl 8 rfl rfl rfl) rfl rfl hl.1 rfl (lv_room (Nat.le_of_ble_eq_true rfl)) dX5_act_77 ⟨Nat.zero_le _, Nat.zero_le _⟩) hP hD hS hA [8, 9] rfl rfl rfl (fun H locs hP hD hS => ?_)
            cases hf
            exact kri hQ hAe hx hb hr hlocks hP hD hK hS dX5_act_80
          · replace hf := if_fe c10 hf
            refine lv_iconst (v := 0) hx hb dX5_act_36 rfl ?_
            cases hf
            exact kri hQ hAe hx hb hr hlocks hP hD hK hS dX5_act_37
        · rw [e4_9] at eo8
          subst eo8
          try rw [e4_9] at hf
          refine va_aldq hx hb hK hP 10 4 rfl rfl hi7 dX5_act_29 ?_
          rw [e4_9]
          refine lv_renV (v := .ref qf2) rfl ?_
          refine kci (Wx := (oTM q0 qn0 qk0 qr0 qc0 qt0 qd0 qs0 qf0 qw0 rowCount anyKept (oPort C qn0 qn1 qn2 qn3 qn4 qn5 qn6 now (oDeed C qd0 qd1 v1 (oShelves C qf0 qf1 qf2 qf3 qf4 shelves []))))) (va_runV (As := [.ref qf2]) (rest := []) ⟨hx, hb, hml, hown, hts⟩ (c_X5_heldBy l E D C q0 qn0 qk0 qr0 qc0 qt0 qd0 qs0 qf0 qw0 qn1 qn2 qn3 qn4 qn5 qn6 qf2 H.size rowCount anyKept now (shelves 1) _ rfl) (cwV 1 hts gX5_act_X5_heldBy rfl rfl rfl hdX5_heldBy ⟨Nat.le_of_ble_eq_true rfl, Nat.le_of_ble_eq_true rfl⟩) (kpreV hP hD hK hS hE hA [0, 1, 2, 3, 4, 5, 6, 7, 12] rfl rfl 0 rfl rfl rfl) rfl rfl hl.1 rfl (lv_room (Nat.le_of_ble_eq_true rfl)) dX5_act_30 ⟨Nat.zero_le _, Nat.zero_le _⟩) hP hD hS hA [0, 1, 2, 3, 4, 5, 6, 7, 12] rfl rfl rfl (fun H locs hP hD hS => ?_)
          refine lv_if_eq (tgt := 38) hx hb dX5_act_33 (by decide) (fun c10 => ?_) (fun c10 => ?_)
          · replace hf := if_te c10 hf
            refine lv_aload_n hx hb dX5_act_38 rfl (lv_at hl 0 rfl) ?_
            refine va_get (D := D) (ci := 5) (v := .ref qf0) (C := RX5) (T := TX5) (N := 11) hx hb hts hi_RX5 hown hK hP 0 rfl rfl 7 (by decide) (hts (.fieldLink RX5 47 "TravelMarks" "shelves" "[LTravelMarks$Shelf;") (List.mem_of_getElem? (i := 2) rfl)) (fun _ h9 => h9) rfl dX5_act_39 ?_
            refine lv_iload_n hx hb dX5_act_42 rfl (lv_at hl 1 rfl) ?_
            obtain ⟨hi11, hf⟩ := ckA_e hf
            obtain ⟨o12, eo12, hf⟩ := lj_e hf
            try rw [e4_9] at eo12
            subst eo12
            try rw [e4_9] at hf
            refine va_aldq hx hb hK hP 10 4 rfl rfl hi11 dX5_act_43 ?_
            rw [e4_9]
            refine lv_renV (v := .ref qf2) rfl ?_
            refine va_get (D := D) (ci := 3) (v := .int (sfNumber (shelves 1))) (C := RX3) (T := TX3) (N := 4) hx hb hts hi_RX3 hown hK hP 12 rfl rfl 1 (by decide) (hts (.fieldLink RX5 282 "TravelMarks$Shelf" "number" "I") (List.mem_of_getElem? (i := 3) rfl)) (fun _ h9 => h9) rfl dX5_act_44 ?_
            obtain ⟨t14, et14, hf⟩ := lj_e hf
            refine lv_ren et14 ?_
            refine lv_istore (lv' := [(4, .int t14), (0, .ref q0), (1, .int x0), (2, .int x1), (3, .int x2)]) hx hb dX5_act_47 hl (by decide) rfl (fun ls hl => ?_)
            refine lv_aload_n hx hb dX5_act_49 rfl (lv_at hl 1 rfl) ?_
            refine va_get (D := D) (ci := 5) (v := .ref qd0) (C := RX5) (T := TX5) (N := 11) hx hb hts hi_RX5 hown hK hP 0 rfl rfl 5 (by decide) (hts (.fieldLink RX5 35 "TravelMarks" "deed" "LTravelMarks$Deed;") (List.mem_of_getElem? (i := 1) rfl)) (fun _ h9 => h9) rfl dX5_act_50 ?_
            refine lv_iload hx hb dX5_act_53 (lv_at hl 0 rfl) ?_
            refine lv_aload_n hx hb dX5_act_55 rfl (lv_at hl 1 rfl) ?_
            refine va_get (D := D) (ci := 5) (v := .ref qn0) (C := RX5) (T := TX5) (N := 11) hx hb hts hi_RX5 hown hK hP 0 rfl rfl 0 (by decide) (hts (.fieldLink RX5 10 "TravelMarks" "now" "LTravelMarks$Port;") (List.mem_of_getElem? (i := 4) rfl)) (fun _ h9 => h9) rfl dX5_act_56 ?_
            refine va_get (D := D) (ci := 1) (v := .ref qn4) (C := RX1) (T := TX1) (N := 10) hx hb hts hi_RX1 hown hK hP 1 rfl rfl 3 (by decide) (hts (.fieldLink RX5 120 "TravelMarks$Port" "on" "[I") (List.mem_of_getElem? (i := 5) rfl)) (fun _ h9 => h9) rfl dX5_act_59 ?_
            refine lv_iload hx hb dX5_act_62 (lv_at hl 0 rfl) ?_
            obtain ⟨y16, ey16, hi15, hf⟩ := rdA_x hf
            refine va_iald hx hb hK hP 5 0 rfl rfl hi15 dX5_act_64 ?_
            refine lv_ren ey16 ?_
            refine lv_aload_n hx hb dX5_act_65 rfl (lv_at hl 1 rfl) ?_
            refine va_get (D := D) (ci := 5) (v := .ref qn0) (C := RX5) (T := TX5) (N := 11) hx hb hts hi_RX5 hown hK hP 0 rfl rfl 0 (by decide) (hts (.fieldLink RX5 10 "TravelMarks" "now" "LTravelMarks$Port;") (List.mem_of_getElem? (i := 4) rfl)) (fun _ h9 => h9) rfl dX5_act_66 ?_
            refine va_get (D := D) (ci := 1) (v := .ref qn2) (C := RX1) (T := TX1) (N := 10) hx hb hts hi_RX1 hown hK hP 1 rfl rfl 1 (by decide) (hts (.fieldLink RX5 114 "TravelMarks$Port" "kind" "[I") (List.mem_of_getElem? (i := 6) rfl)) (fun _ h9 => h9) rfl dX5_act_69 ?_
            refine lv_iload hx hb dX5_act_72 (lv_at hl 0 rfl) ?_
            obtain ⟨y18, ey18, hi17, hf⟩ := rdA_x hf
            refine va_iald hx hb hK hP 3 0 rfl rfl hi17 dX5_act_74 ?_
            refine lv_ren ey18 ?_
            refine lv_iload_n hx hb dX5_act_75 rfl (lv_at hl 3 rfl) ?_
            refine lv_iload_n hx hb dX5_act_76 rfl (lv_at hl 4 rfl) ?_
            obtain ⟨r19, v20, h21, hf⟩ := ob2_e hf
            refine kci (Wx := (oTM q0 qn0 qk0 qr0 qc0 qt0 qd0 qs0 qf0 qw0 rowCount anyKept (oPort C qn0 qn1 qn2 qn3 qn4 qn5 qn6 now (oDeed C qd0 qd1 v20 (oShelves C qf0 qf1 qf2 qf3 qf4 shelves []))))) (va_runV (As := [.int t14, .int y16, .int y18, .int x1, .int x2]) (rest := []) ⟨hx, hb, hml, hown, hts⟩ (c_X0_doAct l E D C qd0 qd1 H.size N v1 t14 y16 y18 x1 x2 r19 v20 h21) (cwV 5 hts gX5_act_X0_doAct rfl rfl rfl hdX0_doAct ⟨Nat.le_of_ble_eq_true rfl, Nat.le_of_ble_eq_true rfl⟩) (kpreV hP hD hK hS hE hA [8, 9] rfl rfl 8 rfl rfl rfl) rfl rfl hl.1 rfl (lv_room (Nat.le_of_ble_eq_true rfl)) dX5_act_77 ⟨Nat.zero_le _, Nat.zero_le _⟩) hP hD hS hA [8, 9] rfl rfl rfl (fun H locs hP hD hS => ?_)
            cases hf
            exact kri hQ hAe hx hb hr hlocks hP hD hK hS dX5_act_80
          · replace hf := if_fe c10 hf
            refine lv_iconst (v := 0) hx hb dX5_act_36 rfl ?_
            cases hf
            exact kri hQ hAe hx hb hr hlocks hP hD hK hS dX5_act_37
        · rw [e4_9] at eo8
          subst eo8
          try rw [e4_9] at hf
          refine va_aldq hx hb hK hP 10 4 rfl rfl hi7 dX5_act_29 ?_
          rw [e4_9]
          refine lv_renV (v := .ref qf3) rfl ?_
          refine kci (Wx := (oTM q0 qn0 qk0 qr0 qc0 qt0 qd0 qs0 qf0 qw0 rowCount anyKept (oPort C qn0 qn1 qn2 qn3 qn4 qn5 qn6 now (oDeed C qd0 qd1 v1 (oShelves C qf0 qf1 qf2 qf3 qf4 shelves []))))) (va_runV (As := [.ref qf3]) (rest := []) ⟨hx, hb, hml, hown, hts⟩ (c_X5_heldBy l E D C q0 qn0 qk0 qr0 qc0 qt0 qd0 qs0 qf0 qw0 qn1 qn2 qn3 qn4 qn5 qn6 qf3 H.size rowCount anyKept now (shelves 2) _ rfl) (cwV 1 hts gX5_act_X5_heldBy rfl rfl rfl hdX5_heldBy ⟨Nat.le_of_ble_eq_true rfl, Nat.le_of_ble_eq_true rfl⟩) (kpreV hP hD hK hS hE hA [0, 1, 2, 3, 4, 5, 6, 7, 13] rfl rfl 0 rfl rfl rfl) rfl rfl hl.1 rfl (lv_room (Nat.le_of_ble_eq_true rfl)) dX5_act_30 ⟨Nat.zero_le _, Nat.zero_le _⟩) hP hD hS hA [0, 1, 2, 3, 4, 5, 6, 7, 13] rfl rfl rfl (fun H locs hP hD hS => ?_)
          refine lv_if_eq (tgt := 38) hx hb dX5_act_33 (by decide) (fun c10 => ?_) (fun c10 => ?_)
          · replace hf := if_te c10 hf
            refine lv_aload_n hx hb dX5_act_38 rfl (lv_at hl 0 rfl) ?_
            refine va_get (D := D) (ci := 5) (v := .ref qf0) (C := RX5) (T := TX5) (N := 11) hx hb hts hi_RX5 hown hK hP 0 rfl rfl 7 (by decide) (hts (.fieldLink RX5 47 "TravelMarks" "shelves" "[LTravelMarks$Shelf;") (List.mem_of_getElem? (i := 2) rfl)) (fun _ h9 => h9) rfl dX5_act_39 ?_
            refine lv_iload_n hx hb dX5_act_42 rfl (lv_at hl 1 rfl) ?_
            obtain ⟨hi11, hf⟩ := ckA_e hf
            obtain ⟨o12, eo12, hf⟩ := lj_e hf
            try rw [e4_9] at eo12
            subst eo12
            try rw [e4_9] at hf
            refine va_aldq hx hb hK hP 10 4 rfl rfl hi11 dX5_act_43 ?_
            rw [e4_9]
            refine lv_renV (v := .ref qf3) rfl ?_
            refine va_get (D := D) (ci := 3) (v := .int (sfNumber (shelves 2))) (C := RX3) (T := TX3) (N := 4) hx hb hts hi_RX3 hown hK hP 13 rfl rfl 1 (by decide) (hts (.fieldLink RX5 282 "TravelMarks$Shelf" "number" "I") (List.mem_of_getElem? (i := 3) rfl)) (fun _ h9 => h9) rfl dX5_act_44 ?_
            obtain ⟨t14, et14, hf⟩ := lj_e hf
            refine lv_ren et14 ?_
            refine lv_istore (lv' := [(4, .int t14), (0, .ref q0), (1, .int x0), (2, .int x1), (3, .int x2)]) hx hb dX5_act_47 hl (by decide) rfl (fun ls hl => ?_)
            refine lv_aload_n hx hb dX5_act_49 rfl (lv_at hl 1 rfl) ?_
            refine va_get (D := D) (ci := 5) (v := .ref qd0) (C := RX5) (T := TX5) (N := 11) hx hb hts hi_RX5 hown hK hP 0 rfl rfl 5 (by decide) (hts (.fieldLink RX5 35 "TravelMarks" "deed" "LTravelMarks$Deed;") (List.mem_of_getElem? (i := 1) rfl)) (fun _ h9 => h9) rfl dX5_act_50 ?_
            refine lv_iload hx hb dX5_act_53 (lv_at hl 0 rfl) ?_
            refine lv_aload_n hx hb dX5_act_55 rfl (lv_at hl 1 rfl) ?_
            refine va_get (D := D) (ci := 5) (v := .ref qn0) (C := RX5) (T := TX5) (N := 11) hx hb hts hi_RX5 hown hK hP 0 rfl rfl 0 (by decide) (hts (.fieldLink RX5 10 "TravelMarks" "now" "LTravelMarks$Port;") (List.mem_of_getElem? (i := 4) rfl)) (fun _ h9 => h9) rfl dX5_act_56 ?_
            refine va_get (D := D) (ci := 1) (v := .ref qn4) (C := RX1) (T := TX1) (N := 10) hx hb hts hi_RX1 hown hK hP 1 rfl rfl 3 (by decide) (hts (.fieldLink RX5 120 "TravelMarks$Port" "on" "[I") (List.mem_of_getElem? (i := 5) rfl)) (fun _ h9 => h9) rfl dX5_act_59 ?_
            refine lv_iload hx hb dX5_act_62 (lv_at hl 0 rfl) ?_
            obtain ⟨y16, ey16, hi15, hf⟩ := rdA_x hf
            refine va_iald hx hb hK hP 5 0 rfl rfl hi15 dX5_act_64 ?_
            refine lv_ren ey16 ?_
            refine lv_aload_n hx hb dX5_act_65 rfl (lv_at hl 1 rfl) ?_
            refine va_get (D := D) (ci := 5) (v := .ref qn0) (C := RX5) (T := TX5) (N := 11) hx hb hts hi_RX5 hown hK hP 0 rfl rfl 0 (by decide) (hts (.fieldLink RX5 10 "TravelMarks" "now" "LTravelMarks$Port;") (List.mem_of_getElem? (i := 4) rfl)) (fun _ h9 => h9) rfl dX5_act_66 ?_
            refine va_get (D := D) (ci := 1) (v := .ref qn2) (C := RX1) (T := TX1) (N := 10) hx hb hts hi_RX1 hown hK hP 1 rfl rfl 1 (by decide) (hts (.fieldLink RX5 114 "TravelMarks$Port" "kind" "[I") (List.mem_of_getElem? (i := 6) rfl)) (fun _ h9 => h9) rfl dX5_act_69 ?_
            refine lv_iload hx hb dX5_act_72 (lv_at hl 0 rfl) ?_
            obtain ⟨y18, ey18, hi17, hf⟩ := rdA_x hf
            refine va_iald hx hb hK hP 3 0 rfl rfl hi17 dX5_act_74 ?_
            refine lv_ren ey18 ?_
            refine lv_iload_n hx hb dX5_act_75 rfl (lv_at hl 3 rfl) ?_
            refine lv_iload_n hx hb dX5_act_76 rfl (lv_at hl 4 rfl) ?_
            obtain ⟨r19, v20, h21, hf⟩ := ob2_e hf
            refine kci (Wx := (oTM q0 qn0 qk0 qr0 qc0 qt0 qd0 qs0 qf0 qw0 rowCount anyKept (oPort C qn0 qn1 qn2 qn3 qn4 qn5 qn6 now (oDeed C qd0 qd1 v20 (oShelves C qf0 qf1 qf2 qf3 qf4 shelves []))))) (va_runV (As := [.int t14, .int y16, .int y18, .int x1, .int x2]) (rest := []) ⟨hx, hb, hml, hown, hts⟩ (c_X0_doAct l E D C qd0 qd1 H.size N v1 t14 y16 y18 x1 x2 r19 v20 h21) (cwV 5 hts gX5_act_X0_doAct rfl rfl rfl hdX0_doAct ⟨Nat.le_of_ble_eq_true rfl, Nat.le_of_ble_eq_true rfl⟩) (kpreV hP hD hK hS hE hA [8, 9] rfl rfl 8 rfl rfl rfl) rfl rfl hl.1 rfl (lv_room (Nat.le_of_ble_eq_true rfl)) dX5_act_77 ⟨Nat.zero_le _, Nat.zero_le _⟩) hP hD hS hA [8, 9] rfl rfl rfl (fun H locs hP hD hS => ?_)
            cases hf
            exact kri hQ hAe hx hb hr hlocks hP hD hK hS dX5_act_80
          · replace hf := if_fe c10 hf
            refine lv_iconst (v := 0) hx hb dX5_act_36 rfl ?_
            cases hf
            exact kri hQ hAe hx hb hr hlocks hP hD hK hS dX5_act_37
        · rw [e4_9] at eo8
          subst eo8
          try rw [e4_9] at hf
          refine va_aldq hx hb hK hP 10 4 rfl rfl hi7 dX5_act_29 ?_
          rw [e4_9]
          refine lv_renV (v := .ref qf4) rfl ?_
          refine kci (Wx := (oTM q0 qn0 qk0 qr0 qc0 qt0 qd0 qs0 qf0 qw0 rowCount anyKept (oPort C qn0 qn1 qn2 qn3 qn4 qn5 qn6 now (oDeed C qd0 qd1 v1 (oShelves C qf0 qf1 qf2 qf3 qf4 shelves []))))) (va_runV (As := [.ref qf4]) (rest := []) ⟨hx, hb, hml, hown, hts⟩ (c_X5_heldBy l E D C q0 qn0 qk0 qr0 qc0 qt0 qd0 qs0 qf0 qw0 qn1 qn2 qn3 qn4 qn5 qn6 qf4 H.size rowCount anyKept now (shelves 3) _ rfl) (cwV 1 hts gX5_act_X5_heldBy rfl rfl rfl hdX5_heldBy ⟨Nat.le_of_ble_eq_true rfl, Nat.le_of_ble_eq_true rfl⟩) (kpreV hP hD hK hS hE hA [0, 1, 2, 3, 4, 5, 6, 7, 14] rfl rfl 0 rfl rfl rfl) rfl rfl hl.1 rfl (lv_room (Nat.le_of_ble_eq_true rfl)) dX5_act_30 ⟨Nat.zero_le _, Nat.zero_le _⟩) hP hD hS hA [0, 1, 2, 3, 4, 5, 6, 7, 14] rfl rfl rfl (fun H locs hP hD hS => ?_)
          refine lv_if_eq (tgt := 38) hx hb dX5_act_33 (by decide) (fun c10 => ?_) (fun c10 => ?_)
          · replace hf := if_te c10 hf
            refine lv_aload_n hx hb dX5_act_38 rfl (lv_at hl 0 rfl) ?_
            refine va_get (D := D) (ci := 5) (v := .ref qf0) (C := RX5) (T := TX5) (N := 11) hx hb hts hi_RX5 hown hK hP 0 rfl rfl 7 (by decide) (hts (.fieldLink RX5 47 "TravelMarks" "shelves" "[LTravelMarks$Shelf;") (List.mem_of_getElem? (i := 2) rfl)) (fun _ h9 => h9) rfl dX5_act_39 ?_
            refine lv_iload_n hx hb dX5_act_42 rfl (lv_at hl 1 rfl) ?_
            obtain ⟨hi11, hf⟩ := ckA_e hf
            obtain ⟨o12, eo12, hf⟩ := lj_e hf
            try rw [e4_9] at eo12
            subst eo12
            try rw [e4_9] at hf
            refine va_aldq hx hb hK hP 10 4 rfl rfl hi11 dX5_act_43 ?_
            rw [e4_9]
            refine lv_renV (v := .ref qf4) rfl ?_
            refine va_get (D := D) (ci := 3) (v := .int (sfNumber (shelves 3))) (C := RX3) (T := TX3) (N := 4) hx hb hts hi_RX3 hown hK hP 14 rfl rfl 1 (by decide) (hts (.fieldLink RX5 282 "TravelMarks$Shelf" "number" "I") (List.mem_of_getElem? (i := 3) rfl)) (fun _ h9 => h9) rfl dX5_act_44 ?_
            obtain ⟨t14, et14, hf⟩ := lj_e hf
            refine lv_ren et14 ?_
            refine lv_istore (lv' := [(4, .int t14), (0, .ref q0), (1, .int x0), (2, .int x1), (3, .int x2)]) hx hb dX5_act_47 hl (by decide) rfl (fun ls hl => ?_)
            refine lv_aload_n hx hb dX5_act_49 rfl (lv_at hl 1 rfl) ?_
            refine va_get (D := D) (ci := 5) (v := .ref qd0) (C := RX5) (T := TX5) (N := 11) hx hb hts hi_RX5 hown hK hP 0 rfl rfl 5 (by decide) (hts (.fieldLink RX5 35 "TravelMarks" "deed" "LTravelMarks$Deed;") (List.mem_of_getElem? (i := 1) rfl)) (fun _ h9 => h9) rfl dX5_act_50 ?_
            refine lv_iload hx hb dX5_act_53 (lv_at hl 0 rfl) ?_
            refine lv_aload_n hx hb dX5_act_55 rfl (lv_at hl 1 rfl) ?_
            refine va_get (D := D) (ci := 5) (v := .ref qn0) (C := RX5) (T := TX5) (N := 11) hx hb hts hi_RX5 hown hK hP 0 rfl rfl 0 (by decide) (hts (.fieldLink RX5 10 "TravelMarks" "now" "LTravelMarks$Port;") (List.mem_of_getElem? (i := 4) rfl)) (fun _ h9 => h9) rfl dX5_act_56 ?_
            refine va_get (D := D) (ci := 1) (v := .ref qn4) (C := RX1) (T := TX1) (N := 10) hx hb hts hi_RX1 hown hK hP 1 rfl rfl 3 (by decide) (hts (.fieldLink RX5 120 "TravelMarks$Port" "on" "[I") (List.mem_of_getElem? (i := 5) rfl)) (fun _ h9 => h9) rfl dX5_act_59 ?_
            refine lv_iload hx hb dX5_act_62 (lv_at hl 0 rfl) ?_
            obtain ⟨y16, ey16, hi15, hf⟩ := rdA_x hf
            refine va_iald hx hb hK hP 5 0 rfl rfl hi15 dX5_act_64 ?_
            refine lv_ren ey16 ?_
            refine lv_aload_n hx hb dX5_act_65 rfl (lv_at hl 1 rfl) ?_
            refine va_get (D := D) (ci := 5) (v := .ref qn0) (C := RX5) (T := TX5) (N := 11) hx hb hts hi_RX5 hown hK hP 0 rfl rfl 0 (by decide) (hts (.fieldLink RX5 10 "TravelMarks" "now" "LTravelMarks$Port;") (List.mem_of_getElem? (i := 4) rfl)) (fun _ h9 => h9) rfl dX5_act_66 ?_
            refine va_get (D := D) (ci := 1) (v := .ref qn2) (C := RX1) (T := TX1) (N := 10) hx hb hts hi_RX1 hown hK hP 1 rfl rfl 1 (by decide) (hts (.fieldLink RX5 114 "TravelMarks$Port" "kind" "[I") (List.mem_of_getElem? (i := 6) rfl)) (fun _ h9 => h9) rfl dX5_act_69 ?_
            refine lv_iload hx hb dX5_act_72 (lv_at hl 0 rfl) ?_
            obtain ⟨y18, ey18, hi17, hf⟩ := rdA_x hf
            refine va_iald hx hb hK hP 3 0 rfl rfl hi17 dX5_act_74 ?_
            refine lv_ren ey18 ?_
            refine lv_iload_n hx hb dX5_act_75 rfl (lv_at hl 3 rfl) ?_
            refine lv_iload_n hx hb dX5_act_76 rfl (lv_at hl 4 rfl) ?_
            obtain ⟨r19, v20, h21, hf⟩ := ob2_e hf
            refine kci (Wx := (oTM q0 qn0 qk0 qr0 qc0 qt0 qd0 qs0 qf0 qw0 rowCount anyKept (oPort C qn0 qn1 qn2 qn3 qn4 qn5 qn6 now (oDeed C qd0 qd1 v20 (oShelves C qf0 qf1 qf2 qf3 qf4 shelves []))))) (va_runV (As := [.int t14, .int y16, .int y18, .int x1, .int x2]) (rest := []) ⟨hx, hb, hml, hown, hts⟩ (c_X0_doAct l E D C qd0 qd1 H.size N v1 t14 y16 y18 x1 x2 r19 v20 h21) (cwV 5 hts gX5_act_X0_doAct rfl rfl rfl hdX0_doAct ⟨Nat.le_of_ble_eq_true rfl, Nat.le_of_ble_eq_true rfl⟩) (kpreV hP hD hK hS hE hA [8, 9] rfl rfl 8 rfl rfl rfl) rfl rfl hl.1 rfl (lv_room (Nat.le_of_ble_eq_true rfl)) dX5_act_77 ⟨Nat.zero_le _, Nat.zero_le _⟩) hP hD hS hA [8, 9] rfl rfl rfl (fun H locs hP hD hS => ?_)
            cases hf
            exact kri hQ hAe hx hb hr hlocks hP hD hK hS dX5_act_80
          · replace hf := if_fe c10 hf
            refine lv_iconst (v := 0) hx hb dX5_act_36 rfl ?_
            cases hf
            exact kri hQ hAe hx hb hr hlocks hP hD hK hS dX5_act_37
  exact main _ _ hP hD hS

def rmX5_trace : Room := { frames := 1, cells := 0, slots := 0, locals := 22 }
theorem hdX5_trace : yX5_trace.cls = RX5 ∧ yX5_trace.cls ≠ "java/lang/invoke/MethodHandle" ∧ yX5_trace.cls ≠ "java/lang/invoke/VarHandle" ∧ (parseMethodDescriptor yX5_trace.desc).map (fun d => d.parameters.length) = some 1 := by decide +kernel
set_option maxHeartbeats 40000000 in
set_option maxRecDepth 100000 in
theorem c_X5_trace (l : Launch) (E : Nat → Nat) (D : va_G) (C : Nat → ClassId) (q0 qn0 qk0 qr0 qc0 qt0 qd0 qs0 qf0 qw0 qd1 : Nat) (sz : Nat) (rowCount : Int32) (anyKept : Int32) (deed : DV) (x0 : Int32) (r : Int32) (hf : f_X5_trace deed x0 = some r) : Met l yX5_trace wsX5_trace rmX5_trace (PC E D C [.ref q0, .int x0] (oTM q0 qn0 qk0 qr0 qc0 qt0 qd0 qs0 qf0 qw0 rowCount anyKept (oDeed C qd0 qd1 deed [])) sz) (QI D C (oTM q0 qn0 qk0 qr0 qc0 qt0 qd0 qs0 qf0 qw0 rowCount anyKept (oDeed C qd0 qd1 deed [])) (oTM q0 qn0 qk0 qr0 qc0 qt0 qd0 qs0 qf0 qw0 rowCount anyKept (oDeed C qd0 qd1 deed [])) sz r) 0 0 (va_A (oTM q0 qn0 qk0 qr0 qc0 qt0 qd0 qs0 qf0 qw0 rowCount anyKept (oDeed C qd0 qd1 deed [])) sz) := by
  refine Met.ofW (cc := cX5_trace) (maxL := 2) (ret := (some .int)) (by decide) rfl ?_
  intro p e s m args below meth c s₁ B hml hv
  obtain ⟨rfl, hsz, hP, hK, hD0, hE⟩ := hv
  have hx := B.exec
  have hb := B.bytes
  have hr := B.returns
  have hts := atoms_spec (ws := wsX5_trace) B.pre
  have hown : s.vm.findClass RX5 = some m.cls := findClass_of_methodNamed B.named
  have hlocks := B.notSynchronized
  subst hsz
  have hi_RX0 : ∀ w ∈ wsX00, w ∈ wsX5_trace := fun _ h => List.mem_cons_of_mem _ (List.mem_append_right _ h)
  have hi_RX5 : ∀ w ∈ wsX50, w ∈ wsX5_trace := fun _ h => List.mem_cons_of_mem _ (List.mem_append_left _ (List.mem_append_right _ h))
  have hD := hD0.self (sz := s.heap.size)
  obtain ⟨A, hAe⟩ := nm_ex (va_A (oTM q0 qn0 qk0 qr0 qc0 qt0 qd0 qs0 qf0 qw0 rowCount anyKept (oDeed C qd0 qd1 deed [])) s.heap.size)
  rw [← hAe] at hD hE ⊢
  have hA : ∀ q : Nat, s.heap.size ≤ q → A q := fun q h => by rw [hAe]; exact Or.inr h
  have hS : va_S A s.heap s.heap [] := va_S.rf
  have hl := lv_entry ([.ref q0, .int x0]) (n := 2) (Nat.le_of_ble_eq_true rfl)
  rw [lg_entry_eq]
  generalize (lg_sl ([.ref q0, .int x0]) ++ List.replicate (2 - (lg_sl ([.ref q0, .int x0])).length) Slot.unset).toArray = ls at hl ⊢
  have hl : lv_has ls 2 [(0, .ref q0), (1, .int x0)] := hl
  obtain ⟨Q, hQ⟩ := nm_ex (MQ below (QI D C (oTM q0 qn0 qk0 qr0 qc0 qt0 qd0 qs0 qf0 qw0 rowCount anyKept (oDeed C qd0 qd1 deed [])) (oTM q0 qn0 qk0 qr0 qc0 qt0 qd0 qs0 qf0 qw0 rowCount anyKept (oDeed C qd0 qd1 deed [])) s.heap.size r) (List.toArray [Value.ref q0, Value.int x0]) s 0 0 A)
  show W p l e (headSpec wsX5_trace (rmX5_trace)).room s m (List.toArray [Value.ref q0, Value.int x0]) below meth c s.heap [] 0 0 (MQ below (QI D C (oTM q0 qn0 qk0 qr0 qc0 qt0 qd0 qs0 qf0 qw0 rowCount anyKept (oDeed C qd0 qd1 deed [])) (oTM q0 qn0 qk0 qr0 qc0 qt0 qd0 qs0 qf0 qw0 rowCount anyKept (oDeed C qd0 qd1 deed [])) s.heap.size r) (List.toArray [Value.ref q0, Value.int x0]) s 0 0 A) _
  rw [← hQ]
  unfold f_X5_trace at hf
  have main : ∀ (H : Heap) (locs : List Loc), va_P D vwCl (oTM q0 qn0 qk0 qr0 qc0 qt0 qd0 qs0 qf0 qw0 rowCount anyKept (oDeed C qd0 qd1 deed [])) H → va_D A (oTM q0 qn0 qk0 qr0 qc0 qt0 qd0 qs0 qf0 qw0 rowCount anyKept (oDeed C qd0 qd1 deed [])) → va_S A s.heap H locs → W p l e (headSpec wsX5_trace (rmX5_trace)).room s m (List.toArray [Value.ref q0, Value.int x0]) below meth c H locs 0 0 Q (F0 m 0 ls []) := by
    intro H locs hP hD hS
    refine lv_iload_n hx hb dX5_trace_0 rfl (lv_at hl 1 rfl) ?_
    refine lv_iconst (v := 0) hx hb dX5_trace_1 rfl ?_
    refine lv_aload_n hx hb dX5_trace_2 rfl (lv_at hl 0 rfl) ?_
    refine va_get (D := D) (ci := 5) (v := .ref qd0) (C := RX5) (T := TX5) (N := 11) hx hb hts hi_RX5 hown hK hP 0 rfl rfl 5 (by decide) (hts (.fieldLink RX5 35 "TravelMarks" "deed" "LTravelMarks$Deed;") (List.mem_of_getElem? (i := 1) rfl)) (fun _ h9 => h9) rfl dX5_trace_3 ?_
    refine va_get (D := D) (ci := 0) (v := .int (ddRan deed)) (C := RX0) (T := TX0) (N := 6) hx hb hts hi_RX0 hown hK hP 1 rfl rfl 1 (by decide) (hts (.fieldLink RX5 295 "TravelMarks$Deed" "ran" "I") (List.mem_of_getElem? (i := 2) rfl)) (fun _ h9 => h9) rfl dX5_trace_6 ?_
    refine lv_iconst (v := 1) hx hb dX5_trace_9 rfl ?_
    refine lv_isub hx hb dX5_trace_10 ?_
    refine kcz (Wx := (oTM q0 qn0 qk0 qr0 qc0 qt0 qd0 qs0 qf0 qw0 rowCount anyKept (oDeed C qd0 qd1 deed []))) (va_runS (As := [.int x0, .int 0, .int ((ddRan deed) - 1)]) (rest := []) ⟨hx, hb, hml, hown, hts⟩ (c_X5_within l E D C H.size x0 0 ((ddRan deed) - 1) _ rfl) (va_cwS 3 hts gX5_trace_X5_within rfl rfl rfl hdX5_within ⟨Nat.le_of_ble_eq_true rfl, Nat.le_of_ble_eq_true rfl⟩) (kpre hP hD hK hS hE hA [] rfl rfl) rfl rfl hl.1 rfl (lv_room (Nat.le_of_ble_eq_true rfl)) dX5_trace_11 ⟨Nat.zero_le _, Nat.zero_le _⟩) hP hD hS hA [] rfl rfl rfl (fun H locs hz1 hP hD hS => ?_)
    refine lv_if_eq (tgt := 29) hx hb dX5_trace_14 (by decide) (fun c2 => ?_) (fun c2 => ?_)
    · replace hf := if_te c2 hf
      refine lv_bipush (v := (-3)) hx hb dX5_trace_29 rfl ?_
      cases hf
      exact kri hQ hAe hx hb hr hlocks hP hD hK hS dX5_trace_31
    · replace hf := if_fe c2 hf
      refine lv_aload_n hx hb dX5_trace_17 rfl (lv_at hl 0 rfl) ?_
      refine va_get (D := D) (ci := 5) (v := .ref qd0) (C := RX5) (T := TX5) (N := 11) hx hb hts hi_RX5 hown hK hP 0 rfl rfl 5 (by decide) (hts (.fieldLink RX5 35 "TravelMarks" "deed" "LTravelMarks$Deed;") (List.mem_of_getElem? (i := 1) rfl)) (fun _ h9 => h9) rfl dX5_trace_18 ?_
      refine va_get (D := D) (ci := 0) (v := .ref qd1) (C := RX0) (T := TX0) (N := 6) hx hb hts hi_RX0 hown hK hP 1 rfl rfl 0 (by decide) (hts (.fieldLink RX5 298 "TravelMarks$Deed" "bodies" "[I") (List.mem_of_getElem? (i := 3) rfl)) (fun _ h9 => h9) rfl dX5_trace_21 ?_
      refine lv_iload_n hx hb dX5_trace_24 rfl (lv_at hl 1 rfl) ?_
      obtain ⟨y4, ey4, hi3, hf⟩ := rdA_x hf
      refine va_iald hx hb hK hP 2 0 rfl rfl hi3 dX5_trace_25 ?_
      refine lv_ren ey4 ?_
      refine lv_goto (tgt := 31) hx hb dX5_trace_26 (by decide) ?_
      cases hf
      exact kri hQ hAe hx hb hr hlocks hP hD hK hS dX5_trace_31
  exact main _ _ hP hD hS

def rmX5_many : Room := { frames := 1, cells := 0, slots := 0, locals := 22 }
theorem hdX5_many : yX5_many.cls = RX5 ∧ yX5_many.cls ≠ "java/lang/invoke/MethodHandle" ∧ yX5_many.cls ≠ "java/lang/invoke/VarHandle" ∧ (parseMethodDescriptor yX5_many.desc).map (fun d => d.parameters.length) = some 1 := by decide +kernel
set_option maxHeartbeats 40000000 in
set_option maxRecDepth 100000 in
theorem c_X5_many (l : Launch) (E : Nat → Nat) (D : va_G) (C : Nat → ClassId) (q0 qn0 qk0 qr0 qc0 qt0 qd0 qs0 qf0 qw0 qn1 qn2 qn3 qn4 qn5 qn6 qt1 qd1 : Nat) (sz : Nat) (N : Nat) (rowCount : Int32) (anyKept : Int32) (now : PV) (tape : TV) (deed : DV) (x0 : Int32) (r : Int32) (hf : f_X5_many N rowCount now tape deed x0 = some r) : Met l yX5_many wsX5_many rmX5_many (PC E D C [.ref q0, .int x0] (oTM q0 qn0 qk0 qr0 qc0 qt0 qd0 qs0 qf0 qw0 rowCount anyKept (oPort C qn0 qn1 qn2 qn3 qn4 qn5 qn6 now (oTape C qt0 qt1 tape (oDeed C qd0 qd1 deed [])))) sz) (QI D C (oTM q0 qn0 qk0 qr0 qc0 qt0 qd0 qs0 qf0 qw0 rowCount anyKept (oPort C qn0 qn1 qn2 qn3 qn4 qn5 qn6 now (oTape C qt0 qt1 tape (oDeed C qd0 qd1 deed [])))) (oTM q0 qn0 qk0 qr0 qc0 qt0 qd0 qs0 qf0 qw0 rowCount anyKept (oPort C qn0 qn1 qn2 qn3 qn4 qn5 qn6 now (oTape C qt0 qt1 tape (oDeed C qd0 qd1 deed [])))) sz r) 0 0 (va_A (oTM q0 qn0 qk0 qr0 qc0 qt0 qd0 qs0 qf0 qw0 rowCount anyKept (oPort C qn0 qn1 qn2 qn3 qn4 qn5 qn6 now (oTape C qt0 qt1 tape (oDeed C qd0 qd1 deed [])))) sz) := by
  refine Met.ofW (cc := cX5_many) (maxL := 2) (ret := (some .int)) (by decide) rfl ?_
  intro p e s m args below meth c s₁ B hml hv
  obtain ⟨rfl, hsz, hP, hK, hD0, hE⟩ := hv
  have hx := B.exec
  have hb := B.bytes
  have hr := B.returns
  have hts := atoms_spec (ws := wsX5_many) B.pre
  have hown : s.vm.findClass RX5 = some m.cls := findClass_of_methodNamed B.named
  have hlocks := B.notSynchronized
  subst hsz
  have hi_RX0 : ∀ w ∈ wsX00, w ∈ wsX5_many := fun _ h => List.mem_cons_of_mem _ (List.mem_append_right _ h)
  have hi_RX1 : ∀ w ∈ wsX10, w ∈ wsX5_many := fun _ h => List.mem_cons_of_mem _ (List.mem_append_left _ (List.mem_append_left _ (List.mem_append_right _ h)))
  have hi_RX4 : ∀ w ∈ wsX40, w ∈ wsX5_many := fun _ h => List.mem_cons_of_mem _ (List.mem_append_left _ (List.mem_append_right _ h))
  have hi_RX5 : ∀ w ∈ wsX50, w ∈ wsX5_many := fun _ h => List.mem_cons_of_mem _ (List.mem_append_left _ (List.mem_append_left _ (List.mem_append_left _ (List.mem_append_right _ h))))
  have hD := hD0.self (sz := s.heap.size)
  obtain ⟨A, hAe⟩ := nm_ex (va_A (oTM q0 qn0 qk0 qr0 qc0 qt0 qd0 qs0 qf0 qw0 rowCount anyKept (oPort C qn0 qn1 qn2 qn3 qn4 qn5 qn6 now (oTape C qt0 qt1 tape (oDeed C qd0 qd1 deed [])))) s.heap.size)
  rw [← hAe] at hD hE ⊢
  have hA : ∀ q : Nat, s.heap.size ≤ q → A q := fun q h => by rw [hAe]; exact Or.inr h
  have hS : va_S A s.heap s.heap [] := va_S.rf
  have hl := lv_entry ([.ref q0, .int x0]) (n := 2) (Nat.le_of_ble_eq_true rfl)
  rw [lg_entry_eq]
  generalize (lg_sl ([.ref q0, .int x0]) ++ List.replicate (2 - (lg_sl ([.ref q0, .int x0])).length) Slot.unset).toArray = ls at hl ⊢
  have hl : lv_has ls 2 [(0, .ref q0), (1, .int x0)] := hl
  obtain ⟨Q, hQ⟩ := nm_ex (MQ below (QI D C (oTM q0 qn0 qk0 qr0 qc0 qt0 qd0 qs0 qf0 qw0 rowCount anyKept (oPort C qn0 qn1 qn2 qn3 qn4 qn5 qn6 now (oTape C qt0 qt1 tape (oDeed C qd0 qd1 deed [])))) (oTM q0 qn0 qk0 qr0 qc0 qt0 qd0 qs0 qf0 qw0 rowCount anyKept (oPort C qn0 qn1 qn2 qn3 qn4 qn5 qn6 now (oTape C qt0 qt1 tape (oDeed C qd0 qd1 deed [])))) s.heap.size r) (List.toArray [Value.ref q0, Value.int x0]) s 0 0 A)
  show W p l e (headSpec wsX5_many (rmX5_many)).room s m (List.toArray [Value.ref q0, Value.int x0]) below meth c s.heap [] 0 0 (MQ below (QI D C (oTM q0 qn0 qk0 qr0 qc0 qt0 qd0 qs0 qf0 qw0 rowCount anyKept (oPort C qn0 qn1 qn2 qn3 qn4 qn5 qn6 now (oTape C qt0 qt1 tape (oDeed C qd0 qd1 deed [])))) (oTM q0 qn0 qk0 qr0 qc0 qt0 qd0 qs0 qf0 qw0 rowCount anyKept (oPort C qn0 qn1 qn2 qn3 qn4 qn5 qn6 now (oTape C qt0 qt1 tape (oDeed C qd0 qd1 deed [])))) s.heap.size r) (List.toArray [Value.ref q0, Value.int x0]) s 0 0 A) _
  rw [← hQ]
  unfold f_X5_many at hf
  have main : ∀ (H : Heap) (locs : List Loc), va_P D vwCl (oTM q0 qn0 qk0 qr0 qc0 qt0 qd0 qs0 qf0 qw0 rowCount anyKept (oPort C qn0 qn1 qn2 qn3 qn4 qn5 qn6 now (oTape C qt0 qt1 tape (oDeed C qd0 qd1 deed [])))) H → va_D A (oTM q0 qn0 qk0 qr0 qc0 qt0 qd0 qs0 qf0 qw0 rowCount anyKept (oPort C qn0 qn1 qn2 qn3 qn4 qn5 qn6 now (oTape C qt0 qt1 tape (oDeed C qd0 qd1 deed [])))) → va_S A s.heap H locs → W p l e (headSpec wsX5_many (rmX5_many)).room s m (List.toArray [Value.ref q0, Value.int x0]) below meth c H locs 0 0 Q (F0 m 0 ls []) := by
    intro H locs hP hD hS
    refine lv_iload_n hx hb dX5_many_0 rfl (lv_at hl 1 rfl) ?_
    by_cases c1 : x0 = 0
    · replace hf := if_te c1 hf
      refine lv_tableIn (x := x0) (tgt := 44) (off := 43) hx hb dX5_many_1 (by rw [c1]; decide) (by rw [c1]; decide) (by rw [c1]; try rfl) (by decide) ?_
      refine lv_aload_n hx hb dX5_many_44 rfl (lv_at hl 0 rfl) ?_
      refine va_get (D := D) (ci := 5) (v := .ref qn0) (C := RX5) (T := TX5) (N := 11) hx hb hts hi_RX5 hown hK hP 0 rfl rfl 0 (by decide) (hts (.fieldLink RX5 10 "TravelMarks" "now" "LTravelMarks$Port;") (List.mem_of_getElem? (i := 1) rfl)) (fun _ h9 => h9) rfl dX5_many_45 ?_
      refine va_get (D := D) (ci := 1) (v := .int (pCount now)) (C := RX1) (T := TX1) (N := 10) hx hb hts hi_RX1 hown hK hP 1 rfl rfl 6 (by decide) (hts (.fieldLink RX5 86 "TravelMarks$Port" "count" "I") (List.mem_of_getElem? (i := 2) rfl)) (fun _ h9 => h9) rfl dX5_many_48 ?_
      obtain ⟨t2, et2, hf⟩ := lj_e hf
      refine lv_ren et2 ?_
      cases hf
      exact kri hQ hAe hx hb hr hlocks hP hD hK hS dX5_many_51
    replace hf := if_fe c1 hf
    by_cases c3 : x0 = 1
    · replace hf := if_te c3 hf
      refine lv_tableIn (x := x0) (tgt := 52) (off := 51) hx hb dX5_many_1 (by rw [c3]; decide) (by rw [c3]; decide) (by rw [c3]; try rfl) (by decide) ?_
      refine lv_aload_n hx hb dX5_many_52 rfl (lv_at hl 0 rfl) ?_
      refine va_get (D := D) (ci := 5) (v := .ref qn0) (C := RX5) (T := TX5) (N := 11) hx hb hts hi_RX5 hown hK hP 0 rfl rfl 0 (by decide) (hts (.fieldLink RX5 10 "TravelMarks" "now" "LTravelMarks$Port;") (List.mem_of_getElem? (i := 1) rfl)) (fun _ h9 => h9) rfl dX5_many_53 ?_
      refine va_get (D := D) (ci := 1) (v := .int (pCount now)) (C := RX1) (T := TX1) (N := 10) hx hb hts hi_RX1 hown hK hP 1 rfl rfl 6 (by decide) (hts (.fieldLink RX5 86 "TravelMarks$Port" "count" "I") (List.mem_of_getElem? (i := 2) rfl)) (fun _ h9 => h9) rfl dX5_many_56 ?_
      refine lv_aload_n hx hb dX5_many_59 rfl (lv_at hl 0 rfl) ?_
      refine va_get (D := D) (ci := 5) (v := .ref qn0) (C := RX5) (T := TX5) (N := 11) hx hb hts hi_RX5 hown hK hP 0 rfl rfl 0 (by decide) (hts (.fieldLink RX5 10 "TravelMarks" "now" "LTravelMarks$Port;") (List.mem_of_getElem? (i := 1) rfl)) (fun _ h9 => h9) rfl dX5_many_60 ?_
      obtain ⟨r4, h5, hf⟩ := ob1_e hf
      refine kci (Wx := (oTM q0 qn0 qk0 qr0 qc0 qt0 qd0 qs0 qf0 qw0 rowCount anyKept (oPort C qn0 qn1 qn2 qn3 qn4 qn5 qn6 now (oTape C qt0 qt1 tape (oDeed C qd0 qd1 deed []))))) (va_runV (As := []) (rest := [.int (pCount now)]) ⟨hx, hb, hml, hown, hts⟩ (c_X1_dried l E D C qn0 qn1 qn2 qn3 qn4 qn5 qn6 H.size N now r4 h5) (cwV 0 hts gX5_many_X1_dried rfl rfl rfl hdX1_dried ⟨Nat.le_of_ble_eq_true rfl, Nat.le_of_ble_eq_true rfl⟩) (kpreV hP hD hK hS hE hA [1, 2, 3, 4, 5, 6, 7] rfl rfl 1 rfl rfl rfl) rfl rfl hl.1 rfl (lv_room (Nat.le_of_ble_eq_true rfl)) dX5_many_63 ⟨Nat.zero_le _, Nat.zero_le _⟩) hP hD hS hA [1, 2, 3, 4, 5, 6, 7] rfl rfl rfl (fun H locs hP hD hS => ?_)
      refine kci (Wx := (oTM q0 qn0 qk0 qr0 qc0 qt0 qd0 qs0 qf0 qw0 rowCount anyKept (oPort C qn0 qn1 qn2 qn3 qn4 qn5 qn6 now (oTape C qt0 qt1 tape (oDeed C qd0 qd1 deed []))))) (va_runS (As := [.int r4]) (rest := [.int (pCount now)]) ⟨hx, hb, hml, hown, hts⟩ (c_J6_bitCount_0f7a4 l E D C H.size r4 _ rfl) (va_cwS 1 hts gX5_many_J6_bitCount_0f7a4 rfl rfl rfl hdJ6_bitCount_0f7a4 ⟨Nat.le_of_ble_eq_true rfl, Nat.le_of_ble_eq_true rfl⟩) (kpre hP hD hK hS hE hA [] rfl rfl) rfl rfl hl.1 rfl (lv_room (Nat.le_of_ble_eq_true rfl)) dX5_many_66 ⟨Nat.zero_le _, Nat.zero_le _⟩) hP hD hS hA [] rfl rfl rfl (fun H locs hP hD hS => ?_)
      refine lv_isub hx hb dX5_many_69 ?_
      obtain ⟨t6, et6, hf⟩ := lj_e hf
      refine lv_ren et6 ?_
      cases hf
      exact kri hQ hAe hx hb hr hlocks hP hD hK hS dX5_many_70
    replace hf := if_fe c3 hf
    by_cases c7 : x0 = 2
    · replace hf := if_te c7 hf
      refine lv_tableIn (x := x0) (tgt := 71) (off := 70) hx hb dX5_many_1 (by rw [c7]; decide) (by rw [c7]; decide) (by rw [c7]; try rfl) (by decide) ?_
      refine lv_aload_n hx hb dX5_many_71 rfl (lv_at hl 0 rfl) ?_
      refine va_get (D := D) (ci := 5) (v := .ref qn0) (C := RX5) (T := TX5) (N := 11) hx hb hts hi_RX5 hown hK hP 0 rfl rfl 0 (by decide) (hts (.fieldLink RX5 10 "TravelMarks" "now" "LTravelMarks$Port;") (List.mem_of_getElem? (i := 1) rfl)) (fun _ h9 => h9) rfl dX5_many_72 ?_
      obtain ⟨r8, h9, hf⟩ := ob1_e hf
      refine kci (Wx := (oTM q0 qn0 qk0 qr0 qc0 qt0 qd0 qs0 qf0 qw0 rowCount anyKept (oPort C qn0 qn1 qn2 qn3 qn4 qn5 qn6 now (oTape C qt0 qt1 tape (oDeed C qd0 qd1 deed []))))) (va_runV (As := []) (rest := []) ⟨hx, hb, hml, hown, hts⟩ (c_X1_marked l E D C qn0 qn1 qn2 qn3 qn4 qn5 qn6 H.size N now r8 h9) (cwV 0 hts gX5_many_X1_marked rfl rfl rfl hdX1_marked ⟨Nat.le_of_ble_eq_true rfl, Nat.le_of_ble_eq_true rfl⟩) (kpreV hP hD hK hS hE hA [1, 2, 3, 4, 5, 6, 7] rfl rfl 1 rfl rfl rfl) rfl rfl hl.1 rfl (lv_room (Nat.le_of_ble_eq_true rfl)) dX5_many_75 ⟨Nat.zero_le _, Nat.zero_le _⟩) hP hD hS hA [1, 2, 3, 4, 5, 6, 7] rfl rfl rfl (fun H locs hP hD hS => ?_)
      refine kci (Wx := (oTM q0 qn0 qk0 qr0 qc0 qt0 qd0 qs0 qf0 qw0 rowCount anyKept (oPort C qn0 qn1 qn2 qn3 qn4 qn5 qn6 now (oTape C qt0 qt1 tape (oDeed C qd0 qd1 deed []))))) (va_runS (As := [.int r8]) (rest := []) ⟨hx, hb, hml, hown, hts⟩ (c_J6_bitCount_0f7a4 l E D C H.size r8 _ rfl) (va_cwS 1 hts gX5_many_J6_bitCount_0f7a4 rfl rfl rfl hdJ6_bitCount_0f7a4 ⟨Nat.le_of_ble_eq_true rfl, Nat.le_of_ble_eq_true rfl⟩) (kpre hP hD hK hS hE hA [] rfl rfl) rfl rfl hl.1 rfl (lv_room (Nat.le_of_ble_eq_true rfl)) dX5_many_78 ⟨Nat.zero_le _, Nat.zero_le _⟩) hP hD hS hA [] rfl rfl rfl (fun H locs hP hD hS => ?_)
      obtain ⟨t10, et10, hf⟩ := lj_e hf
      refine lv_ren et10 ?_
      cases hf
      exact kri hQ hAe hx hb hr hlocks hP hD hK hS dX5_many_81
    replace hf := if_fe c7 hf
    by_cases c11 : x0 = 3
    · replace hf := if_te c11 hf
      refine lv_tableIn (x := x0) (tgt := 82) (off := 81) hx hb dX5_many_1 (by rw [c11]; decide) (by rw [c11]; decide) (by rw [c11]; try rfl) (by decide) ?_
      refine lv_aload_n hx hb dX5_many_82 rfl (lv_at hl 0 rfl) ?_
      refine va_get (D := D) (ci := 5) (v := .ref qn0) (C := RX5) (T := TX5) (N := 11) hx hb hts hi_RX5 hown hK hP 0 rfl rfl 0 (by decide) (hts (.fieldLink RX5 10 "TravelMarks" "now" "LTravelMarks$Port;") (List.mem_of_getElem? (i := 1) rfl)) (fun _ h9 => h9) rfl dX5_many_83 ?_
      obtain ⟨r12, h13, hf⟩ := ob1_e hf
      refine kci (Wx := (oTM q0 qn0 qk0 qr0 qc0 qt0 qd0 qs0 qf0 qw0 rowCount anyKept (oPort C qn0 qn1 qn2 qn3 qn4 qn5 qn6 now (oTape C qt0 qt1 tape (oDeed C qd0 qd1 deed []))))) (va_runV (As := []) (rest := []) ⟨hx, hb, hml, hown, hts⟩ (c_X1_touches l E D C qn0 qn1 qn2 qn3 qn4 qn5 qn6 H.size N now r12 h13) (cwV 0 hts gX5_many_X1_touches rfl rfl rfl hdX1_touches ⟨Nat.le_of_ble_eq_true rfl, Nat.le_of_ble_eq_true rfl⟩) (kpreV hP hD hK hS hE hA [1, 2, 3, 4, 5, 6, 7] rfl rfl 1 rfl rfl rfl) rfl rfl hl.1 rfl (lv_room (Nat.le_of_ble_eq_true rfl)) dX5_many_86 ⟨Nat.zero_le _, Nat.zero_le _⟩) hP hD hS hA [1, 2, 3, 4, 5, 6, 7] rfl rfl rfl (fun H locs hP hD hS => ?_)
      cases hf
      exact kri hQ hAe hx hb hr hlocks hP hD hK hS dX5_many_89
    replace hf := if_fe c11 hf
    by_cases c14 : x0 = 4
    · replace hf := if_te c14 hf
      refine lv_tableIn (x := x0) (tgt := 90) (off := 89) hx hb dX5_many_1 (by rw [c14]; decide) (by rw [c14]; decide) (by rw [c14]; try rfl) (by decide) ?_
      refine lv_aload_n hx hb dX5_many_90 rfl (lv_at hl 0 rfl) ?_
      refine va_get (D := D) (ci := 5) (v := .int rowCount) (C := RX5) (T := TX5) (N := 11) hx hb hts hi_RX5 hown hK hP 0 rfl rfl 9 (by decide) (hts (.fieldLink RX5 83 "TravelMarks" "rowCount" "I") (List.mem_of_getElem? (i := 3) rfl)) (fun _ h9 => h9) rfl dX5_many_91 ?_
      cases hf
      exact kri hQ hAe hx hb hr hlocks hP hD hK hS dX5_many_94
    replace hf := if_fe c14 hf
    by_cases c15 : x0 = 5
    · replace hf := if_te c15 hf
      refine lv_tableIn (x := x0) (tgt := 95) (off := 94) hx hb dX5_many_1 (by rw [c15]; decide) (by rw [c15]; decide) (by rw [c15]; try rfl) (by decide) ?_
      refine lv_aload_n hx hb dX5_many_95 rfl (lv_at hl 0 rfl) ?_
      refine va_get (D := D) (ci := 5) (v := .ref qt0) (C := RX5) (T := TX5) (N := 11) hx hb hts hi_RX5 hown hK hP 0 rfl rfl 4 (by decide) (hts (.fieldLink RX5 28 "TravelMarks" "tape" "LTravelMarks$Tape;") (List.mem_of_getElem? (i := 4) rfl)) (fun _ h9 => h9) rfl dX5_many_96 ?_
      refine va_get (D := D) (ci := 4) (v := .int (tpLength tape)) (C := RX4) (T := TX4) (N := 6) hx hb hts hi_RX4 hown hK hP 8 rfl rfl 1 (by decide) (hts (.fieldLink RX5 76 "TravelMarks$Tape" "length" "I") (List.mem_of_getElem? (i := 5) rfl)) (fun _ h9 => h9) rfl dX5_many_99 ?_
      obtain ⟨t16, et16, hf⟩ := lj_e hf
      refine lv_ren et16 ?_
      cases hf
      exact kri hQ hAe hx hb hr hlocks hP hD hK hS dX5_many_102
    replace hf := if_fe c15 hf
    by_cases c17 : x0 = 6
    · replace hf := if_te c17 hf
      refine lv_tableIn (x := x0) (tgt := 103) (off := 102) hx hb dX5_many_1 (by rw [c17]; decide) (by rw [c17]; decide) (by rw [c17]; try rfl) (by decide) ?_
      refine lv_aload_n hx hb dX5_many_103 rfl (lv_at hl 0 rfl) ?_
      refine va_get (D := D) (ci := 5) (v := .ref qd0) (C := RX5) (T := TX5) (N := 11) hx hb hts hi_RX5 hown hK hP 0 rfl rfl 5 (by decide) (hts (.fieldLink RX5 35 "TravelMarks" "deed" "LTravelMarks$Deed;") (List.mem_of_getElem? (i := 6) rfl)) (fun _ h9 => h9) rfl dX5_many_104 ?_
      refine va_get (D := D) (ci := 0) (v := .int (ddRan deed)) (C := RX0) (T := TX0) (N := 6) hx hb hts hi_RX0 hown hK hP 10 rfl rfl 1 (by decide) (hts (.fieldLink RX5 295 "TravelMarks$Deed" "ran" "I") (List.mem_of_getElem? (i := 7) rfl)) (fun _ h9 => h9) rfl dX5_many_107 ?_
      obtain ⟨t18, et18, hf⟩ := lj_e hf
      refine lv_ren et18 ?_
      cases hf
      exact kri hQ hAe hx hb hr hlocks hP hD hK hS dX5_many_110
    replace hf := if_fe c17 hf
    refine lv_tableOut (x := x0) (tgt := 111) hx hb dX5_many_1 (swo_0_6 c1 c3 c7 c11 c14 c15 c17) (by decide) ?_
    refine lv_iconst (v := (-1)) hx hb dX5_many_111 rfl ?_
    cases hf
    exact kri hQ hAe hx hb hr hlocks hP hD hK hS dX5_many_112
  exact main _ _ hP hD hS

def rmX5_keep : Room := { frames := 2, cells := 0, slots := 0, locals := 81 }
theorem hdX5_keep : yX5_keep.cls = RX5 ∧ yX5_keep.cls ≠ "java/lang/invoke/MethodHandle" ∧ yX5_keep.cls ≠ "java/lang/invoke/VarHandle" ∧ (parseMethodDescriptor yX5_keep.desc).map (fun d => d.parameters.length) = some 0 := by decide +kernel
set_option maxHeartbeats 40000000 in
set_option maxRecDepth 100000 in
theorem c_X5_keep (l : Launch) (E : Nat → Nat) (D : va_G) (C : Nat → ClassId) (q0 qn0 qk0 qr0 qc0 qt0 qd0 qs0 qf0 qw0 qn1 qn2 qn3 qn4 qn5 qn6 qk1 qk2 qk3 qk4 qk5 qk6 : Nat) (sz : Nat) (rowCount : Int32) (anyKept : Int32) (now : PV) (kept : PV)  (r : Int32) (anyKept' : Int32) (kept' : PV) (hf : f_X5_keep anyKept now kept = some (r, anyKept', kept')) : Met l yX5_keep wsX5_keep rmX5_keep (PC E D C [.ref q0] (oTM q0 qn0 qk0 qr0 qc0 qt0 qd0 qs0 qf0 qw0 rowCount anyKept (oPort C qn0 qn1 qn2 qn3 qn4 qn5 qn6 now (oPort C qk0 qk1 qk2 qk3 qk4 qk5 qk6 kept []))) sz) (QI D C (oTM q0 qn0 qk0 qr0 qc0 qt0 qd0 qs0 qf0 qw0 rowCount anyKept (oPort C qn0 qn1 qn2 qn3 qn4 qn5 qn6 now (oPort C qk0 qk1 qk2 qk3 qk4 qk5 qk6 kept []))) (oTM q0 qn0 qk0 qr0 qc0 qt0 qd0 qs0 qf0 qw0 rowCount (anyKept') (oPort C qn0 qn1 qn2 qn3 qn4 qn5 qn6 now (oPort C qk0 qk1 qk2 qk3 qk4 qk5 qk6 (kept') []))) sz r) 0 0 (va_A (oTM q0 qn0 qk0 qr0 qc0 qt0 qd0 qs0 qf0 qw0 rowCount anyKept (oPort C qn0 qn1 qn2 qn3 qn4 qn5 qn6 now (oPort C qk0 qk1 qk2 qk3 qk4 qk5 qk6 kept []))) sz) := by
  refine Met.ofW (cc := cX5_keep) (maxL := 1) (ret := (some .int)) (by decide) rfl ?_
  intro p e s m args below meth c s₁ B hml hv
  obtain ⟨rfl, hsz, hP, hK, hD0, hE⟩ := hv
  have hx := B.exec
  have hb := B.bytes
  have hr := B.returns
  have hts := atoms_spec (ws := wsX5_keep) B.pre
  have hown : s.vm.findClass RX5 = some m.cls := findClass_of_methodNamed B.named
  have hlocks := B.notSynchronized
  subst hsz
  have hi_RX5 : ∀ w ∈ wsX50, w ∈ wsX5_keep := fun _ h => List.mem_cons_of_mem _ (List.mem_append_left _ (List.mem_append_right _ h))
  have hD := hD0.self (sz := s.heap.size)
  obtain ⟨A, hAe⟩ := nm_ex (va_A (oTM q0 qn0 qk0 qr0 qc0 qt0 qd0 qs0 qf0 qw0 rowCount anyKept (oPort C qn0 qn1 qn2 qn3 qn4 qn5 qn6 now (oPort C qk0 qk1 qk2 qk3 qk4 qk5 qk6 kept []))) s.heap.size)
  rw [← hAe] at hD hE ⊢
  have hA : ∀ q : Nat, s.heap.size ≤ q → A q := fun q h => by rw [hAe]; exact Or.inr h
  have hS : va_S A s.heap s.heap [] := va_S.rf
  have hl := lv_entry ([.ref q0]) (n := 1) (Nat.le_of_ble_eq_true rfl)
  rw [lg_entry_eq]
  generalize (lg_sl ([.ref q0]) ++ List.replicate (1 - (lg_sl ([.ref q0])).length) Slot.unset).toArray = ls at hl ⊢
  have hl : lv_has ls 1 [(0, .ref q0)] := hl
  obtain ⟨Q, hQ⟩ := nm_ex (MQ below (QI D C (oTM q0 qn0 qk0 qr0 qc0 qt0 qd0 qs0 qf0 qw0 rowCount anyKept (oPort C qn0 qn1 qn2 qn3 qn4 qn5 qn6 now (oPort C qk0 qk1 qk2 qk3 qk4 qk5 qk6 kept []))) (oTM q0 qn0 qk0 qr0 qc0 qt0 qd0 qs0 qf0 qw0 rowCount (anyKept') (oPort C qn0 qn1 qn2 qn3 qn4 qn5 qn6 now (oPort C qk0 qk1 qk2 qk3 qk4 qk5 qk6 (kept') []))) s.heap.size r) (List.toArray [Value.ref q0]) s 0 0 A)
  show W p l e (headSpec wsX5_keep (rmX5_keep)).room s m (List.toArray [Value.ref q0]) below meth c s.heap [] 0 0 (MQ below (QI D C (oTM q0 qn0 qk0 qr0 qc0 qt0 qd0 qs0 qf0 qw0 rowCount anyKept (oPort C qn0 qn1 qn2 qn3 qn4 qn5 qn6 now (oPort C qk0 qk1 qk2 qk3 qk4 qk5 qk6 kept []))) (oTM q0 qn0 qk0 qr0 qc0 qt0 qd0 qs0 qf0 qw0 rowCount (anyKept') (oPort C qn0 qn1 qn2 qn3 qn4 qn5 qn6 now (oPort C qk0 qk1 qk2 qk3 qk4 qk5 qk6 (kept') []))) s.heap.size r) (List.toArray [Value.ref q0]) s 0 0 A) _
  rw [← hQ]
  unfold f_X5_keep at hf
  have main : ∀ (H : Heap) (locs : List Loc), va_P D vwCl (oTM q0 qn0 qk0 qr0 qc0 qt0 qd0 qs0 qf0 qw0 rowCount anyKept (oPort C qn0 qn1 qn2 qn3 qn4 qn5 qn6 now (oPort C qk0 qk1 qk2 qk3 qk4 qk5 qk6 kept []))) H → va_D A (oTM q0 qn0 qk0 qr0 qc0 qt0 qd0 qs0 qf0 qw0 rowCount anyKept (oPort C qn0 qn1 qn2 qn3 qn4 qn5 qn6 now (oPort C qk0 qk1 qk2 qk3 qk4 qk5 qk6 kept []))) → va_S A s.heap H locs → W p l e (headSpec wsX5_keep (rmX5_keep)).room s m (List.toArray [Value.ref q0]) below meth c H locs 0 0 Q (F0 m 0 ls []) := by
    intro H locs hP hD hS
    refine lv_aload_n hx hb dX5_keep_0 rfl (lv_at hl 0 rfl) ?_
    refine va_get (D := D) (ci := 5) (v := .ref qk0) (C := RX5) (T := TX5) (N := 11) hx hb hts hi_RX5 hown hK hP 0 rfl rfl 1 (by decide) (hts (.fieldLink RX5 16 "TravelMarks" "kept" "LTravelMarks$Port;") (List.mem_of_getElem? (i := 1) rfl)) (fun _ h9 => h9) rfl dX5_keep_1 ?_
    refine lv_aload_n hx hb dX5_keep_4 rfl (lv_at hl 0 rfl) ?_
    refine va_get (D := D) (ci := 5) (v := .ref qn0) (C := RX5) (T := TX5) (N := 11) hx hb hts hi_RX5 hown hK hP 0 rfl rfl 0 (by decide) (hts (.fieldLink RX5 10 "TravelMarks" "now" "LTravelMarks$Port;") (List.mem_of_getElem? (i := 2) rfl)) (fun _ h9 => h9) rfl dX5_keep_5 ?_
    obtain ⟨v1, h2, hf⟩ := ob1_e hf
    refine kcv (Wx := (oTM q0 qn0 qk0 qr0 qc0 qt0 qd0 qs0 qf0 qw0 rowCount anyKept (oPort C qn0 qn1 qn2 qn3 qn4 qn5 qn6 now (oPort C qk0 qk1 qk2 qk3 qk4 qk5 qk6 v1 [])))) (va_runV (As := [.ref qn0]) (rest := []) ⟨hx, hb, hml, hown, hts⟩ (c_X1_become l E D C qk0 qk1 qk2 qk3 qk4 qk5 qk6 qn0 qn1 qn2 qn3 qn4 qn5 qn6 H.size kept now v1 h2) (cwV 1 hts gX5_keep_X1_become rfl rfl rfl hdX1_become ⟨Nat.le_of_ble_eq_true rfl, Nat.le_of_ble_eq_true rfl⟩) (kpreV hP hD hK hS hE hA [8, 9, 10, 11, 12, 13, 14, 1, 2, 3, 4, 5, 6, 7] rfl rfl 8 rfl rfl rfl) rfl rfl hl.1 rfl (lv_room (Nat.le_of_ble_eq_true rfl)) dX5_keep_8 ⟨Nat.zero_le _, Nat.zero_le _⟩) hP hD hS hA [8, 9, 10, 11, 12, 13, 14, 1, 2, 3, 4, 5, 6, 7] rfl rfl rfl (fun H locs hP hD hS => ?_)
    refine lv_aload_n hx hb dX5_keep_11 rfl (lv_at hl 0 rfl) ?_
    refine lv_iconst (v := 1) hx hb dX5_keep_12 rfl ?_
    refine va_put (D := D) (ci := 5) (v := .int 1) (ty := .boolean) (C := RX5) (T := TX5) (N := 11) hx hb hts hi_RX5 tyX5 tyX5_ok nmX5 hown hK hP hD hS 0 rfl rfl 10 (by decide) (hts (.fieldLink RX5 304 "TravelMarks" "anyKept" "Z") (List.mem_of_getElem? (i := 3) rfl)) (fun _ h9 => h9) rfl (tyX5_ok 10 (by decide)) zb_1.1 zb_1.2 (Nat.le_of_ble_eq_true rfl) dX5_keep_13 (fun H locs hP hD hS => ?_)
    have hP : va_P D vwCl (oTM q0 qn0 qk0 qr0 qc0 qt0 qd0 qs0 qf0 qw0 rowCount 1 (oPort C qn0 qn1 qn2 qn3 qn4 qn5 qn6 now (oPort C qk0 qk1 qk2 qk3 qk4 qk5 qk6 v1 []))) H := hP
    have hD : va_D A (oTM q0 qn0 qk0 qr0 qc0 qt0 qd0 qs0 qf0 qw0 rowCount 1 (oPort C qn0 qn1 qn2 qn3 qn4 qn5 qn6 now (oPort C qk0 qk1 qk2 qk3 qk4 qk5 qk6 v1 []))) := hD
    refine lv_iconst (v := 1) hx hb dX5_keep_16 rfl ?_
    cases hf
    exact kri hQ hAe hx hb hr hlocks hP hD hK hS dX5_keep_17
  exact main _ _ hP hD hS

def rmX5_again : Room := { frames := 2, cells := 0, slots := 0, locals := 81 }
theorem hdX5_again : yX5_again.cls = RX5 ∧ yX5_again.cls ≠ "java/lang/invoke/MethodHandle" ∧ yX5_again.cls ≠ "java/lang/invoke/VarHandle" ∧ (parseMethodDescriptor yX5_again.desc).map (fun d => d.parameters.length) = some 0 := by decide +kernel
set_option maxHeartbeats 40000000 in
set_option maxRecDepth 100000 in
theorem c_X5_again (l : Launch) (E : Nat → Nat) (D : va_G) (C : Nat → ClassId) (q0 qn0 qk0 qr0 qc0 qt0 qd0 qs0 qf0 qw0 qn1 qn2 qn3 qn4 qn5 qn6 qk1 qk2 qk3 qk4 qk5 qk6 : Nat) (sz : Nat) (rowCount : Int32) (anyKept : Int32) (now : PV) (kept : PV)  (r : Int32) (now' : PV) (hf : f_X5_again anyKept now kept = some (r, now')) : Met l yX5_again wsX5_again rmX5_again (PC E D C [.ref q0] (oTM q0 qn0 qk0 qr0 qc0 qt0 qd0 qs0 qf0 qw0 rowCount anyKept (oPort C qn0 qn1 qn2 qn3 qn4 qn5 qn6 now (oPort C qk0 qk1 qk2 qk3 qk4 qk5 qk6 kept []))) sz) (QI D C (oTM q0 qn0 qk0 qr0 qc0 qt0 qd0 qs0 qf0 qw0 rowCount anyKept (oPort C qn0 qn1 qn2 qn3 qn4 qn5 qn6 now (oPort C qk0 qk1 qk2 qk3 qk4 qk5 qk6 kept []))) (oTM q0 qn0 qk0 qr0 qc0 qt0 qd0 qs0 qf0 qw0 rowCount anyKept (oPort C qn0 qn1 qn2 qn3 qn4 qn5 qn6 (now') (oPort C qk0 qk1 qk2 qk3 qk4 qk5 qk6 kept []))) sz r) 0 0 (va_A (oTM q0 qn0 qk0 qr0 qc0 qt0 qd0 qs0 qf0 qw0 rowCount anyKept (oPort C qn0 qn1 qn2 qn3 qn4 qn5 qn6 now (oPort C qk0 qk1 qk2 qk3 qk4 qk5 qk6 kept []))) sz) := by
  refine Met.ofW (cc := cX5_again) (maxL := 1) (ret := (some .int)) (by decide) rfl ?_
  intro p e s m args below meth c s₁ B hml hv
  obtain ⟨rfl, hsz, hP, hK, hD0, hE⟩ := hv
  have hx := B.exec
  have hb := B.bytes
  have hr := B.returns
  have hts := atoms_spec (ws := wsX5_again) B.pre
  have hown : s.vm.findClass RX5 = some m.cls := findClass_of_methodNamed B.named
  have hlocks := B.notSynchronized
  subst hsz
  have hi_RX1 : ∀ w ∈ wsX10, w ∈ wsX5_again := fun _ h => List.mem_cons_of_mem _ (List.mem_append_right _ h)
  have hi_RX5 : ∀ w ∈ wsX50, w ∈ wsX5_again := fun _ h => List.mem_cons_of_mem _ (List.mem_append_left _ (List.mem_append_right _ h))
  have hD := hD0.self (sz := s.heap.size)
  obtain ⟨A, hAe⟩ := nm_ex (va_A (oTM q0 qn0 qk0 qr0 qc0 qt0 qd0 qs0 qf0 qw0 rowCount anyKept (oPort C qn0 qn1 qn2 qn3 qn4 qn5 qn6 now (oPort C qk0 qk1 qk2 qk3 qk4 qk5 qk6 kept []))) s.heap.size)
  rw [← hAe] at hD hE ⊢
  have hA : ∀ q : Nat, s.heap.size ≤ q → A q := fun q h => by rw [hAe]; exact Or.inr h
  have hS : va_S A s.heap s.heap [] := va_S.rf
  have hl := lv_entry ([.ref q0]) (n := 1) (Nat.le_of_ble_eq_true rfl)
  rw [lg_entry_eq]
  generalize (lg_sl ([.ref q0]) ++ List.replicate (1 - (lg_sl ([.ref q0])).length) Slot.unset).toArray = ls at hl ⊢
  have hl : lv_has ls 1 [(0, .ref q0)] := hl
  obtain ⟨Q, hQ⟩ := nm_ex (MQ below (QI D C (oTM q0 qn0 qk0 qr0 qc0 qt0 qd0 qs0 qf0 qw0 rowCount anyKept (oPort C qn0 qn1 qn2 qn3 qn4 qn5 qn6 now (oPort C qk0 qk1 qk2 qk3 qk4 qk5 qk6 kept []))) (oTM q0 qn0 qk0 qr0 qc0 qt0 qd0 qs0 qf0 qw0 rowCount anyKept (oPort C qn0 qn1 qn2 qn3 qn4 qn5 qn6 (now') (oPort C qk0 qk1 qk2 qk3 qk4 qk5 qk6 kept []))) s.heap.size r) (List.toArray [Value.ref q0]) s 0 0 A)
  show W p l e (headSpec wsX5_again (rmX5_again)).room s m (List.toArray [Value.ref q0]) below meth c s.heap [] 0 0 (MQ below (QI D C (oTM q0 qn0 qk0 qr0 qc0 qt0 qd0 qs0 qf0 qw0 rowCount anyKept (oPort C qn0 qn1 qn2 qn3 qn4 qn5 qn6 now (oPort C qk0 qk1 qk2 qk3 qk4 qk5 qk6 kept []))) (oTM q0 qn0 qk0 qr0 qc0 qt0 qd0 qs0 qf0 qw0 rowCount anyKept (oPort C qn0 qn1 qn2 qn3 qn4 qn5 qn6 (now') (oPort C qk0 qk1 qk2 qk3 qk4 qk5 qk6 kept []))) s.heap.size r) (List.toArray [Value.ref q0]) s 0 0 A) _
  rw [← hQ]
  unfold f_X5_again at hf
  have main : ∀ (H : Heap) (locs : List Loc), va_P D vwCl (oTM q0 qn0 qk0 qr0 qc0 qt0 qd0 qs0 qf0 qw0 rowCount anyKept (oPort C qn0 qn1 qn2 qn3 qn4 qn5 qn6 now (oPort C qk0 qk1 qk2 qk3 qk4 qk5 qk6 kept []))) H → va_D A (oTM q0 qn0 qk0 qr0 qc0 qt0 qd0 qs0 qf0 qw0 rowCount anyKept (oPort C qn0 qn1 qn2 qn3 qn4 qn5 qn6 now (oPort C qk0 qk1 qk2 qk3 qk4 qk5 qk6 kept []))) → va_S A s.heap H locs → W p l e (headSpec wsX5_again (rmX5_again)).room s m (List.toArray [Value.ref q0]) below meth c H locs 0 0 Q (F0 m 0 ls []) := by
    intro H locs hP hD hS
    refine lv_aload_n hx hb dX5_again_0 rfl (lv_at hl 0 rfl) ?_
    refine va_get (D := D) (ci := 5) (v := .int anyKept) (C := RX5) (T := TX5) (N := 11) hx hb hts hi_RX5 hown hK hP 0 rfl rfl 10 (by decide) (hts (.fieldLink RX5 304 "TravelMarks" "anyKept" "Z") (List.mem_of_getElem? (i := 1) rfl)) (fun _ h9 => h9) rfl dX5_again_1 ?_
    refine lv_if_ne (tgt := 10) hx hb dX5_again_4 (by decide) (fun c1 => ?_) (fun c1 => ?_)
    · replace hf := if_fe c1 hf
      refine lv_aload_n hx hb dX5_again_10 rfl (lv_at hl 0 rfl) ?_
      refine va_get (D := D) (ci := 5) (v := .ref qn0) (C := RX5) (T := TX5) (N := 11) hx hb hts hi_RX5 hown hK hP 0 rfl rfl 0 (by decide) (hts (.fieldLink RX5 10 "TravelMarks" "now" "LTravelMarks$Port;") (List.mem_of_getElem? (i := 2) rfl)) (fun _ h9 => h9) rfl dX5_again_11 ?_
      refine lv_aload_n hx hb dX5_again_14 rfl (lv_at hl 0 rfl) ?_
      refine va_get (D := D) (ci := 5) (v := .ref qk0) (C := RX5) (T := TX5) (N := 11) hx hb hts hi_RX5 hown hK hP 0 rfl rfl 1 (by decide) (hts (.fieldLink RX5 16 "TravelMarks" "kept" "LTravelMarks$Port;") (List.mem_of_getElem? (i := 3) rfl)) (fun _ h9 => h9) rfl dX5_again_15 ?_
      obtain ⟨v2, h3, hf⟩ := ob1_e hf
      refine kcv (Wx := (oTM q0 qn0 qk0 qr0 qc0 qt0 qd0 qs0 qf0 qw0 rowCount anyKept (oPort C qn0 qn1 qn2 qn3 qn4 qn5 qn6 v2 (oPort C qk0 qk1 qk2 qk3 qk4 qk5 qk6 kept [])))) (va_runV (As := [.ref qk0]) (rest := []) ⟨hx, hb, hml, hown, hts⟩ (c_X1_become l E D C qn0 qn1 qn2 qn3 qn4 qn5 qn6 qk0 qk1 qk2 qk3 qk4 qk5 qk6 H.size now kept v2 h3) (cwV 1 hts gX5_again_X1_become rfl rfl rfl hdX1_become ⟨Nat.le_of_ble_eq_true rfl, Nat.le_of_ble_eq_true rfl⟩) (kpreV hP hD hK hS hE hA [1, 2, 3, 4, 5, 6, 7, 8, 9, 10, 11, 12, 13, 14] rfl rfl 1 rfl rfl rfl) rfl rfl hl.1 rfl (lv_room (Nat.le_of_ble_eq_true rfl)) dX5_again_18 ⟨Nat.zero_le _, Nat.zero_le _⟩) hP hD hS hA [1, 2, 3, 4, 5, 6, 7, 8, 9, 10, 11, 12, 13, 14] rfl rfl rfl (fun H locs hP hD hS => ?_)
      refine lv_aload_n hx hb dX5_again_21 rfl (lv_at hl 0 rfl) ?_
      refine va_get (D := D) (ci := 5) (v := .ref qn0) (C := RX5) (T := TX5) (N := 11) hx hb hts hi_RX5 hown hK hP 0 rfl rfl 0 (by decide) (hts (.fieldLink RX5 10 "TravelMarks" "now" "LTravelMarks$Port;") (List.mem_of_getElem? (i := 2) rfl)) (fun _ h9 => h9) rfl dX5_again_22 ?_
      refine va_get (D := D) (ci := 1) (v := .int (pCount v2)) (C := RX1) (T := TX1) (N := 10) hx hb hts hi_RX1 hown hK hP 1 rfl rfl 6 (by decide) (hts (.fieldLink RX5 86 "TravelMarks$Port" "count" "I") (List.mem_of_getElem? (i := 4) rfl)) (fun _ h9 => h9) rfl dX5_again_25 ?_
      obtain ⟨t4, et4, hf⟩ := lj_e hf
      refine lv_ren et4 ?_
      cases hf
      exact kri hQ hAe hx hb hr hlocks hP hD hK hS dX5_again_28
    · replace hf := if_te c1 hf
      refine lv_bipush (v := (-3)) hx hb dX5_again_7 rfl ?_
      cases hf
      exact kri hQ hAe hx hb hr hlocks hP hD hK hS dX5_again_9
  exact main _ _ hP hD hS

