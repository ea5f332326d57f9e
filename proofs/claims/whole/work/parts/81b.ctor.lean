/-! constructors: what is new lies at the end -/
theorem jnT {A0 : Nat → Prop} {D : va_G} {cl : List vw_C} {wr wc w1 : va_W} {H H1 : Heap} (hP : va_P D cl (wr ++ wc) H) (hD : va_D A0 (wr ++ wc)) (hk : ∀ q : Nat, q < H.size → ¬ va_A wc H.size q → H1[q]? = H[q]?) (hF : ∀ q, va_A wc H.size q → A0 q) (hP1 : va_P D cl w1 H1) (hD1 : va_D (va_A wc H.size) w1) : va_P D cl (wr ++ w1) H1 ∧ va_D A0 (wr ++ w1) := by
  have gl : ∀ {i : Nat} {p : Nat × va_E}, wr[i]? = some p → (wr ++ wc)[i]? = some p := fun {i p} hp => by
    rw [List.getElem?_append_left (List.getElem?_eq_some_iff.mp hp).1]; exact hp
  have notA : ∀ p : Nat × va_E, p ∈ wr → ¬ va_A wc H.size p.1 := by
    intro p hp hA
    obtain ⟨i, hi⟩ := List.mem_iff_getElem?.mp hp
    rcases hA with ⟨j, e, hj⟩ | hge
    · exact dv_c hD hp (List.mem_of_getElem? hj) rfl
    · have := (hP i p (gl hi)).lt
      omega
  refine ⟨fun k q hq => ?_, dv_m (dv_l hD) ⟨hD1.1, fun k q hk => hF _ (hD1.2 k q hk)⟩ (fun p q hp hq e => ?_)⟩
  · by_cases hl : k < wr.length
    · rw [List.getElem?_append_left hl] at hq
      have h := hP k q (gl hq)
      exact h.kept (hk q.1 h.lt (notA q (List.mem_of_getElem? hq)))
    · rw [List.getElem?_append_right (by omega)] at hq
      exact hP1 _ q hq
  · obtain ⟨j, hj⟩ := List.mem_iff_getElem?.mp hq
    have h := hD1.2 j q hj
    rw [← e] at h
    exact notA p hp h
theorem pm_P {D : va_G} {cl : List vw_C} {H : Heap} {X Y Z S F : va_W} (h : va_P D cl (X ++ ((Y ++ Z) ++ (S ++ F))) H) : va_P D cl (X ++ (S ++ (Y ++ (F ++ Z)))) H := by
  intro k q hk
  have hm := List.mem_of_getElem? hk
  have hm2 : q ∈ X ++ ((Y ++ Z) ++ (S ++ F)) := by
    simp only [List.mem_append] at hm ⊢
    rcases hm with h | h | h | h | h
    · exact Or.inl h
    · exact Or.inr (Or.inr (Or.inl h))
    · exact Or.inr (Or.inl (Or.inl h))
    · exact Or.inr (Or.inr (Or.inr h))
    · exact Or.inr (Or.inl (Or.inr h))
  obtain ⟨i, hi⟩ := List.mem_iff_getElem?.mp hm2
  exact h i q hi
theorem pm_D {A : Nat → Prop} {X Y Z S F : va_W} (h : va_D A (X ++ ((Y ++ Z) ++ (S ++ F)))) : va_D A (X ++ (S ++ (Y ++ (F ++ Z)))) := by
  have hR := dv_r h
  have hYZ := dv_l hR
  have hSF := dv_r hR
  refine dv_m (dv_l h) (dv_m (dv_l hSF) (dv_m (dv_l hYZ) (dv_m (dv_r hSF) (dv_r hYZ) ?_) ?_) ?_) ?_
  · intro p q hp hq e
    exact dv_c hR (List.mem_append.mpr (Or.inr hq)) (List.mem_append.mpr (Or.inr hp)) e.symm
  · intro p q hp hq e
    rcases List.mem_append.mp hq with hq | hq
    · exact dv_c hR (List.mem_append.mpr (Or.inl hp)) (List.mem_append.mpr (Or.inr hq)) e
    · exact dv_c hYZ hp hq e
  · intro p q hp hq e
    rcases List.mem_append.mp hq with hq | hq
    · exact dv_c hR (List.mem_append.mpr (Or.inl hq)) (List.mem_append.mpr (Or.inl hp)) e.symm
    · rcases List.mem_append.mp hq with hq | hq
      · exact dv_c hSF hp hq e
      · exact dv_c hR (List.mem_append.mpr (Or.inr hq)) (List.mem_append.mpr (Or.inl hp)) e.symm
  · intro p q hp hq e
    refine dv_c h hp ?_ e
    simp only [List.mem_append] at hq ⊢
    rcases hq with h | h | h | h
    · exact Or.inr (Or.inl h)
    · exact Or.inl (Or.inl h)
    · exact Or.inr (Or.inr h)
    · exact Or.inl (Or.inr h)
theorem adr4_e (a b c d : Nat) : va_up (va_up (va_up (va_up (fun _ => none) 0 (some a)) 1 (some b)) 2 (some c)) 3 (some d) = adr4 a b c d := by
  funext j
  rcases (show j = 0 ∨ j = 1 ∨ j = 2 ∨ j = 3 ∨ 4 ≤ j by omega) with rfl | rfl | rfl | rfl | h
  · rfl
  · rfl
  · rfl
  · rfl
  · have e : adr4 a b c d j = none := by
      unfold adr4
      rw [List.getD_eq_getElem?_getD, List.getElem?_eq_none (by show 4 ≤ j; exact h)]
      rfl
    rw [e]
    show (if j = 3 then some d else if j = 2 then some c else if j = 1 then some b else if j = 0 then some a else none) = none
    rw [if_neg (by omega), if_neg (by omega), if_neg (by omega), if_neg (by omega)]
def PV0 : PV := (fun _ => 0, fun _ => 0, fun _ => 0, fun _ => 0, fun _ => 0, fun _ => 0, 0, 0, 1, 0)
def TV0 : TV := (fun _ => 0, 0, 0, 0, 0, 0)
def DV0 : DV := (fun _ => 0, 0, 0, 0, 0, 0)
def HV0 : HV := (fun _ => 0, -1, 0)
def FV0 : FV := (2, 0, 0, 0)
section CAQ
variable {s : State} {D : va_G} {C : Nat → ClassId} {cA : ClassId}
theorem cA_I (h : va_K D vwCl (tyL C ++ [(cA, .int)]) s) : cA = C 0 := Option.some.inj (((h.2 5 _ rfl).2 : s.vm.findClass ("[" ++ FieldType.int.toString) = some cA).symm.trans ((h.2 0 _ rfl).2 : s.vm.findClass ("[" ++ FieldType.int.toString) = some (C 0)))
theorem cA_B (h : va_K D vwCl (tyL C ++ [(cA, .byte)]) s) : cA = C 1 := Option.some.inj (((h.2 5 _ rfl).2 : s.vm.findClass ("[" ++ FieldType.byte.toString) = some cA).symm.trans ((h.2 1 _ rfl).2 : s.vm.findClass ("[" ++ FieldType.byte.toString) = some (C 1)))
theorem cA_J (h : va_K D vwCl (tyL C ++ [(cA, .long)]) s) : cA = C 2 := Option.some.inj (((h.2 5 _ rfl).2 : s.vm.findClass ("[" ++ FieldType.long.toString) = some cA).symm.trans ((h.2 2 _ rfl).2 : s.vm.findClass ("[" ++ FieldType.long.toString) = some (C 2)))
theorem cA_S (h : va_K D vwCl (tyL C ++ [(cA, .object "TravelMarks$Sheet")]) s) : cA = C 3 := by
  obtain ⟨-, -, -, -, -, h1⟩ := (h.2 5 _ rfl).2
  obtain ⟨-, -, -, -, -, h2⟩ := (h.2 3 _ rfl).2
  exact Option.some.inj (h1.symm.trans h2)
theorem cA_F (h : va_K D vwCl (tyL C ++ [(cA, .object "TravelMarks$Shelf")]) s) : cA = C 4 := by
  obtain ⟨-, -, -, -, -, h1⟩ := (h.2 5 _ rfl).2
  obtain ⟨-, -, -, -, -, h2⟩ := (h.2 4 _ rfl).2
  exact Option.some.inj (h1.symm.trans h2)
end CAQ
theorem dvX1 : ∀ j, j < 10 → defaultValue (tyX1 j) = vp_V [.null, .null, .null, .null, .null, .null, .int 0, .int 0, .int 0, .int 0] j := by
  intro j hj
  rcases (show j = 0 ∨ j = 1 ∨ j = 2 ∨ j = 3 ∨ j = 4 ∨ j = 5 ∨ j = 6 ∨ j = 7 ∨ j = 8 ∨ j = 9 by omega) with rfl | rfl | rfl | rfl | rfl | rfl | rfl | rfl | rfl | rfl <;> rfl
theorem dvX4 : ∀ j, j < 6 → defaultValue (tyX4 j) = vp_V [.null, .int 0, .int 0, .int 0, .int 0, .int 0] j := by
  intro j hj
  rcases (show j = 0 ∨ j = 1 ∨ j = 2 ∨ j = 3 ∨ j = 4 ∨ j = 5 by omega) with rfl | rfl | rfl | rfl | rfl | rfl <;> rfl
theorem dvX0 : ∀ j, j < 6 → defaultValue (tyX0 j) = vp_V [.null, .int 0, .int 0, .int 0, .int 0, .int 0] j := by
  intro j hj
  rcases (show j = 0 ∨ j = 1 ∨ j = 2 ∨ j = 3 ∨ j = 4 ∨ j = 5 by omega) with rfl | rfl | rfl | rfl | rfl | rfl <;> rfl
theorem dvX2 : ∀ j, j < 3 → defaultValue (tyX2 j) = vp_V [.null, .int 0, .int 0] j := by
  intro j hj
  rcases (show j = 0 ∨ j = 1 ∨ j = 2 by omega) with rfl | rfl | rfl <;> rfl
theorem dvX3 : ∀ j, j < 4 → defaultValue (tyX3 j) = vp_V [.int 0, .int 0, .int 0, .int 0] j := by
  intro j hj
  rcases (show j = 0 ∨ j = 1 ∨ j = 2 ∨ j = 3 by omega) with rfl | rfl | rfl | rfl <;> rfl
theorem dvX5 : ∀ j, j < 11 → defaultValue (tyX5 j) = vp_V [.null, .null, .null, .null, .null, .null, .null, .null, .null, .int 0, .int 0] j := by
  intro j hj
  rcases (show j = 0 ∨ j = 1 ∨ j = 2 ∨ j = 3 ∨ j = 4 ∨ j = 5 ∨ j = 6 ∨ j = 7 ∨ j = 8 ∨ j = 9 ∨ j = 10 by omega) with rfl | rfl | rfl | rfl | rfl | rfl | rfl | rfl | rfl | rfl | rfl <;> rfl
theorem dvX6 : ∀ j, j < 28 → defaultValue (tyX6 j) = vp_V [.null, .null, .null, .null, .int 0, .null, .int 0, .int 0, .int 0, .int 0, .int 0, .int 0, .null, .null, .null, .int 0, .null, .null, .null, .null, .null, .null, .null, .int 0, .int 0, .int 0, .int 0, .int 0] j := by
  intro j hj
  rcases (show j = 0 ∨ j = 1 ∨ j = 2 ∨ j = 3 ∨ j = 4 ∨ j = 5 ∨ j = 6 ∨ j = 7 ∨ j = 8 ∨ j = 9 ∨ j = 10 ∨ j = 11 ∨ j = 12 ∨ j = 13 ∨ j = 14 ∨ j = 15 ∨ j = 16 ∨ j = 17 ∨ j = 18 ∨ j = 19 ∨ j = 20 ∨ j = 21 ∨ j = 22 ∨ j = 23 ∨ j = 24 ∨ j = 25 ∨ j = 26 ∨ j = 27 by omega) with rfl | rfl | rfl | rfl | rfl | rfl | rfl | rfl | rfl | rfl | rfl | rfl | rfl | rfl | rfl | rfl | rfl | rfl | rfl | rfl | rfl | rfl | rfl | rfl | rfl | rfl | rfl | rfl <;> rfl
def rmX0_init : Room := { frames := 1, cells := 1, slots := 30, locals := 20 }
theorem hdX0_init : yX0_init.cls ≠ "java/lang/invoke/MethodHandle" ∧ yX0_init.cls ≠ "java/lang/invoke/VarHandle" ∧ (parseMethodDescriptor yX0_init.desc).map (fun d => d.parameters.length) = some 0 := by decide +kernel
set_option maxHeartbeats 40000000 in
set_option maxRecDepth 100000 in
theorem c_X0_init (l : Launch) (E : Nat → Nat) (D : va_G) (C : Nat → ClassId) (a0 sz : Nat) : Met l yX0_init wsX0_init rmX0_init (PC E D C [.ref a0] [(a0, .inr (0, [.null, .int 0, .int 0, .int 0, .int 0, .int 0]))] sz) (va_Qv (fun (_ : Unit) => True) (fun (_ : Unit) (t : State) => ∃ (q_1 : Nat), va_P D vwCl (oDeed C a0 q_1 DV0 []) t.heap ∧ va_K D vwCl (tyL C) t ∧ va_D (va_A [(a0, .inr (0, [.null, .int 0, .int 0, .int 0, .int 0, .int 0]))] sz) (oDeed C a0 q_1 DV0 [])) (va_A [(a0, .inr (0, [.null, .int 0, .int 0, .int 0, .int 0, .int 0]))] sz)) 1 30 (va_A [(a0, .inr (0, [.null, .int 0, .int 0, .int 0, .int 0, .int 0]))] sz) := by
  refine Met.ofW (cc := cX0_init) (maxL := 1) (ret := none) (by decide) rfl ?_
  intro p e s m args below meth c s₁ B hml hv
  obtain ⟨rfl, hsz, hP, hK, hD0, hE⟩ := hv
  have hx := B.exec
  have hb := B.bytes
  have hr := B.returns
  have hts := atoms_spec (ws := wsX0_init) B.pre
  have hown : s.vm.findClass RX0 = some m.cls := findClass_of_methodNamed B.named
  have hlocks := B.notSynchronized
  have hin : meth.name = "<init>" := (name_of_methodNamed B.named B.method).1
  subst hsz
  have hi_RX0 : ∀ w ∈ wsX00, w ∈ wsX0_init := fun _ h => List.mem_cons_of_mem _ (List.mem_append_right _ h)
  have hD := hD0.self (sz := s.heap.size)
  obtain ⟨A, hAe⟩ := nm_ex (va_A [(a0, .inr (0, [.null, .int 0, .int 0, .int 0, .int 0, .int 0]))] s.heap.size)
  rw [← hAe] at hD hE
  have hA : ∀ q : Nat, s.heap.size ≤ q → A q := fun q h => by rw [hAe]; exact Or.inr h
  have hS : va_S A s.heap s.heap [] := va_S.rf
  have hl := lv_entry ([.ref a0]) (n := 1) (Nat.le_of_ble_eq_true rfl)
  rw [lg_entry_eq]
  generalize (lg_sl ([.ref a0]) ++ List.replicate (1 - (lg_sl ([.ref a0])).length) Slot.unset).toArray = ls at hl ⊢
  have hl : lv_has ls 1 [(0, .ref a0)] := hl
  suffices main : ∀ (H : Heap) (locs : List Loc), va_P D vwCl [(a0, .inr (0, [.null, .int 0, .int 0, .int 0, .int 0, .int 0]))] H → va_D A [(a0, .inr (0, [.null, .int 0, .int 0, .int 0, .int 0, .int 0]))] → va_S A s.heap H locs → W p l e (headSpec wsX0_init rmX0_init).room s m (List.toArray [Value.ref a0]) below meth c H locs 0 0 (MQ below (va_Qv (fun (_ : Unit) => True) (fun (_ : Unit) (t : State) => ∃ (q_1 : Nat), va_P D vwCl (oDeed C a0 q_1 DV0 []) t.heap ∧ va_K D vwCl (tyL C) t ∧ va_D (va_A [(a0, .inr (0, [.null, .int 0, .int 0, .int 0, .int 0, .int 0]))] s.heap.size) (oDeed C a0 q_1 DV0 [])) (va_A [(a0, .inr (0, [.null, .int 0, .int 0, .int 0, .int 0, .int 0]))] s.heap.size)) (List.toArray [Value.ref a0]) s 1 30 (va_A [(a0, .inr (0, [.null, .int 0, .int 0, .int 0, .int 0, .int 0]))] s.heap.size)) (F0 m 0 ls []) from main _ _ hP hD hS
  intro H locs hP hD hS
  refine lv_aload_n hx hb dX0_init_0 rfl (lv_at hl 0 rfl) ?_
  refine W.objInit hx hb hown (hts (.methodLink RX0 3 objectInit) (List.mem_of_getElem? (i := 1) rfl)) (hts (.instanceMethod objectInit) (List.mem_of_getElem? (i := 2) rfl)) (hts (.code objectInit ⟨#[0xb1]⟩ 1 none) (List.mem_of_getElem? (i := 3) rfl)) rfl (by rw [hml]; exact hl.1) rfl dX0_init_1 (Nat.le_of_ble_eq_true rfl) (Nat.le_of_ble_eq_true rfl) ?_
  refine W.eq (g2 := F0 m 4 ls []) rfl ?_
  refine lv_aload_n hx hb dX0_init_4 rfl (lv_at hl 0 rfl) ?_
  refine lv_bipush (v := 30) hx hb dX0_init_5 rfl ?_
  refine va_newa (atype := .int) hx hb (hts (.arrayClass .int) (List.mem_of_getElem? (i := 4) rfl)) rfl hK hP hD hS hA (N' := 30) (a0 := (30, .inl (fun _ => 0))) (fun _ => rfl) (by decide) (by decide) (Nat.le_of_ble_eq_true rfl) (Nat.le_of_ble_eq_true rfl) (Nat.le_of_ble_eq_true rfl) dX0_init_7 (fun q_1 cA H hK1 hP hD hS => ?_)
  obtain rfl : cA = C 0 := cA_I hK1
  have hP : va_P D vwCl [(a0, .inr (0, [.null, .int 0, .int 0, .int 0, .int 0, .int 0])), (q_1, .inl (C 0, 30, .inl (fun _ => 0)))] H := hP
  have hD : va_D A [(a0, .inr (0, [.null, .int 0, .int 0, .int 0, .int 0, .int 0])), (q_1, .inl (C 0, 30, .inl (fun _ => 0)))] := hD
  refine W.widen (k := 1) (n := 30) (by omega) (by omega) ?_
  refine va_putF (D := D) (ci := 0) (v := .ref q_1) (ty := (.array .int)) (C := RX0) (T := TX0) (N := 6) hx hb hts hi_RX0 tyX0 tyX0_ok nmX0 hown hK hP hD hS 0 rfl rfl 0 (by decide) (hts (.fieldLink RX0 11 "TravelMarks$Deed" "bodies" "[I") (List.mem_of_getElem? (i := 5) rfl)) (fun _ h9 => h9) rfl hin rfl (tyX0_ok 0 (by decide)) rfl rfl (Nat.le_of_ble_eq_true rfl) dX0_init_9 (fun H locs hP hD hS => ?_)
  have hP : va_P D vwCl [(a0, .inr (0, [.ref q_1, .int 0, .int 0, .int 0, .int 0, .int 0])), (q_1, .inl (C 0, 30, .inl (fun _ => 0)))] H := hP
  have hD : va_D A [(a0, .inr (0, [.ref q_1, .int 0, .int 0, .int 0, .int 0, .int 0])), (q_1, .inl (C 0, 30, .inl (fun _ => 0)))] := hD
  have hP : va_P D vwCl (oDeed C a0 q_1 DV0 []) H := hP
  have hD : va_D A (oDeed C a0 q_1 DV0 []) := hD
  have hK9 := hK
  refine W.widen (k := 1) (n := 30) (by omega) (by omega) ?_
  subst hAe
  exact W.vret hx hb hr (fun t ht hW => ⟨⟨(), rfl, trivial, q_1, by rw [ht]; exact hP, va_K.moved hW.alike hK, hD⟩, hS.F ht⟩) hS.2.2 dX0_init_12 hlocks
def rmX4_init : Room := { frames := 1, cells := 1, slots := 200, locals := 20 }
theorem hdX4_init : yX4_init.cls ≠ "java/lang/invoke/MethodHandle" ∧ yX4_init.cls ≠ "java/lang/invoke/VarHandle" ∧ (parseMethodDescriptor yX4_init.desc).map (fun d => d.parameters.length) = some 0 := by decide +kernel
set_option maxHeartbeats 40000000 in
set_option maxRecDepth 100000 in
theorem c_X4_init (l : Launch) (E : Nat → Nat) (D : va_G) (C : Nat → ClassId) (a0 sz : Nat) : Met l yX4_init wsX4_init rmX4_init (PC E D C [.ref a0] [(a0, .inr (4, [.null, .int 0, .int 0, .int 0, .int 0, .int 0]))] sz) (va_Qv (fun (_ : Unit) => True) (fun (_ : Unit) (t : State) => ∃ (q_1 : Nat), va_P D vwCl (oTape C a0 q_1 TV0 []) t.heap ∧ va_K D vwCl (tyL C) t ∧ va_D (va_A [(a0, .inr (4, [.null, .int 0, .int 0, .int 0, .int 0, .int 0]))] sz) (oTape C a0 q_1 TV0 [])) (va_A [(a0, .inr (4, [.null, .int 0, .int 0, .int 0, .int 0, .int 0]))] sz)) 1 200 (va_A [(a0, .inr (4, [.null, .int 0, .int 0, .int 0, .int 0, .int 0]))] sz) := by
  refine Met.ofW (cc := cX4_init) (maxL := 1) (ret := none) (by decide) rfl ?_
  intro p e s m args below meth c s₁ B hml hv
  obtain ⟨rfl, hsz, hP, hK, hD0, hE⟩ := hv
  have hx := B.exec
  have hb := B.bytes
  have hr := B.returns
  have hts := atoms_spec (ws := wsX4_init) B.pre
  have hown : s.vm.findClass RX4 = some m.cls := findClass_of_methodNamed B.named
  have hlocks := B.notSynchronized
  have hin : meth.name = "<init>" := (name_of_methodNamed B.named B.method).1
  subst hsz
  have hi_RX4 : ∀ w ∈ wsX40, w ∈ wsX4_init := fun _ h => List.mem_cons_of_mem _ (List.mem_append_right _ h)
  have hD := hD0.self (sz := s.heap.size)
  obtain ⟨A, hAe⟩ := nm_ex (va_A [(a0, .inr (4, [.null, .int 0, .int 0, .int 0, .int 0, .int 0]))] s.heap.size)
  rw [← hAe] at hD hE
  have hA : ∀ q : Nat, s.heap.size ≤ q → A q := fun q h => by rw [hAe]; exact Or.inr h
  have hS : va_S A s.heap s.heap [] := va_S.rf
  have hl := lv_entry ([.ref a0]) (n := 1) (Nat.le_of_ble_eq_true rfl)
  rw [lg_entry_eq]
  generalize (lg_sl ([.ref a0]) ++ List.replicate (1 - (lg_sl ([.ref a0])).length) Slot.unset).toArray = ls at hl ⊢
  have hl : lv_has ls 1 [(0, .ref a0)] := hl
  suffices main : ∀ (H : Heap) (locs : List Loc), va_P D vwCl [(a0, .inr (4, [.null, .int 0, .int 0, .int 0, .int 0, .int 0]))] H → va_D A [(a0, .inr (4, [.null, .int 0, .int 0, .int 0, .int 0, .int 0]))] → va_S A s.heap H locs → W p l e (headSpec wsX4_init rmX4_init).room s m (List.toArray [Value.ref a0]) below meth c H locs 0 0 (MQ below (va_Qv (fun (_ : Unit) => True) (fun (_ : Unit) (t : State) => ∃ (q_1 : Nat), va_P D vwCl (oTape C a0 q_1 TV0 []) t.heap ∧ va_K D vwCl (tyL C) t ∧ va_D (va_A [(a0, .inr (4, [.null, .int 0, .int 0, .int 0, .int 0, .int 0]))] s.heap.size) (oTape C a0 q_1 TV0 [])) (va_A [(a0, .inr (4, [.null, .int 0, .int 0, .int 0, .int 0, .int 0]))] s.heap.size)) (List.toArray [Value.ref a0]) s 1 200 (va_A [(a0, .inr (4, [.null, .int 0, .int 0, .int 0, .int 0, .int 0]))] s.heap.size)) (F0 m 0 ls []) from main _ _ hP hD hS
  intro H locs hP hD hS
  refine lv_aload_n hx hb dX4_init_0 rfl (lv_at hl 0 rfl) ?_
  refine W.objInit hx hb hown (hts (.methodLink RX4 3 objectInit) (List.mem_of_getElem? (i := 1) rfl)) (hts (.instanceMethod objectInit) (List.mem_of_getElem? (i := 2) rfl)) (hts (.code objectInit ⟨#[0xb1]⟩ 1 none) (List.mem_of_getElem? (i := 3) rfl)) rfl (by rw [hml]; exact hl.1) rfl dX4_init_1 (Nat.le_of_ble_eq_true rfl) (Nat.le_of_ble_eq_true rfl) ?_
  refine W.eq (g2 := F0 m 4 ls []) rfl ?_
  refine lv_aload_n hx hb dX4_init_4 rfl (lv_at hl 0 rfl) ?_
  refine lv_sipush (v := 200) hx hb dX4_init_5 rfl ?_
  refine va_newa (atype := .byte) hx hb (hts (.arrayClass .byte) (List.mem_of_getElem? (i := 4) rfl)) rfl hK hP hD hS hA (N' := 200) (a0 := (200, .inl (fun _ => 0))) (fun _ => rfl) (by decide) (by decide) (Nat.le_of_ble_eq_true rfl) (Nat.le_of_ble_eq_true rfl) (Nat.le_of_ble_eq_true rfl) dX4_init_8 (fun q_1 cA H hK1 hP hD hS => ?_)
  obtain rfl : cA = C 1 := cA_B hK1
  have hP : va_P D vwCl [(a0, .inr (4, [.null, .int 0, .int 0, .int 0, .int 0, .int 0])), (q_1, .inl (C 1, 200, .inl (fun _ => 0)))] H := hP
  have hD : va_D A [(a0, .inr (4, [.null, .int 0, .int 0, .int 0, .int 0, .int 0])), (q_1, .inl (C 1, 200, .inl (fun _ => 0)))] := hD
  refine W.widen (k := 1) (n := 200) (by omega) (by omega) ?_
  refine va_putF (D := D) (ci := 4) (v := .ref q_1) (ty := (.array .byte)) (C := RX4) (T := TX4) (N := 6) hx hb hts hi_RX4 tyX4 tyX4_ok nmX4 hown hK hP hD hS 0 rfl rfl 0 (by decide) (hts (.fieldLink RX4 11 "TravelMarks$Tape" "bytes" "[B") (List.mem_of_getElem? (i := 5) rfl)) (fun _ h9 => h9) rfl hin rfl (tyX4_ok 0 (by decide)) rfl rfl (Nat.le_of_ble_eq_true rfl) dX4_init_10 (fun H locs hP hD hS => ?_)
  have hP : va_P D vwCl [(a0, .inr (4, [.ref q_1, .int 0, .int 0, .int 0, .int 0, .int 0])), (q_1, .inl (C 1, 200, .inl (fun _ => 0)))] H := hP
  have hD : va_D A [(a0, .inr (4, [.ref q_1, .int 0, .int 0, .int 0, .int 0, .int 0])), (q_1, .inl (C 1, 200, .inl (fun _ => 0)))] := hD
  have hP : va_P D vwCl (oTape C a0 q_1 TV0 []) H := hP
  have hD : va_D A (oTape C a0 q_1 TV0 []) := hD
  have hK9 := hK
  refine W.widen (k := 1) (n := 200) (by omega) (by omega) ?_
  subst hAe
  exact W.vret hx hb hr (fun t ht hW => ⟨⟨(), rfl, trivial, q_1, by rw [ht]; exact hP, va_K.moved hW.alike hK, hD⟩, hS.F ht⟩) hS.2.2 dX4_init_13 hlocks
def rmX2_init : Room := { frames := 1, cells := 1, slots := 40, locals := 20 }
theorem hdX2_init : yX2_init.cls ≠ "java/lang/invoke/MethodHandle" ∧ yX2_init.cls ≠ "java/lang/invoke/VarHandle" ∧ (parseMethodDescriptor yX2_init.desc).map (fun d => d.parameters.length) = some 0 := by decide +kernel
set_option maxHeartbeats 40000000 in
set_option maxRecDepth 100000 in
theorem c_X2_init (l : Launch) (E : Nat → Nat) (D : va_G) (C : Nat → ClassId) (a0 sz : Nat) : Met l yX2_init wsX2_init rmX2_init (PC E D C [.ref a0] [(a0, .inr (2, [.null, .int 0, .int 0]))] sz) (va_Qv (fun (_ : Unit) => True) (fun (_ : Unit) (t : State) => ∃ (q_1 : Nat), va_P D vwCl (oSheet C a0 q_1 HV0 []) t.heap ∧ va_K D vwCl (tyL C) t ∧ va_D (va_A [(a0, .inr (2, [.null, .int 0, .int 0]))] sz) (oSheet C a0 q_1 HV0 [])) (va_A [(a0, .inr (2, [.null, .int 0, .int 0]))] sz)) 1 40 (va_A [(a0, .inr (2, [.null, .int 0, .int 0]))] sz) := by
  refine Met.ofW (cc := cX2_init) (maxL := 1) (ret := none) (by decide) rfl ?_
  intro p e s m args below meth c s₁ B hml hv
  obtain ⟨rfl, hsz, hP, hK, hD0, hE⟩ := hv
  have hx := B.exec
  have hb := B.bytes
  have hr := B.returns
  have hts := atoms_spec (ws := wsX2_init) B.pre
  have hown : s.vm.findClass RX2 = some m.cls := findClass_of_methodNamed B.named
  have hlocks := B.notSynchronized
  have hin : meth.name = "<init>" := (name_of_methodNamed B.named B.method).1
  subst hsz
  have hi_RX2 : ∀ w ∈ wsX20, w ∈ wsX2_init := fun _ h => List.mem_cons_of_mem _ (List.mem_append_right _ h)
  have hD := hD0.self (sz := s.heap.size)
  obtain ⟨A, hAe⟩ := nm_ex (va_A [(a0, .inr (2, [.null, .int 0, .int 0]))] s.heap.size)
  rw [← hAe] at hD hE
  have hA : ∀ q : Nat, s.heap.size ≤ q → A q := fun q h => by rw [hAe]; exact Or.inr h
  have hS : va_S A s.heap s.heap [] := va_S.rf
  have hl := lv_entry ([.ref a0]) (n := 1) (Nat.le_of_ble_eq_true rfl)
  rw [lg_entry_eq]
  generalize (lg_sl ([.ref a0]) ++ List.replicate (1 - (lg_sl ([.ref a0])).length) Slot.unset).toArray = ls at hl ⊢
  have hl : lv_has ls 1 [(0, .ref a0)] := hl
  suffices main : ∀ (H : Heap) (locs : List Loc), va_P D vwCl [(a0, .inr (2, [.null, .int 0, .int 0]))] H → va_D A [(a0, .inr (2, [.null, .int 0, .int 0]))] → va_S A s.heap H locs → W p l e (headSpec wsX2_init rmX2_init).room s m (List.toArray [Value.ref a0]) below meth c H locs 0 0 (MQ below (va_Qv (fun (_ : Unit) => True) (fun (_ : Unit) (t : State) => ∃ (q_1 : Nat), va_P D vwCl (oSheet C a0 q_1 HV0 []) t.heap ∧ va_K D vwCl (tyL C) t ∧ va_D (va_A [(a0, .inr (2, [.null, .int 0, .int 0]))] s.heap.size) (oSheet C a0 q_1 HV0 [])) (va_A [(a0, .inr (2, [.null, .int 0, .int 0]))] s.heap.size)) (List.toArray [Value.ref a0]) s 1 40 (va_A [(a0, .inr (2, [.null, .int 0, .int 0]))] s.heap.size)) (F0 m 0 ls []) from main _ _ hP hD hS
  intro H locs hP hD hS
  refine lv_aload_n hx hb dX2_init_0 rfl (lv_at hl 0 rfl) ?_
  refine W.objInit hx hb hown (hts (.methodLink RX2 3 objectInit) (List.mem_of_getElem? (i := 1) rfl)) (hts (.instanceMethod objectInit) (List.mem_of_getElem? (i := 2) rfl)) (hts (.code objectInit ⟨#[0xb1]⟩ 1 none) (List.mem_of_getElem? (i := 3) rfl)) rfl (by rw [hml]; exact hl.1) rfl dX2_init_1 (Nat.le_of_ble_eq_true rfl) (Nat.le_of_ble_eq_true rfl) ?_
  refine W.eq (g2 := F0 m 4 ls []) rfl ?_
  refine lv_aload_n hx hb dX2_init_4 rfl (lv_at hl 0 rfl) ?_
  refine lv_bipush (v := 40) hx hb dX2_init_5 rfl ?_
  refine va_newa (atype := .long) hx hb (hts (.arrayClass .long) (List.mem_of_getElem? (i := 4) rfl)) rfl hK hP hD hS hA (N' := 40) (a0 := (40, .inr (.inl (fun _ => 0)))) (fun _ => rfl) (by decide) (by decide) (Nat.le_of_ble_eq_true rfl) (Nat.le_of_ble_eq_true rfl) (Nat.le_of_ble_eq_true rfl) dX2_init_7 (fun q_1 cA H hK1 hP hD hS => ?_)
  obtain rfl : cA = C 2 := cA_J hK1
  have hP : va_P D vwCl [(a0, .inr (2, [.null, .int 0, .int 0])), (q_1, .inl (C 2, 40, .inr (.inl (fun _ => 0))))] H := hP
  have hD : va_D A [(a0, .inr (2, [.null, .int 0, .int 0])), (q_1, .inl (C 2, 40, .inr (.inl (fun _ => 0))))] := hD
  refine W.widen (k := 1) (n := 40) (by omega) (by omega) ?_
  refine va_putF (D := D) (ci := 2) (v := .ref q_1) (ty := (.array .long)) (C := RX2) (T := TX2) (N := 3) hx hb hts hi_RX2 tyX2 tyX2_ok nmX2 hown hK hP hD hS 0 rfl rfl 0 (by decide) (hts (.fieldLink RX2 9 "TravelMarks$Sheet" "items" "[J") (List.mem_of_getElem? (i := 5) rfl)) (fun _ h9 => h9) rfl hin rfl (tyX2_ok 0 (by decide)) rfl rfl (Nat.le_of_ble_eq_true rfl) dX2_init_9 (fun H locs hP hD hS => ?_)
  have hP : va_P D vwCl [(a0, .inr (2, [.ref q_1, .int 0, .int 0])), (q_1, .inl (C 2, 40, .inr (.inl (fun _ => 0))))] H := hP
  have hD : va_D A [(a0, .inr (2, [.ref q_1, .int 0, .int 0])), (q_1, .inl (C 2, 40, .inr (.inl (fun _ => 0))))] := hD
  refine lv_aload_n hx hb dX2_init_12 rfl (lv_at hl 0 rfl) ?_
  refine lv_iconst (v := (-1)) hx hb dX2_init_13 rfl ?_
  refine va_put (D := D) (ci := 2) (v := .int (-1)) (ty := .int) (C := RX2) (T := TX2) (N := 3) hx hb hts hi_RX2 tyX2 tyX2_ok nmX2 hown hK hP hD hS 0 rfl rfl 1 (by decide) (hts (.fieldLink RX2 15 "TravelMarks$Sheet" "sort" "I") (List.mem_of_getElem? (i := 6) rfl)) (fun _ h9 => h9) rfl (tyX2_ok 1 (by decide)) rfl rfl (Nat.le_of_ble_eq_true rfl) dX2_init_14 (fun H locs hP hD hS => ?_)
  have hP : va_P D vwCl [(a0, .inr (2, [.ref q_1, .int (-1), .int 0])), (q_1, .inl (C 2, 40, .inr (.inl (fun _ => 0))))] H := hP
  have hD : va_D A [(a0, .inr (2, [.ref q_1, .int (-1), .int 0])), (q_1, .inl (C 2, 40, .inr (.inl (fun _ => 0))))] := hD
  have hP : va_P D vwCl (oSheet C a0 q_1 HV0 []) H := hP
  have hD : va_D A (oSheet C a0 q_1 HV0 []) := hD
  have hK9 := hK
  refine W.widen (k := 1) (n := 40) (by omega) (by omega) ?_
  subst hAe
  exact W.vret hx hb hr (fun t ht hW => ⟨⟨(), rfl, trivial, q_1, by rw [ht]; exact hP, va_K.moved hW.alike hK, hD⟩, hS.F ht⟩) hS.2.2 dX2_init_17 hlocks
def rmX3_init : Room := { frames := 1, cells := 0, slots := 0, locals := 20 }
theorem hdX3_init : yX3_init.cls ≠ "java/lang/invoke/MethodHandle" ∧ yX3_init.cls ≠ "java/lang/invoke/VarHandle" ∧ (parseMethodDescriptor yX3_init.desc).map (fun d => d.parameters.length) = some 0 := by decide +kernel
set_option maxHeartbeats 40000000 in
set_option maxRecDepth 100000 in
theorem c_X3_init (l : Launch) (E : Nat → Nat) (D : va_G) (C : Nat → ClassId) (a0 sz : Nat) : Met l yX3_init wsX3_init rmX3_init (PC E D C [.ref a0] [(a0, .inr (3, [.int 0, .int 0, .int 0, .int 0]))] sz) (va_Qv (fun (_ : Unit) => True) (fun (_ : Unit) (t : State) => va_P D vwCl (oShelf C a0 FV0 []) t.heap ∧ va_K D vwCl (tyL C) t ∧ va_D (va_A [(a0, .inr (3, [.int 0, .int 0, .int 0, .int 0]))] sz) (oShelf C a0 FV0 [])) (va_A [(a0, .inr (3, [.int 0, .int 0, .int 0, .int 0]))] sz)) 0 0 (va_A [(a0, .inr (3, [.int 0, .int 0, .int 0, .int 0]))] sz) := by
  refine Met.ofW (cc := cX3_init) (maxL := 1) (ret := none) (by decide) rfl ?_
  intro p e s m args below meth c s₁ B hml hv
  obtain ⟨rfl, hsz, hP, hK, hD0, hE⟩ := hv
  have hx := B.exec
  have hb := B.bytes
  have hr := B.returns
  have hts := atoms_spec (ws := wsX3_init) B.pre
  have hown : s.vm.findClass RX3 = some m.cls := findClass_of_methodNamed B.named
  have hlocks := B.notSynchronized
  have hin : meth.name = "<init>" := (name_of_methodNamed B.named B.method).1
  subst hsz
  have hi_RX3 : ∀ w ∈ wsX30, w ∈ wsX3_init := fun _ h => List.mem_cons_of_mem _ (List.mem_append_right _ h)
  have hD := hD0.self (sz := s.heap.size)
  obtain ⟨A, hAe⟩ := nm_ex (va_A [(a0, .inr (3, [.int 0, .int 0, .int 0, .int 0]))] s.heap.size)
  rw [← hAe] at hD hE
  have hA : ∀ q : Nat, s.heap.size ≤ q → A q := fun q h => by rw [hAe]; exact Or.inr h
  have hS : va_S A s.heap s.heap [] := va_S.rf
  have hl := lv_entry ([.ref a0]) (n := 1) (Nat.le_of_ble_eq_true rfl)
  rw [lg_entry_eq]
  generalize (lg_sl ([.ref a0]) ++ List.replicate (1 - (lg_sl ([.ref a0])).length) Slot.unset).toArray = ls at hl ⊢
  have hl : lv_has ls 1 [(0, .ref a0)] := hl
  suffices main : ∀ (H : Heap) (locs : List Loc), va_P D vwCl [(a0, .inr (3, [.int 0, .int 0, .int 0, .int 0]))] H → va_D A [(a0, .inr (3, [.int 0, .int 0, .int 0, .int 0]))] → va_S A s.heap H locs → W p l e (headSpec wsX3_init rmX3_init).room s m (List.toArray [Value.ref a0]) below meth c H locs 0 0 (MQ below (va_Qv (fun (_ : Unit) => True) (fun (_ : Unit) (t : State) => va_P D vwCl (oShelf C a0 FV0 []) t.heap ∧ va_K D vwCl (tyL C) t ∧ va_D (va_A [(a0, .inr (3, [.int 0, .int 0, .int 0, .int 0]))] s.heap.size) (oShelf C a0 FV0 [])) (va_A [(a0, .inr (3, [.int 0, .int 0, .int 0, .int 0]))] s.heap.size)) (List.toArray [Value.ref a0]) s 0 0 (va_A [(a0, .inr (3, [.int 0, .int 0, .int 0, .int 0]))] s.heap.size)) (F0 m 0 ls []) from main _ _ hP hD hS
  intro H locs hP hD hS
  refine lv_aload_n hx hb dX3_init_0 rfl (lv_at hl 0 rfl) ?_
  refine W.objInit hx hb hown (hts (.methodLink RX3 3 objectInit) (List.mem_of_getElem? (i := 1) rfl)) (hts (.instanceMethod objectInit) (List.mem_of_getElem? (i := 2) rfl)) (hts (.code objectInit ⟨#[0xb1]⟩ 1 none) (List.mem_of_getElem? (i := 3) rfl)) rfl (by rw [hml]; exact hl.1) rfl dX3_init_1 (Nat.le_of_ble_eq_true rfl) (Nat.le_of_ble_eq_true rfl) ?_
  refine W.eq (g2 := F0 m 4 ls []) rfl ?_
  refine lv_aload_n hx hb dX3_init_4 rfl (lv_at hl 0 rfl) ?_
  refine lv_iconst (v := 2) hx hb dX3_init_5 rfl ?_
  refine va_put (D := D) (ci := 3) (v := .int 2) (ty := .int) (C := RX3) (T := TX3) (N := 4) hx hb hts hi_RX3 tyX3 tyX3_ok nmX3 hown hK hP hD hS 0 rfl rfl 0 (by decide) (hts (.fieldLink RX3 9 "TravelMarks$Shelf" "holding" "I") (List.mem_of_getElem? (i := 4) rfl)) (fun _ h9 => h9) rfl (tyX3_ok 0 (by decide)) rfl rfl (Nat.le_of_ble_eq_true rfl) dX3_init_6 (fun H locs hP hD hS => ?_)
  have hP : va_P D vwCl [(a0, .inr (3, [.int 2, .int 0, .int 0, .int 0]))] H := hP
  have hD : va_D A [(a0, .inr (3, [.int 2, .int 0, .int 0, .int 0]))] := hD
  have hP : va_P D vwCl (oShelf C a0 FV0 []) H := hP
  have hD : va_D A (oShelf C a0 FV0 []) := hD
  have hK9 := hK
  refine W.widen (k := 0) (n := 0) (by omega) (by omega) ?_
  subst hAe
  exact W.vret hx hb hr (fun t ht hW => ⟨⟨(), rfl, trivial, by rw [ht]; exact hP, va_K.moved hW.alike hK, hD⟩, hS.F ht⟩) hS.2.2 dX3_init_9 hlocks
def rmX1_init : Room := { frames := 2, cells := 6, slots := 40, locals := 81 }
theorem hdX1_init : yX1_init.cls ≠ "java/lang/invoke/MethodHandle" ∧ yX1_init.cls ≠ "java/lang/invoke/VarHandle" ∧ (parseMethodDescriptor yX1_init.desc).map (fun d => d.parameters.length) = some 0 := by decide +kernel
set_option maxHeartbeats 40000000 in
set_option maxRecDepth 100000 in
theorem c_X1_init (l : Launch) (E : Nat → Nat) (D : va_G) (C : Nat → ClassId) (a0 sz : Nat) (N : Nat) (v' : PV) (hf : f_X1_clear N PV0 = some v') : Met l yX1_init wsX1_init rmX1_init (PC E D C [.ref a0] [(a0, .inr (1, [.null, .null, .null, .null, .null, .null, .int 0, .int 0, .int 0, .int 0]))] sz) (va_Qv (fun (_ : Unit) => True) (fun (_ : Unit) (t : State) => ∃ (q_1 q_2 q_3 q_4 q_5 q_6 : Nat), va_P D vwCl (oPort C a0 q_1 q_2 q_3 q_4 q_5 q_6 v' []) t.heap ∧ va_K D vwCl (tyL C) t ∧ va_D (va_A [(a0, .inr (1, [.null, .null, .null, .null, .null, .null, .int 0, .int 0, .int 0, .int 0]))] sz) (oPort C a0 q_1 q_2 q_3 q_4 q_5 q_6 v' [])) (va_A [(a0, .inr (1, [.null, .null, .null, .null, .null, .null, .int 0, .int 0, .int 0, .int 0]))] sz)) 6 40 (va_A [(a0, .inr (1, [.null, .null, .null, .null, .null, .null, .int 0, .int 0, .int 0, .int 0]))] sz) := by
  refine Met.ofW (cc := cX1_init) (maxL := 1) (ret := none) (by decide) rfl ?_
  intro p e s m args below meth c s₁ B hml hv
  obtain ⟨rfl, hsz, hP, hK, hD0, hE⟩ := hv
  have hx := B.exec
  have hb := B.bytes
  have hr := B.returns
  have hts := atoms_spec (ws := wsX1_init) B.pre
  have hown : s.vm.findClass RX1 = some m.cls := findClass_of_methodNamed B.named
  have hlocks := B.notSynchronized
  have hin : meth.name = "<init>" := (name_of_methodNamed B.named B.method).1
  subst hsz
  have hi_RX1 : ∀ w ∈ wsX10, w ∈ wsX1_init := fun _ h => List.mem_cons_of_mem _ (List.mem_append_right _ h)
  have hD := hD0.self (sz := s.heap.size)
  obtain ⟨A, hAe⟩ := nm_ex (va_A [(a0, .inr (1, [.null, .null, .null, .null, .null, .null, .int 0, .int 0, .int 0, .int 0]))] s.heap.size)
  rw [← hAe] at hD hE
  have hA : ∀ q : Nat, s.heap.size ≤ q → A q := fun q h => by rw [hAe]; exact Or.inr h
  have hS : va_S A s.heap s.heap [] := va_S.rf
  have hl := lv_entry ([.ref a0]) (n := 1) (Nat.le_of_ble_eq_true rfl)
  rw [lg_entry_eq]
  generalize (lg_sl ([.ref a0]) ++ List.replicate (1 - (lg_sl ([.ref a0])).length) Slot.unset).toArray = ls at hl ⊢
  have hl : lv_has ls 1 [(0, .ref a0)] := hl
  suffices main : ∀ (H : Heap) (locs : List Loc), va_P D vwCl [(a0, .inr (1, [.null, .null, .null, .null, .null, .null, .int 0, .int 0, .int 0, .int 0]))] H → va_D A [(a0, .inr (1, [.null, .null, .null, .null, .null, .null, .int 0, .int 0, .int 0, .int 0]))] → va_S A s.heap H locs → W p l e (headSpec wsX1_init rmX1_init).room s m (List.toArray [Value.ref a0]) below meth c H locs 0 0 (MQ below (va_Qv (fun (_ : Unit) => True) (fun (_ : Unit) (t : State) => ∃ (q_1 q_2 q_3 q_4 q_5 q_6 : Nat), va_P D vwCl (oPort C a0 q_1 q_2 q_3 q_4 q_5 q_6 v' []) t.heap ∧ va_K D vwCl (tyL C) t ∧ va_D (va_A [(a0, .inr (1, [.null, .null, .null, .null, .null, .null, .int 0, .int 0, .int 0, .int 0]))] s.heap.size) (oPort C a0 q_1 q_2 q_3 q_4 q_5 q_6 v' [])) (va_A [(a0, .inr (1, [.null, .null, .null, .null, .null, .null, .int 0, .int 0, .int 0, .int 0]))] s.heap.size)) (List.toArray [Value.ref a0]) s 6 40 (va_A [(a0, .inr (1, [.null, .null, .null, .null, .null, .null, .int 0, .int 0, .int 0, .int 0]))] s.heap.size)) (F0 m 0 ls []) from main _ _ hP hD hS
  intro H locs hP hD hS
  refine lv_aload_n hx hb dX1_init_0 rfl (lv_at hl 0 rfl) ?_
  refine W.objInit hx hb hown (hts (.methodLink RX1 3 objectInit) (List.mem_of_getElem? (i := 1) rfl)) (hts (.instanceMethod objectInit) (List.mem_of_getElem? (i := 2) rfl)) (hts (.code objectInit ⟨#[0xb1]⟩ 1 none) (List.mem_of_getElem? (i := 3) rfl)) rfl (by rw [hml]; exact hl.1) rfl dX1_init_1 (Nat.le_of_ble_eq_true rfl) (Nat.le_of_ble_eq_true rfl) ?_
  refine W.eq (g2 := F0 m 4 ls []) rfl ?_
  refine lv_aload_n hx hb dX1_init_4 rfl (lv_at hl 0 rfl) ?_
  refine lv_iconst (v := 4) hx hb dX1_init_5 rfl ?_
  refine va_newa (atype := .int) hx hb (hts (.arrayClass .int) (List.mem_of_getElem? (i := 4) rfl)) rfl hK hP hD hS hA (N' := 4) (a0 := (4, .inl (fun _ => 0))) (fun _ => rfl) (by decide) (by decide) (Nat.le_of_ble_eq_true rfl) (Nat.le_of_ble_eq_true rfl) (Nat.le_of_ble_eq_true rfl) dX1_init_6 (fun q_1 cA H hK1 hP hD hS => ?_)
  obtain rfl : cA = C 0 := cA_I hK1
  have hP : va_P D vwCl [(a0, .inr (1, [.null, .null, .null, .null, .null, .null, .int 0, .int 0, .int 0, .int 0])), (q_1, .inl (C 0, 4, .inl (fun _ => 0)))] H := hP
  have hD : va_D A [(a0, .inr (1, [.null, .null, .null, .null, .null, .null, .int 0, .int 0, .int 0, .int 0])), (q_1, .inl (C 0, 4, .inl (fun _ => 0)))] := hD
  refine W.widen (k := 1) (n := 4) (by omega) (by omega) ?_
  refine va_putF (D := D) (ci := 1) (v := .ref q_1) (ty := (.array .int)) (C := RX1) (T := TX1) (N := 10) hx hb hts hi_RX1 tyX1 tyX1_ok nmX1 hown hK hP hD hS 0 rfl rfl 0 (by decide) (hts (.fieldLink RX1 9 "TravelMarks$Port" "laws" "[I") (List.mem_of_getElem? (i := 5) rfl)) (fun _ h9 => h9) rfl hin rfl (tyX1_ok 0 (by decide)) rfl rfl (Nat.le_of_ble_eq_true rfl) dX1_init_8 (fun H locs hP hD hS => ?_)
  have hP : va_P D vwCl [(a0, .inr (1, [.ref q_1, .null, .null, .null, .null, .null, .int 0, .int 0, .int 0, .int 0])), (q_1, .inl (C 0, 4, .inl (fun _ => 0)))] H := hP
  have hD : va_D A [(a0, .inr (1, [.ref q_1, .null, .null, .null, .null, .null, .int 0, .int 0, .int 0, .int 0])), (q_1, .inl (C 0, 4, .inl (fun _ => 0)))] := hD
  refine lv_aload_n hx hb dX1_init_11 rfl (lv_at hl 0 rfl) ?_
  refine lv_bipush (v := 8) hx hb dX1_init_12 rfl ?_
  refine va_newa (atype := .int) hx hb (hts (.arrayClass .int) (List.mem_of_getElem? (i := 4) rfl)) rfl hK hP hD hS hA (N' := 8) (a0 := (8, .inl (fun _ => 0))) (fun _ => rfl) (by decide) (by decide) (Nat.le_of_ble_eq_true rfl) (Nat.le_of_ble_eq_true rfl) (Nat.le_of_ble_eq_true rfl) dX1_init_14 (fun q_2 cA H hK1 hP hD hS => ?_)
  obtain rfl : cA = C 0 := cA_I hK1
  have hP : va_P D vwCl [(a0, .inr (1, [.ref q_1, .null, .null, .null, .null, .null, .int 0, .int 0, .int 0, .int 0])), (q_1, .inl (C 0, 4, .inl (fun _ => 0))), (q_2, .inl (C 0, 8, .inl (fun _ => 0)))] H := hP
  have hD : va_D A [(a0, .inr (1, [.ref q_1, .null, .null, .null, .null, .null, .int 0, .int 0, .int 0, .int 0])), (q_1, .inl (C 0, 4, .inl (fun _ => 0))), (q_2, .inl (C 0, 8, .inl (fun _ => 0)))] := hD
  refine W.widen (k := 2) (n := 12) (by omega) (by omega) ?_
  refine va_putF (D := D) (ci := 1) (v := .ref q_2) (ty := (.array .int)) (C := RX1) (T := TX1) (N := 10) hx hb hts hi_RX1 tyX1 tyX1_ok nmX1 hown hK hP hD hS 0 rfl rfl 1 (by decide) (hts (.fieldLink RX1 15 "TravelMarks$Port" "kind" "[I") (List.mem_of_getElem? (i := 6) rfl)) (fun _ h9 => h9) rfl hin rfl (tyX1_ok 1 (by decide)) rfl rfl (Nat.le_of_ble_eq_true rfl) dX1_init_16 (fun H locs hP hD hS => ?_)
  have hP : va_P D vwCl [(a0, .inr (1, [.ref q_1, .ref q_2, .null, .null, .null, .null, .int 0, .int 0, .int 0, .int 0])), (q_1, .inl (C 0, 4, .inl (fun _ => 0))), (q_2, .inl (C 0, 8, .inl (fun _ => 0)))] H := hP
  have hD : va_D A [(a0, .inr (1, [.ref q_1, .ref q_2, .null, .null, .null, .null, .int 0, .int 0, .int 0, .int 0])), (q_1, .inl (C 0, 4, .inl (fun _ => 0))), (q_2, .inl (C 0, 8, .inl (fun _ => 0)))] := hD
  refine lv_aload_n hx hb dX1_init_19 rfl (lv_at hl 0 rfl) ?_
  refine lv_bipush (v := 8) hx hb dX1_init_20 rfl ?_
  refine va_newa (atype := .int) hx hb (hts (.arrayClass .int) (List.mem_of_getElem? (i := 4) rfl)) rfl hK hP hD hS hA (N' := 8) (a0 := (8, .inl (fun _ => 0))) (fun _ => rfl) (by decide) (by decide) (Nat.le_of_ble_eq_true rfl) (Nat.le_of_ble_eq_true rfl) (Nat.le_of_ble_eq_true rfl) dX1_init_22 (fun q_3 cA H hK1 hP hD hS => ?_)
  obtain rfl : cA = C 0 := cA_I hK1
  have hP : va_P D vwCl [(a0, .inr (1, [.ref q_1, .ref q_2, .null, .null, .null, .null, .int 0, .int 0, .int 0, .int 0])), (q_1, .inl (C 0, 4, .inl (fun _ => 0))), (q_2, .inl (C 0, 8, .inl (fun _ => 0))), (q_3, .inl (C 0, 8, .inl (fun _ => 0)))] H := hP
  have hD : va_D A [(a0, .inr (1, [.ref q_1, .ref q_2, .null, .null, .null, .null, .int 0, .int 0, .int 0, .int 0])), (q_1, .inl (C 0, 4, .inl (fun _ => 0))), (q_2, .inl (C 0, 8, .inl (fun _ => 0))), (q_3, .inl (C 0, 8, .inl (fun _ => 0)))] := hD
  refine W.widen (k := 3) (n := 20) (by omega) (by omega) ?_
  refine va_putF (D := D) (ci := 1) (v := .ref q_3) (ty := (.array .int)) (C := RX1) (T := TX1) (N := 10) hx hb hts hi_RX1 tyX1 tyX1_ok nmX1 hown hK hP hD hS 0 rfl rfl 2 (by decide) (hts (.fieldLink RX1 18 "TravelMarks$Port" "ink" "[I") (List.mem_of_getElem? (i := 7) rfl)) (fun _ h9 => h9) rfl hin rfl (tyX1_ok 2 (by decide)) rfl rfl (Nat.le_of_ble_eq_true rfl) dX1_init_24 (fun H locs hP hD hS => ?_)
  have hP : va_P D vwCl [(a0, .inr (1, [.ref q_1, .ref q_2, .ref q_3, .null, .null, .null, .int 0, .int 0, .int 0, .int 0])), (q_1, .inl (C 0, 4, .inl (fun _ => 0))), (q_2, .inl (C 0, 8, .inl (fun _ => 0))), (q_3, .inl (C 0, 8, .inl (fun _ => 0)))] H := hP
  have hD : va_D A [(a0, .inr (1, [.ref q_1, .ref q_2, .ref q_3, .null, .null, .null, .int 0, .int 0, .int 0, .int 0])), (q_1, .inl (C 0, 4, .inl (fun _ => 0))), (q_2, .inl (C 0, 8, .inl (fun _ => 0))), (q_3, .inl (C 0, 8, .inl (fun _ => 0)))] := hD
  refine lv_aload_n hx hb dX1_init_27 rfl (lv_at hl 0 rfl) ?_
  refine lv_bipush (v := 8) hx hb dX1_init_28 rfl ?_
  refine va_newa (atype := .int) hx hb (hts (.arrayClass .int) (List.mem_of_getElem? (i := 4) rfl)) rfl hK hP hD hS hA (N' := 8) (a0 := (8, .inl (fun _ => 0))) (fun _ => rfl) (by decide) (by decide) (Nat.le_of_ble_eq_true rfl) (Nat.le_of_ble_eq_true rfl) (Nat.le_of_ble_eq_true rfl) dX1_init_30 (fun q_4 cA H hK1 hP hD hS => ?_)
  obtain rfl : cA = C 0 := cA_I hK1
  have hP : va_P D vwCl [(a0, .inr (1, [.ref q_1, .ref q_2, .ref q_3, .null, .null, .null, .int 0, .int 0, .int 0, .int 0])), (q_1, .inl (C 0, 4, .inl (fun _ => 0))), (q_2, .inl (C 0, 8, .inl (fun _ => 0))), (q_3, .inl (C 0, 8, .inl (fun _ => 0))), (q_4, .inl (C 0, 8, .inl (fun _ => 0)))] H := hP
  have hD : va_D A [(a0, .inr (1, [.ref q_1, .ref q_2, .ref q_3, .null, .null, .null, .int 0, .int 0, .int 0, .int 0])), (q_1, .inl (C 0, 4, .inl (fun _ => 0))), (q_2, .inl (C 0, 8, .inl (fun _ => 0))), (q_3, .inl (C 0, 8, .inl (fun _ => 0))), (q_4, .inl (C 0, 8, .inl (fun _ => 0)))] := hD
  refine W.widen (k := 4) (n := 28) (by omega) (by omega) ?_
  refine va_putF (D := D) (ci := 1) (v := .ref q_4) (ty := (.array .int)) (C := RX1) (T := TX1) (N := 10) hx hb hts hi_RX1 tyX1 tyX1_ok nmX1 hown hK hP hD hS 0 rfl rfl 3 (by decide) (hts (.fieldLink RX1 21 "TravelMarks$Port" "on" "[I") (List.mem_of_getElem? (i := 8) rfl)) (fun _ h9 => h9) rfl hin rfl (tyX1_ok 3 (by decide)) rfl rfl (Nat.le_of_ble_eq_true rfl) dX1_init_32 (fun H locs hP hD hS => ?_)
  have hP : va_P D vwCl [(a0, .inr (1, [.ref q_1, .ref q_2, .ref q_3, .ref q_4, .null, .null, .int 0, .int 0, .int 0, .int 0])), (q_1, .inl (C 0, 4, .inl (fun _ => 0))), (q_2, .inl (C 0, 8, .inl (fun _ => 0))), (q_3, .inl (C 0, 8, .inl (fun _ => 0))), (q_4, .inl (C 0, 8, .inl (fun _ => 0)))] H := hP
  have hD : va_D A [(a0, .inr (1, [.ref q_1, .ref q_2, .ref q_3, .ref q_4, .null, .null, .int 0, .int 0, .int 0, .int 0])), (q_1, .inl (C 0, 4, .inl (fun _ => 0))), (q_2, .inl (C 0, 8, .inl (fun _ => 0))), (q_3, .inl (C 0, 8, .inl (fun _ => 0))), (q_4, .inl (C 0, 8, .inl (fun _ => 0)))] := hD
  refine lv_aload_n hx hb dX1_init_35 rfl (lv_at hl 0 rfl) ?_
  refine lv_bipush (v := 6) hx hb dX1_init_36 rfl ?_
  refine va_newa (atype := .int) hx hb (hts (.arrayClass .int) (List.mem_of_getElem? (i := 4) rfl)) rfl hK hP hD hS hA (N' := 6) (a0 := (6, .inl (fun _ => 0))) (fun _ => rfl) (by decide) (by decide) (Nat.le_of_ble_eq_true rfl) (Nat.le_of_ble_eq_true rfl) (Nat.le_of_ble_eq_true rfl) dX1_init_38 (fun q_5 cA H hK1 hP hD hS => ?_)
  obtain rfl : cA = C 0 := cA_I hK1
  have hP : va_P D vwCl [(a0, .inr (1, [.ref q_1, .ref q_2, .ref q_3, .ref q_4, .null, .null, .int 0, .int 0, .int 0, .int 0])), (q_1, .inl (C 0, 4, .inl (fun _ => 0))), (q_2, .inl (C 0, 8, .inl (fun _ => 0))), (q_3, .inl (C 0, 8, .inl (fun _ => 0))), (q_4, .inl (C 0, 8, .inl (fun _ => 0))), (q_5, .inl (C 0, 6, .inl (fun _ => 0)))] H := hP
  have hD : va_D A [(a0, .inr (1, [.ref q_1, .ref q_2, .ref q_3, .ref q_4, .null, .null, .int 0, .int 0, .int 0, .int 0])), (q_1, .inl (C 0, 4, .inl (fun _ => 0))), (q_2, .inl (C 0, 8, .inl (fun _ => 0))), (q_3, .inl (C 0, 8, .inl (fun _ => 0))), (q_4, .inl (C 0, 8, .inl (fun _ => 0))), (q_5, .inl (C 0, 6, .inl (fun _ => 0)))] := hD
  refine W.widen (k := 5) (n := 34) (by omega) (by omega) ?_
  refine va_putF (D := D) (ci := 1) (v := .ref q_5) (ty := (.array .int)) (C := RX1) (T := TX1) (N := 10) hx hb hts hi_RX1 tyX1 tyX1_ok nmX1 hown hK hP hD hS 0 rfl rfl 4 (by decide) (hts (.fieldLink RX1 24 "TravelMarks$Port" "first" "[I") (List.mem_of_getElem? (i := 9) rfl)) (fun _ h9 => h9) rfl hin rfl (tyX1_ok 4 (by decide)) rfl rfl (Nat.le_of_ble_eq_true rfl) dX1_init_40 (fun H locs hP hD hS => ?_)
  have hP : va_P D vwCl [(a0, .inr (1, [.ref q_1, .ref q_2, .ref q_3, .ref q_4, .ref q_5, .null, .int 0, .int 0, .int 0, .int 0])), (q_1, .inl (C 0, 4, .inl (fun _ => 0))), (q_2, .inl (C 0, 8, .inl (fun _ => 0))), (q_3, .inl (C 0, 8, .inl (fun _ => 0))), (q_4, .inl (C 0, 8, .inl (fun _ => 0))), (q_5, .inl (C 0, 6, .inl (fun _ => 0)))] H := hP
  have hD : va_D A [(a0, .inr (1, [.ref q_1, .ref q_2, .ref q_3, .ref q_4, .ref q_5, .null, .int 0, .int 0, .int 0, .int 0])), (q_1, .inl (C 0, 4, .inl (fun _ => 0))), (q_2, .inl (C 0, 8, .inl (fun _ => 0))), (q_3, .inl (C 0, 8, .inl (fun _ => 0))), (q_4, .inl (C 0, 8, .inl (fun _ => 0))), (q_5, .inl (C 0, 6, .inl (fun _ => 0)))] := hD
  refine lv_aload_n hx hb dX1_init_43 rfl (lv_at hl 0 rfl) ?_
  refine lv_bipush (v := 6) hx hb dX1_init_44 rfl ?_
  refine va_newa (atype := .int) hx hb (hts (.arrayClass .int) (List.mem_of_getElem? (i := 4) rfl)) rfl hK hP hD hS hA (N' := 6) (a0 := (6, .inl (fun _ => 0))) (fun _ => rfl) (by decide) (by decide) (Nat.le_of_ble_eq_true rfl) (Nat.le_of_ble_eq_true rfl) (Nat.le_of_ble_eq_true rfl) dX1_init_46 (fun q_6 cA H hK1 hP hD hS => ?_)
  obtain rfl : cA = C 0 := cA_I hK1
  have hP : va_P D vwCl [(a0, .inr (1, [.ref q_1, .ref q_2, .ref q_3, .ref q_4, .ref q_5, .null, .int 0, .int 0, .int 0, .int 0])), (q_1, .inl (C 0, 4, .inl (fun _ => 0))), (q_2, .inl (C 0, 8, .inl (fun _ => 0))), (q_3, .inl (C 0, 8, .inl (fun _ => 0))), (q_4, .inl (C 0, 8, .inl (fun _ => 0))), (q_5, .inl (C 0, 6, .inl (fun _ => 0))), (q_6, .inl (C 0, 6, .inl (fun _ => 0)))] H := hP
  have hD : va_D A [(a0, .inr (1, [.ref q_1, .ref q_2, .ref q_3, .ref q_4, .ref q_5, .null, .int 0, .int 0, .int 0, .int 0])), (q_1, .inl (C 0, 4, .inl (fun _ => 0))), (q_2, .inl (C 0, 8, .inl (fun _ => 0))), (q_3, .inl (C 0, 8, .inl (fun _ => 0))), (q_4, .inl (C 0, 8, .inl (fun _ => 0))), (q_5, .inl (C 0, 6, .inl (fun _ => 0))), (q_6, .inl (C 0, 6, .inl (fun _ => 0)))] := hD
  refine W.widen (k := 6) (n := 40) (by omega) (by omega) ?_
  refine va_putF (D := D) (ci := 1) (v := .ref q_6) (ty := (.array .int)) (C := RX1) (T := TX1) (N := 10) hx hb hts hi_RX1 tyX1 tyX1_ok nmX1 hown hK hP hD hS 0 rfl rfl 5 (by decide) (hts (.fieldLink RX1 27 "TravelMarks$Port" "second" "[I") (List.mem_of_getElem? (i := 10) rfl)) (fun _ h9 => h9) rfl hin rfl (tyX1_ok 5 (by decide)) rfl rfl (Nat.le_of_ble_eq_true rfl) dX1_init_48 (fun H locs hP hD hS => ?_)
  have hP : va_P D vwCl [(a0, .inr (1, [.ref q_1, .ref q_2, .ref q_3, .ref q_4, .ref q_5, .ref q_6, .int 0, .int 0, .int 0, .int 0])), (q_1, .inl (C 0, 4, .inl (fun _ => 0))), (q_2, .inl (C 0, 8, .inl (fun _ => 0))), (q_3, .inl (C 0, 8, .inl (fun _ => 0))), (q_4, .inl (C 0, 8, .inl (fun _ => 0))), (q_5, .inl (C 0, 6, .inl (fun _ => 0))), (q_6, .inl (C 0, 6, .inl (fun _ => 0)))] H := hP
  have hD : va_D A [(a0, .inr (1, [.ref q_1, .ref q_2, .ref q_3, .ref q_4, .ref q_5, .ref q_6, .int 0, .int 0, .int 0, .int 0])), (q_1, .inl (C 0, 4, .inl (fun _ => 0))), (q_2, .inl (C 0, 8, .inl (fun _ => 0))), (q_3, .inl (C 0, 8, .inl (fun _ => 0))), (q_4, .inl (C 0, 8, .inl (fun _ => 0))), (q_5, .inl (C 0, 6, .inl (fun _ => 0))), (q_6, .inl (C 0, 6, .inl (fun _ => 0)))] := hD
  refine lv_aload_n hx hb dX1_init_51 rfl (lv_at hl 0 rfl) ?_
  refine lv_iconst (v := 1) hx hb dX1_init_52 rfl ?_
  refine va_put (D := D) (ci := 1) (v := .int 1) (ty := .int) (C := RX1) (T := TX1) (N := 10) hx hb hts hi_RX1 tyX1 tyX1_ok nmX1 hown hK hP hD hS 0 rfl rfl 8 (by decide) (hts (.fieldLink RX1 30 "TravelMarks$Port" "z" "I") (List.mem_of_getElem? (i := 11) rfl)) (fun _ h9 => h9) rfl (tyX1_ok 8 (by decide)) rfl rfl (Nat.le_of_ble_eq_true rfl) dX1_init_53 (fun H locs hP hD hS => ?_)
  have hP : va_P D vwCl [(a0, .inr (1, [.ref q_1, .ref q_2, .ref q_3, .ref q_4, .ref q_5, .ref q_6, .int 0, .int 0, .int 1, .int 0])), (q_1, .inl (C 0, 4, .inl (fun _ => 0))), (q_2, .inl (C 0, 8, .inl (fun _ => 0))), (q_3, .inl (C 0, 8, .inl (fun _ => 0))), (q_4, .inl (C 0, 8, .inl (fun _ => 0))), (q_5, .inl (C 0, 6, .inl (fun _ => 0))), (q_6, .inl (C 0, 6, .inl (fun _ => 0)))] H := hP
  have hD : va_D A [(a0, .inr (1, [.ref q_1, .ref q_2, .ref q_3, .ref q_4, .ref q_5, .ref q_6, .int 0, .int 0, .int 1, .int 0])), (q_1, .inl (C 0, 4, .inl (fun _ => 0))), (q_2, .inl (C 0, 8, .inl (fun _ => 0))), (q_3, .inl (C 0, 8, .inl (fun _ => 0))), (q_4, .inl (C 0, 8, .inl (fun _ => 0))), (q_5, .inl (C 0, 6, .inl (fun _ => 0))), (q_6, .inl (C 0, 6, .inl (fun _ => 0)))] := hD
  refine lv_aload_n hx hb dX1_init_56 rfl (lv_at hl 0 rfl) ?_
  have hP : va_P D vwCl (oPort C a0 q_1 q_2 q_3 q_4 q_5 q_6 PV0 []) H := hP
  have hD : va_D A (oPort C a0 q_1 q_2 q_3 q_4 q_5 q_6 PV0 []) := hD
  refine kcv (Wx := (oPort C a0 q_1 q_2 q_3 q_4 q_5 q_6 v' [])) (va_runV (As := []) (rest := []) ⟨hx, hb, hml, hown, hts⟩ (c_X1_clear l E D C a0 q_1 q_2 q_3 q_4 q_5 q_6 H.size N PV0 v' hf) (cwV 0 hts gX1_init_X1_clear rfl rfl rfl hdX1_clear ⟨Nat.le_of_ble_eq_true rfl, Nat.le_of_ble_eq_true rfl⟩) (kpreV hP hD hK hS hE hA [0, 1, 2, 3, 4, 5, 6] rfl rfl 0 rfl rfl rfl) rfl rfl hl.1 rfl (lv_room (Nat.le_of_ble_eq_true rfl)) dX1_init_57 ⟨Nat.le_of_ble_eq_true rfl, Nat.le_of_ble_eq_true rfl⟩) hP hD hS hA [0, 1, 2, 3, 4, 5, 6] rfl rfl rfl (fun H locs hP hD hS => ?_)
  have hP : va_P D vwCl (oPort C a0 q_1 q_2 q_3 q_4 q_5 q_6 v' []) H := hP
  have hD : va_D A (oPort C a0 q_1 q_2 q_3 q_4 q_5 q_6 v' []) := hD
  have hK9 := hK
  refine W.widen (k := 6) (n := 40) (by omega) (by omega) ?_
  subst hAe
  exact W.vret hx hb hr (fun t ht hW => ⟨⟨(), rfl, trivial, q_1, q_2, q_3, q_4, q_5, q_6, by rw [ht]; exact hP, va_K.moved hW.alike hK, hD⟩, hS.F ht⟩) hS.2.2 dX1_init_60 hlocks
