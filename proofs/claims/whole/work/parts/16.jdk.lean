theorem kpreS {s : State} {H : Heap} {locs : List Loc} {A : Nat → Prop} {E : Nat → Nat} {D : va_G} {C : Nat → ClassId} {Ww : va_W} {As : List Value} {w : Nat} (hP : va_P D vwCl Ww H) (hD : va_D A Ww) (hK : va_K D vwCl (tyL C) s) (hS : va_S A s.heap H locs) (hE : SE E A s s.heap) (hA : ∀ q, s.heap.size ≤ q → A q) (hw : w < 14) : PreV s H "java/lang/String" (E (10 + w)) (PC E D C (.ref (E (10 + w)) :: As) [] H.size) As :=
  ⟨PC_blind, vk_recv (adK := fun i => E (10 + i)) (i := w) hE.2.2.2.1 hw hS, (kpre (As := .ref (E (10 + w)) :: As) (wc := []) hP hD hK hS hE hA [] rfl rfl).2⟩
theorem stL_lt (w : Nat) : stL.getD w 0 < 2 ^ 31 := by
  by_cases h : w < 14
  · exact (by decide : ∀ w : Nat, w < 14 → stL.getD w 0 < 2 ^ 31) w h
  · have e : stL.getD w 0 = 0 := by
      rw [List.getD_eq_getElem?_getD, List.getElem?_eq_none (by show 14 ≤ w; omega)]
      rfl
    rw [e]
    decide
section KRT
variable {p : Program} {l : Launch} {e : Env} {R : Room} {s : State} {m : MethodId} {args : Array Value} {below : List Frame} {meth : Method} {c : Code} {H : Heap} {locs : List Loc} {cells slots : Nat} {Q : State → Prop}
variable {pc : Nat} {ls : Array Slot} {rest : List Value} {cc : ByteArray} {A : Nat → Prop} {E : Nat → Nat} {D : va_G} {C : Nat → ClassId} {w0 w1 : va_W}
theorem krt {r : Int32} {ty : FieldType} (hQ : Q = MQ below (QI D C w0 w1 s.heap.size r) args s 0 0 A) (hAe : A = va_A w0 s.heap.size) (hx : p.tables.exec = Jvm.exec) (hb : c.code = cc) (hr : meth.sig.returnType = some ty) (hn : narrow ty (.int r) = .int r) (hlocks : meth.locks = false) (hP : va_P D vwCl w1 H) (hD : va_D A w1) (hK : va_K D vwCl (tyL C) s) (hS : va_S A s.heap H locs) (hdg : decode cc pc = .ok (.ireturn, 1)) : W p l e R s m args below meth c H locs 0 0 Q (F0 m pc ls [.int r]) := by
  subst hQ
  subst hAe
  exact W.zret hx hb hr hn (fun t ht hW => ⟨⟨r, (), rfl, rfl, by rw [ht]; exact hP, va_K.moved hW.alike hK, hD⟩, hS.F ht⟩) hS.2.2 hdg hlocks
end KRT
theorem eJ3_checkIndex_8e157_0 : decode cJ3_checkIndex_8e157 0 = .ok (.iload_n 0, 1) := by decide +kernel
theorem eJ3_checkIndex_8e157_1 : decode cJ3_checkIndex_8e157 1 = .ok (.ifCond .lt 8, 3) := by decide +kernel
theorem eJ3_checkIndex_8e157_4 : decode cJ3_checkIndex_8e157 4 = .ok (.iload_n 0, 1) := by decide +kernel
theorem eJ3_checkIndex_8e157_5 : decode cJ3_checkIndex_8e157 5 = .ok (.iload_n 1, 1) := by decide +kernel
theorem eJ3_checkIndex_8e157_6 : decode cJ3_checkIndex_8e157 6 = .ok (.if_icmp .lt 10, 3) := by decide +kernel
theorem eJ3_checkIndex_8e157_16 : decode cJ3_checkIndex_8e157 16 = .ok (.iload_n 0, 1) := by decide +kernel
theorem eJ3_checkIndex_8e157_17 : decode cJ3_checkIndex_8e157 17 = .ok (.ireturn, 1) := by decide +kernel
def rmJ3_checkIndex_8e157 : Room := { frames := 0, cells := 0, slots := 0, locals := 0 }
theorem hdJ3_checkIndex_8e157 : yJ3_checkIndex_8e157.cls ≠ "java/lang/invoke/MethodHandle" ∧ yJ3_checkIndex_8e157.cls ≠ "java/lang/invoke/VarHandle" ∧ (parseMethodDescriptor yJ3_checkIndex_8e157.desc).map (fun d => d.parameters.length) = some 3 := by decide +kernel
set_option maxHeartbeats 4000000 in
set_option maxRecDepth 100000 in
theorem c_J3_checkIndex_8e157N (l : Launch) (E : Nat → Nat) (D : va_G) (C : Nat → ClassId) (sz : Nat) (i n : Int32) (h0 : ¬ i < 0) (h1 : i < n) : Met l yJ3_checkIndex_8e157 wsJ3_checkIndex_8e157 rmJ3_checkIndex_8e157 (PC E D C [.int i, .int n, .null] [] sz) (QI D C [] [] sz i) 0 0 (va_A [] sz) := by
  refine va_MetF (cc := cJ3_checkIndex_8e157) (maxL := 3) (ret := (some .int)) (by decide +kernel) rfl ?_
  intro p e s m args below meth c s₁ B hml hv
  obtain ⟨rfl, hsz, hP, hK, hD0, hE⟩ := hv
  have hx := B.exec
  have hb := B.bytes
  have hr := B.returns
  have hts := atoms_spec (ws := wsJ3_checkIndex_8e157) B.pre
  have hown : s.vm.findClass RJ3 = some m.cls := findClass_of_methodNamed B.named
  have hlocks := B.notSynchronized
  subst hsz
  have hD := hD0.self (sz := s.heap.size)
  obtain ⟨A, hAe⟩ := nm_ex (va_A [] s.heap.size)
  rw [← hAe] at hD hE ⊢
  have hA : ∀ q : Nat, s.heap.size ≤ q → A q := fun q h => by rw [hAe]; exact Or.inr h
  have hS : va_S A s.heap s.heap [] := va_S.rf
  have hl := lv_entry ([.int i, .int n, .null]) (n := 3) (Nat.le_of_ble_eq_true rfl)
  rw [lg_entry_eq]
  generalize (lg_sl ([.int i, .int n, .null]) ++ List.replicate (3 - (lg_sl ([.int i, .int n, .null])).length) Slot.unset).toArray = ls at hl ⊢
  have hl : lv_has ls 3 [(0, .int i), (1, .int n), (2, .null)] := hl
  obtain ⟨Q, hQ⟩ := nm_ex (MQ below (QI D C [] [] s.heap.size i) (List.toArray [Value.int i, Value.int n, Value.null]) s 0 0 A)
  show W p l e (headSpec wsJ3_checkIndex_8e157 rmJ3_checkIndex_8e157).room s m (List.toArray [Value.int i, Value.int n, Value.null]) below meth c s.heap [] 0 0 (MQ below (QI D C [] [] s.heap.size i) (List.toArray [Value.int i, Value.int n, Value.null]) s 0 0 A) _
  rw [← hQ]
  have main : ∀ (H : Heap) (locs : List Loc), va_P D vwCl [] H → va_D A [] → va_S A s.heap H locs → W p l e (headSpec wsJ3_checkIndex_8e157 rmJ3_checkIndex_8e157).room s m (List.toArray [Value.int i, Value.int n, Value.null]) below meth c H locs 0 0 Q (F0 m 0 ls []) := by
    intro H locs hP hD hS
    refine lv_iload_n hx hb eJ3_checkIndex_8e157_0 rfl (lv_at hl 0 rfl) ?_
    refine lv_if_lt (tgt := 9) hx hb eJ3_checkIndex_8e157_1 (by decide) (fun q => absurd q h0) (fun _ => ?_)
    refine lv_iload_n hx hb eJ3_checkIndex_8e157_4 rfl (lv_at hl 0 rfl) ?_
    refine lv_iload_n hx hb eJ3_checkIndex_8e157_5 rfl (lv_at hl 1 rfl) ?_
    refine lv_icmp_lt (tgt := 16) hx hb eJ3_checkIndex_8e157_6 (by decide) (fun _ => ?_) (fun q => absurd h1 q)
    refine lv_iload_n hx hb eJ3_checkIndex_8e157_16 rfl (lv_at hl 0 rfl) ?_
    exact kri hQ hAe hx hb hr hlocks hP hD hK hS eJ3_checkIndex_8e157_17
  exact main _ _ hP hD hS
set_option maxHeartbeats 4000000 in
set_option maxRecDepth 100000 in
theorem c_J3_checkIndex_8e157R (l : Launch) (E : Nat → Nat) (D : va_G) (C : Nat → ClassId) (sz : Nat) (t : Nat) (i n : Int32) (h0 : ¬ i < 0) (h1 : i < n) : Met l yJ3_checkIndex_8e157 wsJ3_checkIndex_8e157 rmJ3_checkIndex_8e157 (PC E D C [.int i, .int n, .ref t] [] sz) (QI D C [] [] sz i) 0 0 (va_A [] sz) := by
  refine va_MetF (cc := cJ3_checkIndex_8e157) (maxL := 3) (ret := (some .int)) (by decide +kernel) rfl ?_
  intro p e s m args below meth c s₁ B hml hv
  obtain ⟨rfl, hsz, hP, hK, hD0, hE⟩ := hv
  have hx := B.exec
  have hb := B.bytes
  have hr := B.returns
  have hts := atoms_spec (ws := wsJ3_checkIndex_8e157) B.pre
  have hown : s.vm.findClass RJ3 = some m.cls := findClass_of_methodNamed B.named
  have hlocks := B.notSynchronized
  subst hsz
  have hD := hD0.self (sz := s.heap.size)
  obtain ⟨A, hAe⟩ := nm_ex (va_A [] s.heap.size)
  rw [← hAe] at hD hE ⊢
  have hA : ∀ q : Nat, s.heap.size ≤ q → A q := fun q h => by rw [hAe]; exact Or.inr h
  have hS : va_S A s.heap s.heap [] := va_S.rf
  have hl := lv_entry ([.int i, .int n, .ref t]) (n := 3) (Nat.le_of_ble_eq_true rfl)
  rw [lg_entry_eq]
  generalize (lg_sl ([.int i, .int n, .ref t]) ++ List.replicate (3 - (lg_sl ([.int i, .int n, .ref t])).length) Slot.unset).toArray = ls at hl ⊢
  have hl : lv_has ls 3 [(0, .int i), (1, .int n), (2, .ref t)] := hl
  obtain ⟨Q, hQ⟩ := nm_ex (MQ below (QI D C [] [] s.heap.size i) (List.toArray [Value.int i, Value.int n, Value.ref t]) s 0 0 A)
  show W p l e (headSpec wsJ3_checkIndex_8e157 rmJ3_checkIndex_8e157).room s m (List.toArray [Value.int i, Value.int n, Value.ref t]) below meth c s.heap [] 0 0 (MQ below (QI D C [] [] s.heap.size i) (List.toArray [Value.int i, Value.int n, Value.ref t]) s 0 0 A) _
  rw [← hQ]
  have main : ∀ (H : Heap) (locs : List Loc), va_P D vwCl [] H → va_D A [] → va_S A s.heap H locs → W p l e (headSpec wsJ3_checkIndex_8e157 rmJ3_checkIndex_8e157).room s m (List.toArray [Value.int i, Value.int n, Value.ref t]) below meth c H locs 0 0 Q (F0 m 0 ls []) := by
    intro H locs hP hD hS
    refine lv_iload_n hx hb eJ3_checkIndex_8e157_0 rfl (lv_at hl 0 rfl) ?_
    refine lv_if_lt (tgt := 9) hx hb eJ3_checkIndex_8e157_1 (by decide) (fun q => absurd q h0) (fun _ => ?_)
    refine lv_iload_n hx hb eJ3_checkIndex_8e157_4 rfl (lv_at hl 0 rfl) ?_
    refine lv_iload_n hx hb eJ3_checkIndex_8e157_5 rfl (lv_at hl 1 rfl) ?_
    refine lv_icmp_lt (tgt := 16) hx hb eJ3_checkIndex_8e157_6 (by decide) (fun _ => ?_) (fun q => absurd h1 q)
    refine lv_iload_n hx hb eJ3_checkIndex_8e157_16 rfl (lv_at hl 0 rfl) ?_
    exact kri hQ hAe hx hb hr hlocks hP hD hK hS eJ3_checkIndex_8e157_17
  exact main _ _ hP hD hS
def rmJ0_checkIndex_df160 : Room := { frames := 1, cells := 0, slots := 0, locals := 22 }
theorem hdJ0_checkIndex_df160 : yJ0_checkIndex_df160.cls ≠ "java/lang/invoke/MethodHandle" ∧ yJ0_checkIndex_df160.cls ≠ "java/lang/invoke/VarHandle" ∧ (parseMethodDescriptor yJ0_checkIndex_df160.desc).map (fun d => d.parameters.length) = some 2 := by decide +kernel
set_option maxHeartbeats 4000000 in
set_option maxRecDepth 100000 in
theorem c_J0_checkIndex_df160 (l : Launch) (E : Nat → Nat) (D : va_G) (C : Nat → ClassId) (sz : Nat) (i n : Int32) (h0 : ¬ i < 0) (h1 : i < n) : Met l yJ0_checkIndex_df160 wsJ0_checkIndex_df160 rmJ0_checkIndex_df160 (PC E D C [.int i, .int n] [] sz) (QV D C [] [] sz) 0 0 (va_A [] sz) := by
  refine va_MetF (cc := cJ0_checkIndex_df160) (maxL := 2) (ret := none) (by decide +kernel) rfl ?_
  intro p e s m args below meth c s₁ B hml hv
  obtain ⟨rfl, hsz, hP, hK, hD0, hE⟩ := hv
  have hx := B.exec
  have hb := B.bytes
  have hr := B.returns
  have hts := atoms_spec (ws := wsJ0_checkIndex_df160) B.pre
  have hown : s.vm.findClass RJ0 = some m.cls := findClass_of_methodNamed B.named
  have hlocks := B.notSynchronized
  subst hsz
  have hD := hD0.self (sz := s.heap.size)
  obtain ⟨A, hAe⟩ := nm_ex (va_A [] s.heap.size)
  rw [← hAe] at hD hE ⊢
  have hA : ∀ q : Nat, s.heap.size ≤ q → A q := fun q h => by rw [hAe]; exact Or.inr h
  have hS : va_S A s.heap s.heap [] := va_S.rf
  have hl := lv_entry ([.int i, .int n]) (n := 2) (Nat.le_of_ble_eq_true rfl)
  rw [lg_entry_eq]
  generalize (lg_sl ([.int i, .int n]) ++ List.replicate (2 - (lg_sl ([.int i, .int n])).length) Slot.unset).toArray = ls at hl ⊢
  have hl : lv_has ls 2 [(0, .int i), (1, .int n)] := hl
  obtain ⟨Q, hQ⟩ := nm_ex (MQ below (QV D C [] [] s.heap.size) (List.toArray [Value.int i, Value.int n]) s 0 0 A)
  show W p l e (headSpec wsJ0_checkIndex_df160 rmJ0_checkIndex_df160).room s m (List.toArray [Value.int i, Value.int n]) below meth c s.heap [] 0 0 (MQ below (QV D C [] [] s.heap.size) (List.toArray [Value.int i, Value.int n]) s 0 0 A) _
  rw [← hQ]
  have main : ∀ (H : Heap) (locs : List Loc), va_P D vwCl [] H → va_D A [] → va_S A s.heap H locs → W p l e (headSpec wsJ0_checkIndex_df160 rmJ0_checkIndex_df160).room s m (List.toArray [Value.int i, Value.int n]) below meth c H locs 0 0 Q (F0 m 0 ls []) := by
    intro H locs hP hD hS
    refine lv_iload_n hx hb dJ0_checkIndex_df160_0 rfl (lv_at hl 0 rfl) ?_
    refine lv_iload_n hx hb dJ0_checkIndex_df160_1 rfl (lv_at hl 1 rfl) ?_
    rcases hE.2.2.2.2.2.1 with hq | ⟨t, hq⟩
    · refine va_gets hx hb hq hS hown (hts (.fieldLink RJ0 1053 "jdk/internal/util/Preconditions" "SIOOBE_FORMATTER" "Ljava/util/function/BiFunction;") (List.mem_of_getElem? (i := 1) rfl)) (fun _ h9 => h9) dJ0_checkIndex_df160_2 ?_
      refine kci (Wx := []) (va_runS (As := [.int i, .int n, .null]) (rest := []) ⟨hx, hb, hml, hown, hts⟩ (c_J3_checkIndex_8e157N l E D C H.size i n h0 h1) (va_cwS 3 hts gJ0_checkIndex_df160_J3_checkIndex_8e157 rfl rfl rfl hdJ3_checkIndex_8e157 ⟨Nat.le_of_ble_eq_true rfl, Nat.le_of_ble_eq_true rfl⟩) (kpre hP hD hK hS hE hA [] rfl rfl) rfl rfl hl.1 rfl (lv_room (Nat.le_of_ble_eq_true rfl)) dJ0_checkIndex_df160_5 ⟨Nat.zero_le _, Nat.zero_le _⟩) hP hD hS hA [] rfl rfl rfl (fun H locs hP hD hS => ?_)
      refine lv_pop hx hb dJ0_checkIndex_df160_8 rfl ?_
      exact krv hQ hAe hx hb hr hlocks hP hD hK hS dJ0_checkIndex_df160_9
    · refine va_gets hx hb hq hS hown (hts (.fieldLink RJ0 1053 "jdk/internal/util/Preconditions" "SIOOBE_FORMATTER" "Ljava/util/function/BiFunction;") (List.mem_of_getElem? (i := 1) rfl)) (fun _ h9 => h9) dJ0_checkIndex_df160_2 ?_
      refine kci (Wx := []) (va_runS (As := [.int i, .int n, .ref t]) (rest := []) ⟨hx, hb, hml, hown, hts⟩ (c_J3_checkIndex_8e157R l E D C H.size t i n h0 h1) (va_cwS 3 hts gJ0_checkIndex_df160_J3_checkIndex_8e157 rfl rfl rfl hdJ3_checkIndex_8e157 ⟨Nat.le_of_ble_eq_true rfl, Nat.le_of_ble_eq_true rfl⟩) (kpre hP hD hK hS hE hA [] rfl rfl) rfl rfl hl.1 rfl (lv_room (Nat.le_of_ble_eq_true rfl)) dJ0_checkIndex_df160_5 ⟨Nat.zero_le _, Nat.zero_le _⟩) hP hD hS hA [] rfl rfl rfl (fun H locs hP hD hS => ?_)
      refine lv_pop hx hb dJ0_checkIndex_df160_8 rfl ?_
      exact krv hQ hAe hx hb hr hlocks hP hD hK hS dJ0_checkIndex_df160_9
  exact main _ _ hP hD hS
def rmJ1_charAt_3b067 : Room := { frames := 2, cells := 0, slots := 0, locals := 50 }
theorem hdJ1_charAt_3b067 : yJ1_charAt_3b067.cls ≠ "java/lang/invoke/MethodHandle" ∧ yJ1_charAt_3b067.cls ≠ "java/lang/invoke/VarHandle" ∧ (parseMethodDescriptor yJ1_charAt_3b067.desc).map (fun d => d.parameters.length) = some 2 := by decide +kernel
set_option maxHeartbeats 4000000 in
set_option maxRecDepth 100000 in
theorem c_J1_charAt_3b067 (l : Launch) (E : Nat → Nat) (D : va_G) (C : Nat → ClassId) (sz : Nat) (w : Nat) (hw : w < 14) (j : Int32) (hj : vp_in j (stL.getD w 0)) : Met l yJ1_charAt_3b067 wsJ1_charAt_3b067 rmJ1_charAt_3b067 (PC E D C [.ref (E (30 + w)), .int j] [] sz) (QI D C [] [] sz (stCh w j.toNatClampNeg)) 0 0 (va_A [] sz) := by
  refine va_MetF (cc := cJ1_charAt_3b067) (maxL := 2) (ret := (some .char)) (by decide +kernel) rfl ?_
  intro p e s m args below meth c s₁ B hml hv
  obtain ⟨rfl, hsz, hP, hK, hD0, hE⟩ := hv
  have hx := B.exec
  have hb := B.bytes
  have hr := B.returns
  have hts := atoms_spec (ws := wsJ1_charAt_3b067) B.pre
  have hown : s.vm.findClass RJ1 = some m.cls := findClass_of_methodNamed B.named
  have hlocks := B.notSynchronized
  subst hsz
  have hD := hD0.self (sz := s.heap.size)
  obtain ⟨A, hAe⟩ := nm_ex (va_A [] s.heap.size)
  rw [← hAe] at hD hE ⊢
  have hA : ∀ q : Nat, s.heap.size ≤ q → A q := fun q h => by rw [hAe]; exact Or.inr h
  have hS : va_S A s.heap s.heap [] := va_S.rf
  have hl := lv_entry ([.ref (E (30 + w)), .int j]) (n := 2) (Nat.le_of_ble_eq_true rfl)
  rw [lg_entry_eq]
  generalize (lg_sl ([.ref (E (30 + w)), .int j]) ++ List.replicate (2 - (lg_sl ([.ref (E (30 + w)), .int j])).length) Slot.unset).toArray = ls at hl ⊢
  have hl : lv_has ls 2 [(0, .ref (E (30 + w))), (1, .int j)] := hl
  obtain ⟨Q, hQ⟩ := nm_ex (MQ below (QI D C [] [] s.heap.size (stCh w j.toNatClampNeg)) (List.toArray [Value.ref (E (30 + w)), Value.int j]) s 0 0 A)
  show W p l e (headSpec wsJ1_charAt_3b067 rmJ1_charAt_3b067).room s m (List.toArray [Value.ref (E (30 + w)), Value.int j]) below meth c s.heap [] 0 0 (MQ below (QI D C [] [] s.heap.size (stCh w j.toNatClampNeg)) (List.toArray [Value.ref (E (30 + w)), Value.int j]) s 0 0 A) _
  rw [← hQ]
  have main : ∀ (H : Heap) (locs : List Loc), va_P D vwCl [] H → va_D A [] → va_S A s.heap H locs → W p l e (headSpec wsJ1_charAt_3b067 rmJ1_charAt_3b067).room s m (List.toArray [Value.ref (E (30 + w)), Value.int j]) below meth c H locs 0 0 Q (F0 m 0 ls []) := by
    intro H locs hP hD hS
    have hlen : stL.getD w 0 < 2 ^ 31 := stL_lt w
    have hj0 : ¬ j < 0 := fun q => hj (Or.inl q)
    have hj1 : j < Int32.ofNat (stL.getD w 0) := by
      obtain ⟨a, ha, rfl⟩ := vp_in_of hj hlen
      exact nI_lt ha hlen
    refine lv_iload_n hx hb dJ1_charAt_3b067_0 rfl (lv_at hl 1 rfl) ?_
    refine lv_aload_n hx hb dJ1_charAt_3b067_1 rfl (lv_at hl 0 rfl) ?_
    refine va_tlen hx hb (hE.2.2.2.1.1 w hw).2.2.2 hS rfl dJ1_charAt_3b067_2 ?_
    refine kcv (Wx := []) (va_runS (As := [.int j, .int (Int32.ofNat (stL.getD w 0))]) (rest := []) ⟨hx, hb, hml, hown, hts⟩ (c_J0_checkIndex_df160 l E D C H.size j (Int32.ofNat (stL.getD w 0)) hj0 hj1) (va_cwS 2 hts gJ1_charAt_3b067_J0_checkIndex_df160 rfl rfl rfl hdJ0_checkIndex_df160 ⟨Nat.le_of_ble_eq_true rfl, Nat.le_of_ble_eq_true rfl⟩) (kpre hP hD hK hS hE hA [] rfl rfl) rfl rfl hl.1 rfl (lv_room (Nat.le_of_ble_eq_true rfl)) dJ1_charAt_3b067_3 ⟨Nat.zero_le _, Nat.zero_le _⟩) hP hD hS hA [] rfl rfl rfl (fun H locs hP hD hS => ?_)
    refine lv_aload_n hx hb dJ1_charAt_3b067_6 rfl (lv_at hl 0 rfl) ?_
    refine lv_iload_n hx hb dJ1_charAt_3b067_7 rfl (lv_at hl 1 rfl) ?_
    refine va_tb hx hb (hE.2.2.2.1.1 w hw).2.2.2 hS hj (v := .int ((stB.getD w []).getD j.toNatClampNeg 0)) rfl dJ1_charAt_3b067_8 ?_
    refine lv_sipush (v := 255) hx hb dJ1_charAt_3b067_9 rfl ?_
    refine lv_iand hx hb dJ1_charAt_3b067_12 ?_
    refine lv_i2c hx hb dJ1_charAt_3b067_13 (sc_c2 _) ?_
    exact krt hQ hAe hx hb hr (sc_nar _) hlocks hP hD hK hS dJ1_charAt_3b067_14
  exact main _ _ hP hD hS
def rmJ0_coder_7d493 : Room := { frames := 0, cells := 0, slots := 0, locals := 0 }
theorem hdJ0_coder_7d493 : yJ0_coder_7d493.cls = RJ0 ∧ yJ0_coder_7d493.cls ≠ "java/lang/invoke/MethodHandle" ∧ yJ0_coder_7d493.cls ≠ "java/lang/invoke/VarHandle" ∧ (parseMethodDescriptor yJ0_coder_7d493.desc).map (fun d => d.parameters.length) = some 0 := by decide +kernel
set_option maxHeartbeats 4000000 in
set_option maxRecDepth 100000 in
theorem c_J0_coder_7d493 (l : Launch) (E : Nat → Nat) (D : va_G) (C : Nat → ClassId) (sz : Nat) (w : Nat) (hw : w < 14)  : Met l yJ0_coder_7d493 wsJ0_coder_7d493 rmJ0_coder_7d493 (PC E D C [.ref (E (10 + w))] [] sz) (QI D C [] [] sz 0) 0 0 (va_A [] sz) := by
  refine va_MetF (cc := cJ0_coder_7d493) (maxL := 1) (ret := (some .byte)) (by decide +kernel) rfl ?_
  intro p e s m args below meth c s₁ B hml hv
  obtain ⟨rfl, hsz, hP, hK, hD0, hE⟩ := hv
  have hx := B.exec
  have hb := B.bytes
  have hr := B.returns
  have hts := atoms_spec (ws := wsJ0_coder_7d493) B.pre
  have hown : s.vm.findClass RJ0 = some m.cls := findClass_of_methodNamed B.named
  have hlocks := B.notSynchronized
  subst hsz
  have hD := hD0.self (sz := s.heap.size)
  obtain ⟨A, hAe⟩ := nm_ex (va_A [] s.heap.size)
  rw [← hAe] at hD hE ⊢
  have hA : ∀ q : Nat, s.heap.size ≤ q → A q := fun q h => by rw [hAe]; exact Or.inr h
  have hS : va_S A s.heap s.heap [] := va_S.rf
  have hl := lv_entry ([.ref (E (10 + w))]) (n := 1) (Nat.le_of_ble_eq_true rfl)
  rw [lg_entry_eq]
  generalize (lg_sl ([.ref (E (10 + w))]) ++ List.replicate (1 - (lg_sl ([.ref (E (10 + w))])).length) Slot.unset).toArray = ls at hl ⊢
  have hl : lv_has ls 1 [(0, .ref (E (10 + w)))] := hl
  obtain ⟨Q, hQ⟩ := nm_ex (MQ below (QI D C [] [] s.heap.size 0) (List.toArray [Value.ref (E (10 + w))]) s 0 0 A)
  show W p l e (headSpec wsJ0_coder_7d493 rmJ0_coder_7d493).room s m (List.toArray [Value.ref (E (10 + w))]) below meth c s.heap [] 0 0 (MQ below (QI D C [] [] s.heap.size 0) (List.toArray [Value.ref (E (10 + w))]) s 0 0 A) _
  rw [← hQ]
  have main : ∀ (H : Heap) (locs : List Loc), va_P D vwCl [] H → va_D A [] → va_S A s.heap H locs → W p l e (headSpec wsJ0_coder_7d493 rmJ0_coder_7d493).room s m (List.toArray [Value.ref (E (10 + w))]) below meth c H locs 0 0 Q (F0 m 0 ls []) := by
    intro H locs hP hD hS
    refine va_gets hx hb hE.2.2.2.2.1 hS hown (hts (.fieldLink RJ0 38 "java/lang/String" "COMPACT_STRINGS" "Z") (List.mem_of_getElem? (i := 1) rfl)) (fun _ h9 => h9) dJ0_coder_7d493_0 ?_
    refine lv_if_eq (tgt := 13) hx hb dJ0_coder_7d493_3 (by decide) (fun q => absurd q (by decide)) (fun _ => ?_)
    refine lv_aload_n hx hb dJ0_coder_7d493_6 rfl (lv_at hl 0 rfl) ?_
    refine vk_getf hx hb (hE.2.2.2.1.1 w hw).2.1 hS hown (hts (.fieldLink RJ0 15 "java/lang/String" "coder" "B") (List.mem_of_getElem? (i := 2) rfl)) (fun _ h9 => h9) dJ0_coder_7d493_7 ?_
    refine lv_goto (tgt := 14) hx hb dJ0_coder_7d493_10 (by decide) ?_
    exact krt hQ hAe hx hb hr rfl hlocks hP hD hK hS dJ0_coder_7d493_14
  exact main _ _ hP hD hS
def rmJ0_isLatin1_aae02 : Room := { frames := 0, cells := 0, slots := 0, locals := 0 }
theorem hdJ0_isLatin1_aae02 : yJ0_isLatin1_aae02.cls = RJ0 ∧ yJ0_isLatin1_aae02.cls ≠ "java/lang/invoke/MethodHandle" ∧ yJ0_isLatin1_aae02.cls ≠ "java/lang/invoke/VarHandle" ∧ (parseMethodDescriptor yJ0_isLatin1_aae02.desc).map (fun d => d.parameters.length) = some 0 := by decide +kernel
set_option maxHeartbeats 4000000 in
set_option maxRecDepth 100000 in
theorem c_J0_isLatin1_aae02 (l : Launch) (E : Nat → Nat) (D : va_G) (C : Nat → ClassId) (sz : Nat) (w : Nat) (hw : w < 14)  : Met l yJ0_isLatin1_aae02 wsJ0_isLatin1_aae02 rmJ0_isLatin1_aae02 (PC E D C [.ref (E (10 + w))] [] sz) (QZ D C [] [] sz 1) 0 0 (va_A [] sz) := by
  refine va_MetF (cc := cJ0_isLatin1_aae02) (maxL := 1) (ret := (some .boolean)) (by decide +kernel) rfl ?_
  intro p e s m args below meth c s₁ B hml hv
  obtain ⟨rfl, hsz, hP, hK, hD0, hE⟩ := hv
  have hx := B.exec
  have hb := B.bytes
  have hr := B.returns
  have hts := atoms_spec (ws := wsJ0_isLatin1_aae02) B.pre
  have hown : s.vm.findClass RJ0 = some m.cls := findClass_of_methodNamed B.named
  have hlocks := B.notSynchronized
  subst hsz
  have hD := hD0.self (sz := s.heap.size)
  obtain ⟨A, hAe⟩ := nm_ex (va_A [] s.heap.size)
  rw [← hAe] at hD hE ⊢
  have hA : ∀ q : Nat, s.heap.size ≤ q → A q := fun q h => by rw [hAe]; exact Or.inr h
  have hS : va_S A s.heap s.heap [] := va_S.rf
  have hl := lv_entry ([.ref (E (10 + w))]) (n := 1) (Nat.le_of_ble_eq_true rfl)
  rw [lg_entry_eq]
  generalize (lg_sl ([.ref (E (10 + w))]) ++ List.replicate (1 - (lg_sl ([.ref (E (10 + w))])).length) Slot.unset).toArray = ls at hl ⊢
  have hl : lv_has ls 1 [(0, .ref (E (10 + w)))] := hl
  obtain ⟨Q, hQ⟩ := nm_ex (MQ below (QZ D C [] [] s.heap.size 1) (List.toArray [Value.ref (E (10 + w))]) s 0 0 A)
  show W p l e (headSpec wsJ0_isLatin1_aae02 rmJ0_isLatin1_aae02).room s m (List.toArray [Value.ref (E (10 + w))]) below meth c s.heap [] 0 0 (MQ below (QZ D C [] [] s.heap.size 1) (List.toArray [Value.ref (E (10 + w))]) s 0 0 A) _
  rw [← hQ]
  have main : ∀ (H : Heap) (locs : List Loc), va_P D vwCl [] H → va_D A [] → va_S A s.heap H locs → W p l e (headSpec wsJ0_isLatin1_aae02 rmJ0_isLatin1_aae02).room s m (List.toArray [Value.ref (E (10 + w))]) below meth c H locs 0 0 Q (F0 m 0 ls []) := by
    intro H locs hP hD hS
    refine va_gets hx hb hE.2.2.2.2.1 hS hown (hts (.fieldLink RJ0 38 "java/lang/String" "COMPACT_STRINGS" "Z") (List.mem_of_getElem? (i := 1) rfl)) (fun _ h9 => h9) dJ0_isLatin1_aae02_0 ?_
    refine lv_if_eq (tgt := 17) hx hb dJ0_isLatin1_aae02_3 (by decide) (fun q => absurd q (by decide)) (fun _ => ?_)
    refine lv_aload_n hx hb dJ0_isLatin1_aae02_6 rfl (lv_at hl 0 rfl) ?_
    refine vk_getf hx hb (hE.2.2.2.1.1 w hw).2.1 hS hown (hts (.fieldLink RJ0 15 "java/lang/String" "coder" "B") (List.mem_of_getElem? (i := 2) rfl)) (fun _ h9 => h9) dJ0_isLatin1_aae02_7 ?_
    refine lv_if_ne (tgt := 17) hx hb dJ0_isLatin1_aae02_10 (by decide) (fun q => absurd rfl q) (fun _ => ?_)
    refine lv_iconst (v := 1) hx hb dJ0_isLatin1_aae02_13 rfl ?_
    refine lv_goto (tgt := 18) hx hb dJ0_isLatin1_aae02_14 (by decide) ?_
    exact krz hQ hAe hx hb hr hlocks zb_1 hP hD hK hS dJ0_isLatin1_aae02_18
  exact main _ _ hP hD hS
def rmJ0_length_8abf5 : Room := { frames := 1, cells := 0, slots := 0, locals := 30 }
theorem hdJ0_length_8abf5 : yJ0_length_8abf5.cls = RJ0 ∧ yJ0_length_8abf5.cls ≠ "java/lang/invoke/MethodHandle" ∧ yJ0_length_8abf5.cls ≠ "java/lang/invoke/VarHandle" ∧ (parseMethodDescriptor yJ0_length_8abf5.desc).map (fun d => d.parameters.length) = some 0 := by decide +kernel
set_option maxHeartbeats 4000000 in
set_option maxRecDepth 100000 in
theorem c_J0_length_8abf5 (l : Launch) (E : Nat → Nat) (D : va_G) (C : Nat → ClassId) (sz : Nat) (w : Nat) (hw : w < 14)  : Met l yJ0_length_8abf5 wsJ0_length_8abf5 rmJ0_length_8abf5 (PC E D C [.ref (E (10 + w))] [] sz) (QI D C [] [] sz (stLen w)) 0 0 (va_A [] sz) := by
  refine va_MetF (cc := cJ0_length_8abf5) (maxL := 1) (ret := (some .int)) (by decide +kernel) rfl ?_
  intro p e s m args below meth c s₁ B hml hv
  obtain ⟨rfl, hsz, hP, hK, hD0, hE⟩ := hv
  have hx := B.exec
  have hb := B.bytes
  have hr := B.returns
  have hts := atoms_spec (ws := wsJ0_length_8abf5) B.pre
  have hown : s.vm.findClass RJ0 = some m.cls := findClass_of_methodNamed B.named
  have hlocks := B.notSynchronized
  subst hsz
  have hD := hD0.self (sz := s.heap.size)
  obtain ⟨A, hAe⟩ := nm_ex (va_A [] s.heap.size)
  rw [← hAe] at hD hE ⊢
  have hA : ∀ q : Nat, s.heap.size ≤ q → A q := fun q h => by rw [hAe]; exact Or.inr h
  have hS : va_S A s.heap s.heap [] := va_S.rf
  have hl := lv_entry ([.ref (E (10 + w))]) (n := 1) (Nat.le_of_ble_eq_true rfl)
  rw [lg_entry_eq]
  generalize (lg_sl ([.ref (E (10 + w))]) ++ List.replicate (1 - (lg_sl ([.ref (E (10 + w))])).length) Slot.unset).toArray = ls at hl ⊢
  have hl : lv_has ls 1 [(0, .ref (E (10 + w)))] := hl
  obtain ⟨Q, hQ⟩ := nm_ex (MQ below (QI D C [] [] s.heap.size (stLen w)) (List.toArray [Value.ref (E (10 + w))]) s 0 0 A)
  show W p l e (headSpec wsJ0_length_8abf5 rmJ0_length_8abf5).room s m (List.toArray [Value.ref (E (10 + w))]) below meth c s.heap [] 0 0 (MQ below (QI D C [] [] s.heap.size (stLen w)) (List.toArray [Value.ref (E (10 + w))]) s 0 0 A) _
  rw [← hQ]
  have main : ∀ (H : Heap) (locs : List Loc), va_P D vwCl [] H → va_D A [] → va_S A s.heap H locs → W p l e (headSpec wsJ0_length_8abf5 rmJ0_length_8abf5).room s m (List.toArray [Value.ref (E (10 + w))]) below meth c H locs 0 0 Q (F0 m 0 ls []) := by
    intro H locs hP hD hS
    refine lv_aload_n hx hb dJ0_length_8abf5_0 rfl (lv_at hl 0 rfl) ?_
    refine vk_getf hx hb (hE.2.2.2.1.1 w hw).2.2.1 hS hown (hts (.fieldLink RJ0 9 "java/lang/String" "value" "[B") (List.mem_of_getElem? (i := 1) rfl)) (fun _ h9 => h9) dJ0_length_8abf5_1 ?_
    refine va_tlen hx hb (hE.2.2.2.1.1 w hw).2.2.2 hS rfl dJ0_length_8abf5_4 ?_
    refine lv_aload_n hx hb dJ0_length_8abf5_5 rfl (lv_at hl 0 rfl) ?_
    refine kci (Wx := []) (va_runV (As := []) (rest := [.int (Int32.ofNat (stL.getD w 0))]) ⟨hx, hb, hml, hown, hts⟩ (c_J0_coder_7d493 l E D C H.size w hw) (cwV 0 hts gJ0_length_8abf5_J0_coder_7d493 rfl rfl rfl hdJ0_coder_7d493 ⟨Nat.le_of_ble_eq_true rfl, Nat.le_of_ble_eq_true rfl⟩) (kpreS hP hD hK hS hE hA hw) rfl rfl hl.1 rfl (lv_room (Nat.le_of_ble_eq_true rfl)) dJ0_length_8abf5_6 ⟨Nat.zero_le _, Nat.zero_le _⟩) hP hD hS hA [] rfl rfl rfl (fun H locs hP hD hS => ?_)
    refine lv_ishr hx hb dJ0_length_8abf5_9 ?_
    refine lv_ren (x := stLen w) (sc_shr0 (stL_lt w)).symm ?_
    exact kri hQ hAe hx hb hr hlocks hP hD hK hS dJ0_length_8abf5_10
  exact main _ _ hP hD hS
def rmJ0_charAt_5068e : Room := { frames := 3, cells := 0, slots := 0, locals := 80 }
theorem hdJ0_charAt_5068e : yJ0_charAt_5068e.cls = RJ0 ∧ yJ0_charAt_5068e.cls ≠ "java/lang/invoke/MethodHandle" ∧ yJ0_charAt_5068e.cls ≠ "java/lang/invoke/VarHandle" ∧ (parseMethodDescriptor yJ0_charAt_5068e.desc).map (fun d => d.parameters.length) = some 1 := by decide +kernel
set_option maxHeartbeats 4000000 in
set_option maxRecDepth 100000 in
theorem c_J0_charAt_5068e (l : Launch) (E : Nat → Nat) (D : va_G) (C : Nat → ClassId) (sz : Nat) (w : Nat) (hw : w < 14) (j : Int32) (hj : vp_in j (stL.getD w 0)) : Met l yJ0_charAt_5068e wsJ0_charAt_5068e rmJ0_charAt_5068e (PC E D C [.ref (E (10 + w)), .int j] [] sz) (QI D C [] [] sz (stCh w j.toNatClampNeg)) 0 0 (va_A [] sz) := by
  refine va_MetF (cc := cJ0_charAt_5068e) (maxL := 2) (ret := (some .char)) (by decide +kernel) rfl ?_
  intro p e s m args below meth c s₁ B hml hv
  obtain ⟨rfl, hsz, hP, hK, hD0, hE⟩ := hv
  have hx := B.exec
  have hb := B.bytes
  have hr := B.returns
  have hts := atoms_spec (ws := wsJ0_charAt_5068e) B.pre
  have hown : s.vm.findClass RJ0 = some m.cls := findClass_of_methodNamed B.named
  have hlocks := B.notSynchronized
  subst hsz
  have hD := hD0.self (sz := s.heap.size)
  obtain ⟨A, hAe⟩ := nm_ex (va_A [] s.heap.size)
  rw [← hAe] at hD hE ⊢
  have hA : ∀ q : Nat, s.heap.size ≤ q → A q := fun q h => by rw [hAe]; exact Or.inr h
  have hS : va_S A s.heap s.heap [] := va_S.rf
  have hl := lv_entry ([.ref (E (10 + w)), .int j]) (n := 2) (Nat.le_of_ble_eq_true rfl)
  rw [lg_entry_eq]
  generalize (lg_sl ([.ref (E (10 + w)), .int j]) ++ List.replicate (2 - (lg_sl ([.ref (E (10 + w)), .int j])).length) Slot.unset).toArray = ls at hl ⊢
  have hl : lv_has ls 2 [(0, .ref (E (10 + w))), (1, .int j)] := hl
  obtain ⟨Q, hQ⟩ := nm_ex (MQ below (QI D C [] [] s.heap.size (stCh w j.toNatClampNeg)) (List.toArray [Value.ref (E (10 + w)), Value.int j]) s 0 0 A)
  show W p l e (headSpec wsJ0_charAt_5068e rmJ0_charAt_5068e).room s m (List.toArray [Value.ref (E (10 + w)), Value.int j]) below meth c s.heap [] 0 0 (MQ below (QI D C [] [] s.heap.size (stCh w j.toNatClampNeg)) (List.toArray [Value.ref (E (10 + w)), Value.int j]) s 0 0 A) _
  rw [← hQ]
  have main : ∀ (H : Heap) (locs : List Loc), va_P D vwCl [] H → va_D A [] → va_S A s.heap H locs → W p l e (headSpec wsJ0_charAt_5068e rmJ0_charAt_5068e).room s m (List.toArray [Value.ref (E (10 + w)), Value.int j]) below meth c H locs 0 0 Q (F0 m 0 ls []) := by
    intro H locs hP hD hS
    refine lv_aload_n hx hb dJ0_charAt_5068e_0 rfl (lv_at hl 0 rfl) ?_
    refine kcz (Wx := []) (va_runV (As := []) (rest := []) ⟨hx, hb, hml, hown, hts⟩ (c_J0_isLatin1_aae02 l E D C H.size w hw) (cwV 0 hts gJ0_charAt_5068e_J0_isLatin1_aae02 rfl rfl rfl hdJ0_isLatin1_aae02 ⟨Nat.le_of_ble_eq_true rfl, Nat.le_of_ble_eq_true rfl⟩) (kpreS hP hD hK hS hE hA hw) rfl rfl hl.1 rfl (lv_room (Nat.le_of_ble_eq_true rfl)) dJ0_charAt_5068e_1 ⟨Nat.zero_le _, Nat.zero_le _⟩) hP hD hS hA [] rfl rfl rfl (fun H locs _ hP hD hS => ?_)
    refine lv_if_eq (tgt := 16) hx hb dJ0_charAt_5068e_4 (by decide) (fun q => absurd q (by decide)) (fun _ => ?_)
    refine lv_aload_n hx hb dJ0_charAt_5068e_7 rfl (lv_at hl 0 rfl) ?_
    refine vk_getf hx hb (hE.2.2.2.1.1 w hw).2.2.1 hS hown (hts (.fieldLink RJ0 9 "java/lang/String" "value" "[B") (List.mem_of_getElem? (i := 1) rfl)) (fun _ h9 => h9) dJ0_charAt_5068e_8 ?_
    refine lv_iload_n hx hb dJ0_charAt_5068e_11 rfl (lv_at hl 1 rfl) ?_
    refine kci (Wx := []) (va_runS (As := [.ref (E (30 + w)), .int j]) (rest := []) ⟨hx, hb, hml, hown, hts⟩ (c_J1_charAt_3b067 l E D C H.size w hw j hj) (va_cwS 2 hts gJ0_charAt_5068e_J1_charAt_3b067 rfl rfl rfl hdJ1_charAt_3b067 ⟨Nat.le_of_ble_eq_true rfl, Nat.le_of_ble_eq_true rfl⟩) (kpre hP hD hK hS hE hA [] rfl rfl) rfl rfl hl.1 rfl (lv_room (Nat.le_of_ble_eq_true rfl)) dJ0_charAt_5068e_12 ⟨Nat.zero_le _, Nat.zero_le _⟩) hP hD hS hA [] rfl rfl rfl (fun H locs hP hD hS => ?_)
    exact krt hQ hAe hx hb hr (sc_nar _) hlocks hP hD hK hS dJ0_charAt_5068e_15
  exact main _ _ hP hD hS
