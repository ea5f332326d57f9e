/-! THE CLAIM OUT OF ONE WALK OF THE LAW'S BODY. Your part is whole_start (and what it stands on); all else here is the same for every law, but numbers. -/
def R_law : String := "TravelMarksLaw"
def lw_P (b : Addr) (xs : List Int32) (args : Array Value) (s : State) : Prop := args = #[.ref b] ∧ s.IntsAt b xs ∧ xs.length ≤ 2560 ∧ (Jvm.Cond.and given_1 narrow_1).before args s = true
def lw_Q (_ : Array Value) (s : State) (o : Outcome) (t : State) : Prop := o = .returned (some (.int 1)) ∧ Framed s o t [] 600000 7302250
def lw_Z (below : List Frame) (a : Array Value) (s : State) : State → Prop := fun t => ∃ o, t.status = .running ∧ Ended t below o ∧ lw_Q a s o t
/-- the law's own end, with 1 on the stack, nothing written that was there before, its room as the claim has it -/
theorem lw_ret {p : Program} {l : Launch} {e : Env} {s : State} {m : MethodId} {below : List Frame} {meth : Method} {c : Code} {b : Nat} (hx : p.tables.exec = Jvm.exec) (hb : c.code = code) (hr : meth.sig.returnType = ret) (hlocks : meth.locks = false) {pc : Nat} {H : Heap} {ls : Array Slot} (hdg : decode code pc = .ok (.ireturn, 1)) : W p l e room_1 s m #[Value.ref b] below meth c H [] 600000 7302250 (lw_Z below #[Value.ref b] s) (F0 m pc ls [.int 1]) := by
  intro T hT X
  obtain ⟨fs, hret, hrun, hended, hW, hframe⟩ := X.leave (v := some (.int 1)) (hlocks := hlocks) (fun h => by rw [hr] at h; cases h)
  have hmeth' : T.vm.method? m = some meth := X.method'
  refine ⟨T.setFrames fs, ?_, .returned (some (.int 1)), hrun, hended, rfl, ⟨_, rfl⟩, hW, hframe⟩
  jvm_step X.here [X.here.top, hx, hb, hdg, hmeth', hr, ret, narrow_b1]
  (try refine ⟨rfl, ?_⟩); (try refine ⟨rfl, ?_⟩)
  first | (intro acts; rw [hret _ acts rfl rfl rfl]) | rw [hret _ _ rfl rfl rfl]
  exact Steps.refl _
/-- what holds at the law's entry: the machine, the code, the tables' words (any of lw_tbl by 'hts w (by decide +kernel)'), the script of L ints xs at the cell b, what the Statement gives of the start (any of its parts by flat_of_before) -/
def lw_At (p : Program) (s : State) (m : MethodId) (meth : Method) (c : Code) (b L : Nat) (xs : Nat → Int32) : Prop :=
  p.tables.exec = Jvm.exec ∧ c.code = code ∧ meth.sig.returnType = ret ∧ c.maxLocals = 4 ∧ s.vm.findClass R_law = some m.cls ∧ (∀ w ∈ lw_tbl, w.before #[Value.ref b] s = true) ∧ va_X b L xs s s.heap ∧ b < s.heap.size ∧ meth.locks = false ∧ (Jvm.Cond.and given_1 narrow_1).before #[Value.ref b] s = true
/-! LAW 2: one call, the loop -/
theorem RA_up {t : Nat} {X : XS} {M : MS} (h : RA t X M) : RA (t + 1) X M := by
  obtain ⟨a1, ⟨a2, a3⟩, a4, a5, a6, a7, a8⟩ := h
  exact ⟨RPm a1 (RAs t), ⟨a2, fun z => RPm (a3 z) (RAs t)⟩, a4, a5, a6, a7, a8⟩
theorem swo_0_42 {x : Int32} (h0 : ¬ x = 0) (h1 : ¬ x = 1) (h2 : ¬ x = 2) (h3 : ¬ x = 3) (h4 : ¬ x = 4) (h5 : ¬ x = 5) (h6 : ¬ x = 6) (h7 : ¬ x = 7) (h8 : ¬ x = 8) (h9 : ¬ x = 9) (h10 : ¬ x = 10) (h11 : ¬ x = 11) (h12 : ¬ x = 12) (h13 : ¬ x = 13) (h14 : ¬ x = 14) (h15 : ¬ x = 15) (h16 : ¬ x = 16) (h17 : ¬ x = 17) (h18 : ¬ x = 18) (h19 : ¬ x = 19) (h20 : ¬ x = 20) (h21 : ¬ x = 21) (h22 : ¬ x = 22) (h23 : ¬ x = 23) (h24 : ¬ x = 24) (h25 : ¬ x = 25) (h26 : ¬ x = 26) (h27 : ¬ x = 27) (h28 : ¬ x = 28) (h29 : ¬ x = 29) (h30 : ¬ x = 30) (h31 : ¬ x = 31) (h32 : ¬ x = 32) (h33 : ¬ x = 33) (h34 : ¬ x = 34) (h35 : ¬ x = 35) (h36 : ¬ x = 36) (h37 : ¬ x = 37) (h38 : ¬ x = 38) (h39 : ¬ x = 39) (h40 : ¬ x = 40) (h41 : ¬ x = 41) (h42 : ¬ x = 42) : x.toInt < 0 ∨ 42 < x.toInt := by
  by_cases a : x.toInt < 0
  · exact Or.inl a
  refine Or.inr ?_
  have b0 : (0 : Int) ≤ x.toInt := Int.not_lt.mp a
  have b1 : (1 : Int) ≤ x.toInt := stepI b0 (fun q => h0 (Int32.toInt_inj.mp q)) rfl
  have b2 : (2 : Int) ≤ x.toInt := stepI b1 (fun q => h1 (Int32.toInt_inj.mp q)) rfl
  have b3 : (3 : Int) ≤ x.toInt := stepI b2 (fun q => h2 (Int32.toInt_inj.mp q)) rfl
  have b4 : (4 : Int) ≤ x.toInt := stepI b3 (fun q => h3 (Int32.toInt_inj.mp q)) rfl
  have b5 : (5 : Int) ≤ x.toInt := stepI b4 (fun q => h4 (Int32.toInt_inj.mp q)) rfl
  have b6 : (6 : Int) ≤ x.toInt := stepI b5 (fun q => h5 (Int32.toInt_inj.mp q)) rfl
  have b7 : (7 : Int) ≤ x.toInt := stepI b6 (fun q => h6 (Int32.toInt_inj.mp q)) rfl
  have b8 : (8 : Int) ≤ x.toInt := stepI b7 (fun q => h7 (Int32.toInt_inj.mp q)) rfl
  have b9 : (9 : Int) ≤ x.toInt := stepI b8 (fun q => h8 (Int32.toInt_inj.mp q)) rfl
  have b10 : (10 : Int) ≤ x.toInt := stepI b9 (fun q => h9 (Int32.toInt_inj.mp q)) rfl
  have b11 : (11 : Int) ≤ x.toInt := stepI b10 (fun q => h10 (Int32.toInt_inj.mp q)) rfl
  have b12 : (12 : Int) ≤ x.toInt := stepI b11 (fun q => h11 (Int32.toInt_inj.mp q)) rfl
  have b13 : (13 : Int) ≤ x.toInt := stepI b12 (fun q => h12 (Int32.toInt_inj.mp q)) rfl
  have b14 : (14 : Int) ≤ x.toInt := stepI b13 (fun q => h13 (Int32.toInt_inj.mp q)) rfl
  have b15 : (15 : Int) ≤ x.toInt := stepI b14 (fun q => h14 (Int32.toInt_inj.mp q)) rfl
  have b16 : (16 : Int) ≤ x.toInt := stepI b15 (fun q => h15 (Int32.toInt_inj.mp q)) rfl
  have b17 : (17 : Int) ≤ x.toInt := stepI b16 (fun q => h16 (Int32.toInt_inj.mp q)) rfl
  have b18 : (18 : Int) ≤ x.toInt := stepI b17 (fun q => h17 (Int32.toInt_inj.mp q)) rfl
  have b19 : (19 : Int) ≤ x.toInt := stepI b18 (fun q => h18 (Int32.toInt_inj.mp q)) rfl
  have b20 : (20 : Int) ≤ x.toInt := stepI b19 (fun q => h19 (Int32.toInt_inj.mp q)) rfl
  have b21 : (21 : Int) ≤ x.toInt := stepI b20 (fun q => h20 (Int32.toInt_inj.mp q)) rfl
  have b22 : (22 : Int) ≤ x.toInt := stepI b21 (fun q => h21 (Int32.toInt_inj.mp q)) rfl
  have b23 : (23 : Int) ≤ x.toInt := stepI b22 (fun q => h22 (Int32.toInt_inj.mp q)) rfl
  have b24 : (24 : Int) ≤ x.toInt := stepI b23 (fun q => h23 (Int32.toInt_inj.mp q)) rfl
  have b25 : (25 : Int) ≤ x.toInt := stepI b24 (fun q => h24 (Int32.toInt_inj.mp q)) rfl
  have b26 : (26 : Int) ≤ x.toInt := stepI b25 (fun q => h25 (Int32.toInt_inj.mp q)) rfl
  have b27 : (27 : Int) ≤ x.toInt := stepI b26 (fun q => h26 (Int32.toInt_inj.mp q)) rfl
  have b28 : (28 : Int) ≤ x.toInt := stepI b27 (fun q => h27 (Int32.toInt_inj.mp q)) rfl
  have b29 : (29 : Int) ≤ x.toInt := stepI b28 (fun q => h28 (Int32.toInt_inj.mp q)) rfl
  have b30 : (30 : Int) ≤ x.toInt := stepI b29 (fun q => h29 (Int32.toInt_inj.mp q)) rfl
  have b31 : (31 : Int) ≤ x.toInt := stepI b30 (fun q => h30 (Int32.toInt_inj.mp q)) rfl
  have b32 : (32 : Int) ≤ x.toInt := stepI b31 (fun q => h31 (Int32.toInt_inj.mp q)) rfl
  have b33 : (33 : Int) ≤ x.toInt := stepI b32 (fun q => h32 (Int32.toInt_inj.mp q)) rfl
  have b34 : (34 : Int) ≤ x.toInt := stepI b33 (fun q => h33 (Int32.toInt_inj.mp q)) rfl
  have b35 : (35 : Int) ≤ x.toInt := stepI b34 (fun q => h34 (Int32.toInt_inj.mp q)) rfl
  have b36 : (36 : Int) ≤ x.toInt := stepI b35 (fun q => h35 (Int32.toInt_inj.mp q)) rfl
  have b37 : (37 : Int) ≤ x.toInt := stepI b36 (fun q => h36 (Int32.toInt_inj.mp q)) rfl
  have b38 : (38 : Int) ≤ x.toInt := stepI b37 (fun q => h37 (Int32.toInt_inj.mp q)) rfl
  have b39 : (39 : Int) ≤ x.toInt := stepI b38 (fun q => h38 (Int32.toInt_inj.mp q)) rfl
  have b40 : (40 : Int) ≤ x.toInt := stepI b39 (fun q => h39 (Int32.toInt_inj.mp q)) rfl
  have b41 : (41 : Int) ≤ x.toInt := stepI b40 (fun q => h40 (Int32.toInt_inj.mp q)) rfl
  have b42 : (42 : Int) ≤ x.toInt := stepI b41 (fun q => h41 (Int32.toInt_inj.mp q)) rfl
  have b43 : (43 : Int) ≤ x.toInt := stepI b42 (fun q => h42 (Int32.toInt_inj.mp q)) rfl
  exact b43
set_option maxHeartbeats 40000000 in
set_option maxRecDepth 100000 in
theorem law_step {p : Program} {l : Launch} {e : Env} {s : State} {m : MethodId} {below : List Frame} {meth : Method} {c : Code} {E : Nat → Nat} {D : va_G} {C : Nat → ClassId} {q : Nat → Nat} {b L : Nat} {xs : Nat → Int32} {Q : State → Prop} {H : Heap} {locs : List Loc} {ls : Array Slot} (hx : p.tables.exec = Jvm.exec) (hb : c.code = code) (hml : c.maxLocals = 4) (hown : s.vm.findClass RL = some m.cls) (hts : ∀ w ∈ wsL_law, w.before #[Value.ref b] s = true) (hX : va_X b L xs s s.heap) (hbl : b < s.heap.size) (hbA : ¬ (fun z : Nat => s.heap.size ≤ z) b) (hE : SE E (fun z : Nat => s.heap.size ≤ z) s s.heap) (hK : va_K D vwCl (tyL C) s) (hL : L ≤ 2560) {i N t : Nat} (hi : i + 4 < L) (hN : 500 ≤ N) (ht : t < 512) {X : XS} {M : MS} (hR : RA t X M) (hP : va_P D vwCl (oLW C q X M) H) (hD : va_D (fun z : Nat => s.heap.size ≤ z) (oLW C q X M)) (hS : va_S (fun z : Nat => s.heap.size ≤ z) s.heap H locs) (hl : lv_has ls 4 [(0, .ref b), (1, .ref (q 0)), (2, .ref (q 48)), (3, .int (nI i))]) (kk : ∀ (X' : XS) (M' : MS) (H : Heap) (locs : List Loc), RA (t + 1) X' M' → va_P D vwCl (oLW C q X' M') H → va_D (fun z : Nat => s.heap.size ≤ z) (oLW C q X' M') → va_S (fun z : Nat => s.heap.size ≤ z) s.heap H locs → W p l e room_1 s m #[Value.ref b] below meth c H locs 64 1333 Q (F0 m 1641 ls [])) : W p l e room_1 s m #[Value.ref b] below meth c H locs 64 1333 Q (F0 m 26 ls []) := by
  refine lv_aload_n hx hb dL_law_26 rfl (lv_at hl 0 rfl) ?_
  refine lv_iload_n hx hb dL_law_27 rfl (lv_at hl 3 rfl) ?_
  refine va_sld hx hb hX hbl hbA hS (vp_in_nI (show i < L by omega) (by omega)) dL_law_28 ?_
  refine lv_ren (x := xs i) (by rw [nI_clamp (show i < 2 ^ 31 by omega)]) ?_
  refine lv_bipush (v := 63) hx hb dL_law_29 rfl ?_
  refine lv_iand hx hb dL_law_31 ?_
  obtain ⟨w, ew⟩ := nm_ex (xs i &&& 63)
  refine lv_ren ew ?_
  obtain ⟨now, kept, trial, calm, tape, deed, sheets, shelves, rows, rowCount, anyKept⟩ := X
  obtain ⟨m_s, m_held, m_aside, m_before, m_isHeld, m_tape, m_taped, m_token, m_from, m_to, m_value, m_isWrong, m_due, m_firsts, m_rows, m_rowN, m_sortOf, m_sizeOf, m_numbers, m_holdsWhat, m_holdsWhich, m_holdsMany, m_bodies, m_ran, m_actKind, m_actN, m_actA, m_isParted⟩ := M
  by_cases c0 : w = 0
  · refine lv_tableIn (x := w) (tgt := 220) (off := 188) hx hb dL_law_32 (by rw [c0]; decide) (by rw [c0]; decide) (by rw [c0]; try rfl) (by decide) ?_
    obtain ⟨r, tape', m_tape', m_taped', h1, h2, hR2⟩ := R_0 hN ht (((Int32.toInt64 (xs (i + 1))) <<< (Int32.toInt64 32 &&& 63)) ||| ((Int32.toInt64 (xs (i + 2))) &&& 4294967295)) (xs (i + 3)) hR
    exact lwc_0 hx hb hml hown hts hX hbl hbA hE hK hL i hi N now kept trial calm tape deed sheets shelves rows rowCount anyKept m_s m_held m_aside m_before m_isHeld m_tape m_taped m_token m_from m_to m_value m_isWrong m_due m_firsts m_rows m_rowN m_sortOf m_sizeOf m_numbers m_holdsWhat m_holdsWhich m_holdsMany m_bodies m_ran m_actKind m_actN m_actA m_isParted r tape' m_tape' m_taped' h1 h2 hP hD hS hl (fun H locs p1 p2 p3 => kk _ _ H locs hR2 p1 p2 p3)
  by_cases c1 : w = 1
  · refine lv_tableIn (x := w) (tgt := 283) (off := 251) hx hb dL_law_32 (by rw [c1]; decide) (by rw [c1]; decide) (by rw [c1]; try rfl) (by decide) ?_
    obtain ⟨r, rowCount', now', trial', tape', m_s', m_before', m_taped', m_token', m_from', m_to', m_value', m_isWrong', m_rowN', h1, h2, hR2⟩ := R_1 hN ht  hR
    exact lwc_1 hx hb hml hown hts hX hbl hbA hE hK hL i hi N now kept trial calm tape deed sheets shelves rows rowCount anyKept m_s m_held m_aside m_before m_isHeld m_tape m_taped m_token m_from m_to m_value m_isWrong m_due m_firsts m_rows m_rowN m_sortOf m_sizeOf m_numbers m_holdsWhat m_holdsWhich m_holdsMany m_bodies m_ran m_actKind m_actN m_actA m_isParted r rowCount' now' trial' tape' m_s' m_before' m_taped' m_token' m_from' m_to' m_value' m_isWrong' m_rowN' h1 h2 hP hD hS hl (fun H locs p1 p2 p3 => kk _ _ H locs hR2 p1 p2 p3)
  by_cases c2 : w = 2
  · refine lv_tableIn (x := w) (tgt := 296) (off := 264) hx hb dL_law_32 (by rw [c2]; decide) (by rw [c2]; decide) (by rw [c2]; try rfl) (by decide) ?_
    obtain ⟨r, now', m_s', h1, h2, hR2⟩ := R_2 hN ht (xs (i + 1)) (xs (i + 2)) hR
    exact lwc_2 hx hb hml hown hts hX hbl hbA hE hK hL i hi N now kept trial calm tape deed sheets shelves rows rowCount anyKept m_s m_held m_aside m_before m_isHeld m_tape m_taped m_token m_from m_to m_value m_isWrong m_due m_firsts m_rows m_rowN m_sortOf m_sizeOf m_numbers m_holdsWhat m_holdsWhich m_holdsMany m_bodies m_ran m_actKind m_actN m_actA m_isParted r now' m_s' h1 h2 hP hD hS hl (fun H locs p1 p2 p3 => kk _ _ H locs hR2 p1 p2 p3)
  by_cases c3 : w = 3
  · refine lv_tableIn (x := w) (tgt := 329) (off := 297) hx hb dL_law_32 (by rw [c3]; decide) (by rw [c3]; decide) (by rw [c3]; try rfl) (by decide) ?_
    obtain ⟨r, h1, h2, hR2⟩ := R_3 hN ht (xs (i + 1)) hR
    exact lwc_3 hx hb hml hown hts hX hbl hbA hE hK hL i hi N now kept trial calm tape deed sheets shelves rows rowCount anyKept m_s m_held m_aside m_before m_isHeld m_tape m_taped m_token m_from m_to m_value m_isWrong m_due m_firsts m_rows m_rowN m_sortOf m_sizeOf m_numbers m_holdsWhat m_holdsWhich m_holdsMany m_bodies m_ran m_actKind m_actN m_actA m_isParted r  h1 h2 hP hD hS hl (fun H locs p1 p2 p3 => kk _ _ H locs hR2 p1 p2 p3)
  by_cases c4 : w = 4
  · refine lv_tableIn (x := w) (tgt := 352) (off := 320) hx hb dL_law_32 (by rw [c4]; decide) (by rw [c4]; decide) (by rw [c4]; try rfl) (by decide) ?_
    obtain ⟨r, now', m_s', h1, h2, hR2⟩ := R_4 hN ht (xs (i + 1)) (xs (i + 2)) (xs (i + 3)) hR
    exact lwc_4 hx hb hml hown hts hX hbl hbA hE hK hL i hi N now kept trial calm tape deed sheets shelves rows rowCount anyKept m_s m_held m_aside m_before m_isHeld m_tape m_taped m_token m_from m_to m_value m_isWrong m_due m_firsts m_rows m_rowN m_sortOf m_sizeOf m_numbers m_holdsWhat m_holdsWhich m_holdsMany m_bodies m_ran m_actKind m_actN m_actA m_isParted r now' m_s' h1 h2 hP hD hS hl (fun H locs p1 p2 p3 => kk _ _ H locs hR2 p1 p2 p3)
  by_cases c5 : w = 5
  · refine lv_tableIn (x := w) (tgt := 395) (off := 363) hx hb dL_law_32 (by rw [c5]; decide) (by rw [c5]; decide) (by rw [c5]; try rfl) (by decide) ?_
    obtain ⟨r, h1, h2, hR2⟩ := R_5 hN ht (xs (i + 1)) (xs (i + 2)) hR
    exact lwc_5 hx hb hml hown hts hX hbl hbA hE hK hL i hi N now kept trial calm tape deed sheets shelves rows rowCount anyKept m_s m_held m_aside m_before m_isHeld m_tape m_taped m_token m_from m_to m_value m_isWrong m_due m_firsts m_rows m_rowN m_sortOf m_sizeOf m_numbers m_holdsWhat m_holdsWhich m_holdsMany m_bodies m_ran m_actKind m_actN m_actA m_isParted r  h1 h2 hP hD hS hl (fun H locs p1 p2 p3 => kk _ _ H locs hR2 p1 p2 p3)
  by_cases c6 : w = 6
  · refine lv_tableIn (x := w) (tgt := 428) (off := 396) hx hb dL_law_32 (by rw [c6]; decide) (by rw [c6]; decide) (by rw [c6]; try rfl) (by decide) ?_
    obtain ⟨r, now', m_s', h1, h2, hR2⟩ := R_6 hN ht (xs (i + 1)) (xs (i + 2)) (xs (i + 3)) hR
    exact lwc_6 hx hb hml hown hts hX hbl hbA hE hK hL i hi N now kept trial calm tape deed sheets shelves rows rowCount anyKept m_s m_held m_aside m_before m_isHeld m_tape m_taped m_token m_from m_to m_value m_isWrong m_due m_firsts m_rows m_rowN m_sortOf m_sizeOf m_numbers m_holdsWhat m_holdsWhich m_holdsMany m_bodies m_ran m_actKind m_actN m_actA m_isParted r now' m_s' h1 h2 hP hD hS hl (fun H locs p1 p2 p3 => kk _ _ H locs hR2 p1 p2 p3)
  by_cases c7 : w = 7
  · refine lv_tableIn (x := w) (tgt := 471) (off := 439) hx hb dL_law_32 (by rw [c7]; decide) (by rw [c7]; decide) (by rw [c7]; try rfl) (by decide) ?_
    obtain ⟨r, now', m_s', h1, h2, hR2⟩ := R_7 hN ht (xs (i + 1)) (xs (i + 2)) hR
    exact lwc_7 hx hb hml hown hts hX hbl hbA hE hK hL i hi N now kept trial calm tape deed sheets shelves rows rowCount anyKept m_s m_held m_aside m_before m_isHeld m_tape m_taped m_token m_from m_to m_value m_isWrong m_due m_firsts m_rows m_rowN m_sortOf m_sizeOf m_numbers m_holdsWhat m_holdsWhich m_holdsMany m_bodies m_ran m_actKind m_actN m_actA m_isParted r now' m_s' h1 h2 hP hD hS hl (fun H locs p1 p2 p3 => kk _ _ H locs hR2 p1 p2 p3)
  by_cases c8 : w = 8
  · refine lv_tableIn (x := w) (tgt := 504) (off := 472) hx hb dL_law_32 (by rw [c8]; decide) (by rw [c8]; decide) (by rw [c8]; try rfl) (by decide) ?_
    obtain ⟨r, now', m_s', h1, h2, hR2⟩ := R_8 hN ht (xs (i + 1)) (xs (i + 2)) (xs (i + 3)) hR
    exact lwc_8 hx hb hml hown hts hX hbl hbA hE hK hL i hi N now kept trial calm tape deed sheets shelves rows rowCount anyKept m_s m_held m_aside m_before m_isHeld m_tape m_taped m_token m_from m_to m_value m_isWrong m_due m_firsts m_rows m_rowN m_sortOf m_sizeOf m_numbers m_holdsWhat m_holdsWhich m_holdsMany m_bodies m_ran m_actKind m_actN m_actA m_isParted r now' m_s' h1 h2 hP hD hS hl (fun H locs p1 p2 p3 => kk _ _ H locs hR2 p1 p2 p3)
  by_cases c9 : w = 9
  · refine lv_tableIn (x := w) (tgt := 547) (off := 515) hx hb dL_law_32 (by rw [c9]; decide) (by rw [c9]; decide) (by rw [c9]; try rfl) (by decide) ?_
    obtain ⟨r, now', m_s', h1, h2, hR2⟩ := R_9 hN ht (xs (i + 1)) hR
    exact lwc_9 hx hb hml hown hts hX hbl hbA hE hK hL i hi N now kept trial calm tape deed sheets shelves rows rowCount anyKept m_s m_held m_aside m_before m_isHeld m_tape m_taped m_token m_from m_to m_value m_isWrong m_due m_firsts m_rows m_rowN m_sortOf m_sizeOf m_numbers m_holdsWhat m_holdsWhich m_holdsMany m_bodies m_ran m_actKind m_actN m_actA m_isParted r now' m_s' h1 h2 hP hD hS hl (fun H locs p1 p2 p3 => kk _ _ H locs hR2 p1 p2 p3)
  by_cases c10 : w = 10
  · refine lv_tableIn (x := w) (tgt := 570) (off := 538) hx hb dL_law_32 (by rw [c10]; decide) (by rw [c10]; decide) (by rw [c10]; try rfl) (by decide) ?_
    obtain ⟨r, h1, h2, hR2⟩ := R_10 hN ht (xs (i + 1)) (xs (i + 2)) hR
    exact lwc_10 hx hb hml hown hts hX hbl hbA hE hK hL i hi N now kept trial calm tape deed sheets shelves rows rowCount anyKept m_s m_held m_aside m_before m_isHeld m_tape m_taped m_token m_from m_to m_value m_isWrong m_due m_firsts m_rows m_rowN m_sortOf m_sizeOf m_numbers m_holdsWhat m_holdsWhich m_holdsMany m_bodies m_ran m_actKind m_actN m_actA m_isParted r  h1 h2 hP hD hS hl (fun H locs p1 p2 p3 => kk _ _ H locs hR2 p1 p2 p3)
  by_cases c11 : w = 11
  · refine lv_tableIn (x := w) (tgt := 603) (off := 571) hx hb dL_law_32 (by rw [c11]; decide) (by rw [c11]; decide) (by rw [c11]; try rfl) (by decide) ?_
    obtain ⟨r, h1, h2, hR2⟩ := R_11 hN ht (xs (i + 1)) (xs (i + 2)) hR
    exact lwc_11 hx hb hml hown hts hX hbl hbA hE hK hL i hi N now kept trial calm tape deed sheets shelves rows rowCount anyKept m_s m_held m_aside m_before m_isHeld m_tape m_taped m_token m_from m_to m_value m_isWrong m_due m_firsts m_rows m_rowN m_sortOf m_sizeOf m_numbers m_holdsWhat m_holdsWhich m_holdsMany m_bodies m_ran m_actKind m_actN m_actA m_isParted r  h1 h2 hP hD hS hl (fun H locs p1 p2 p3 => kk _ _ H locs hR2 p1 p2 p3)
  by_cases c12 : w = 12
  · refine lv_tableIn (x := w) (tgt := 636) (off := 604) hx hb dL_law_32 (by rw [c12]; decide) (by rw [c12]; decide) (by rw [c12]; try rfl) (by decide) ?_
    obtain ⟨r, now', m_s', h1, h2, hR2⟩ := R_12 hN ht (xs (i + 1)) hR
    exact lwc_12 hx hb hml hown hts hX hbl hbA hE hK hL i hi N now kept trial calm tape deed sheets shelves rows rowCount anyKept m_s m_held m_aside m_before m_isHeld m_tape m_taped m_token m_from m_to m_value m_isWrong m_due m_firsts m_rows m_rowN m_sortOf m_sizeOf m_numbers m_holdsWhat m_holdsWhich m_holdsMany m_bodies m_ran m_actKind m_actN m_actA m_isParted r now' m_s' h1 h2 hP hD hS hl (fun H locs p1 p2 p3 => kk _ _ H locs hR2 p1 p2 p3)
  by_cases c13 : w = 13
  · refine lv_tableIn (x := w) (tgt := 659) (off := 627) hx hb dL_law_32 (by rw [c13]; decide) (by rw [c13]; decide) (by rw [c13]; try rfl) (by decide) ?_
    obtain ⟨r, now', m_s', h1, h2, hR2⟩ := R_13 hN ht (xs (i + 1)) hR
    exact lwc_13 hx hb hml hown hts hX hbl hbA hE hK hL i hi N now kept trial calm tape deed sheets shelves rows rowCount anyKept m_s m_held m_aside m_before m_isHeld m_tape m_taped m_token m_from m_to m_value m_isWrong m_due m_firsts m_rows m_rowN m_sortOf m_sizeOf m_numbers m_holdsWhat m_holdsWhich m_holdsMany m_bodies m_ran m_actKind m_actN m_actA m_isParted r now' m_s' h1 h2 hP hD hS hl (fun H locs p1 p2 p3 => kk _ _ H locs hR2 p1 p2 p3)
  by_cases c14 : w = 14
  · refine lv_tableIn (x := w) (tgt := 682) (off := 650) hx hb dL_law_32 (by rw [c14]; decide) (by rw [c14]; decide) (by rw [c14]; try rfl) (by decide) ?_
    obtain ⟨r, now', m_s', h1, h2, hR2⟩ := R_14 hN ht  hR
    exact lwc_14 hx hb hml hown hts hX hbl hbA hE hK hL i hi N now kept trial calm tape deed sheets shelves rows rowCount anyKept m_s m_held m_aside m_before m_isHeld m_tape m_taped m_token m_from m_to m_value m_isWrong m_due m_firsts m_rows m_rowN m_sortOf m_sizeOf m_numbers m_holdsWhat m_holdsWhich m_holdsMany m_bodies m_ran m_actKind m_actN m_actA m_isParted r now' m_s' h1 h2 hP hD hS hl (fun H locs p1 p2 p3 => kk _ _ H locs hR2 p1 p2 p3)
  by_cases c15 : w = 15
  · refine lv_tableIn (x := w) (tgt := 695) (off := 663) hx hb dL_law_32 (by rw [c15]; decide) (by rw [c15]; decide) (by rw [c15]; try rfl) (by decide) ?_
    obtain ⟨r, trial', calm', m_s', m_aside', m_due', h1, h2, hR2⟩ := R_15 hN ht (xs (i + 1)) hR
    exact lwc_15 hx hb hml hown hts hX hbl hbA hE hK hL i hi N now kept trial calm tape deed sheets shelves rows rowCount anyKept m_s m_held m_aside m_before m_isHeld m_tape m_taped m_token m_from m_to m_value m_isWrong m_due m_firsts m_rows m_rowN m_sortOf m_sizeOf m_numbers m_holdsWhat m_holdsWhich m_holdsMany m_bodies m_ran m_actKind m_actN m_actA m_isParted r trial' calm' m_s' m_aside' m_due' h1 h2 hP hD hS hl (fun H locs p1 p2 p3 => kk _ _ H locs hR2 p1 p2 p3)
  by_cases c16 : w = 16
  · refine lv_tableIn (x := w) (tgt := 718) (off := 686) hx hb dL_law_32 (by rw [c16]; decide) (by rw [c16]; decide) (by rw [c16]; try rfl) (by decide) ?_
    obtain ⟨r, h1, h2, hR2⟩ := R_16 hN ht (xs (i + 1)) hR
    exact lwc_16 hx hb hml hown hts hX hbl hbA hE hK hL i hi N now kept trial calm tape deed sheets shelves rows rowCount anyKept m_s m_held m_aside m_before m_isHeld m_tape m_taped m_token m_from m_to m_value m_isWrong m_due m_firsts m_rows m_rowN m_sortOf m_sizeOf m_numbers m_holdsWhat m_holdsWhich m_holdsMany m_bodies m_ran m_actKind m_actN m_actA m_isParted r  h1 h2 hP hD hS hl (fun H locs p1 p2 p3 => kk _ _ H locs hR2 p1 p2 p3)
  by_cases c17 : w = 17
  · refine lv_tableIn (x := w) (tgt := 741) (off := 709) hx hb dL_law_32 (by rw [c17]; decide) (by rw [c17]; decide) (by rw [c17]; try rfl) (by decide) ?_
    obtain ⟨r, trial', m_s', m_aside', h1, h2, hR2⟩ := R_17 hN ht (xs (i + 1)) (xs (i + 2)) hR
    exact lwc_17 hx hb hml hown hts hX hbl hbA hE hK hL i hi N now kept trial calm tape deed sheets shelves rows rowCount anyKept m_s m_held m_aside m_before m_isHeld m_tape m_taped m_token m_from m_to m_value m_isWrong m_due m_firsts m_rows m_rowN m_sortOf m_sizeOf m_numbers m_holdsWhat m_holdsWhich m_holdsMany m_bodies m_ran m_actKind m_actN m_actA m_isParted r trial' m_s' m_aside' h1 h2 hP hD hS hl (fun H locs p1 p2 p3 => kk _ _ H locs hR2 p1 p2 p3)
  by_cases c18 : w = 18
  · refine lv_tableIn (x := w) (tgt := 774) (off := 742) hx hb dL_law_32 (by rw [c18]; decide) (by rw [c18]; decide) (by rw [c18]; try rfl) (by decide) ?_
    obtain ⟨r, trial', m_s', m_aside', h1, h2, hR2⟩ := R_18 hN ht (xs (i + 1)) (xs (i + 2)) hR
    exact lwc_18 hx hb hml hown hts hX hbl hbA hE hK hL i hi N now kept trial calm tape deed sheets shelves rows rowCount anyKept m_s m_held m_aside m_before m_isHeld m_tape m_taped m_token m_from m_to m_value m_isWrong m_due m_firsts m_rows m_rowN m_sortOf m_sizeOf m_numbers m_holdsWhat m_holdsWhich m_holdsMany m_bodies m_ran m_actKind m_actN m_actA m_isParted r trial' m_s' m_aside' h1 h2 hP hD hS hl (fun H locs p1 p2 p3 => kk _ _ H locs hR2 p1 p2 p3)
  by_cases c19 : w = 19
  · refine lv_tableIn (x := w) (tgt := 807) (off := 775) hx hb dL_law_32 (by rw [c19]; decide) (by rw [c19]; decide) (by rw [c19]; try rfl) (by decide) ?_
    obtain ⟨r, trial', m_s', m_aside', h1, h2, hR2⟩ := R_19 hN ht (xs (i + 1)) hR
    exact lwc_19 hx hb hml hown hts hX hbl hbA hE hK hL i hi N now kept trial calm tape deed sheets shelves rows rowCount anyKept m_s m_held m_aside m_before m_isHeld m_tape m_taped m_token m_from m_to m_value m_isWrong m_due m_firsts m_rows m_rowN m_sortOf m_sizeOf m_numbers m_holdsWhat m_holdsWhich m_holdsMany m_bodies m_ran m_actKind m_actN m_actA m_isParted r trial' m_s' m_aside' h1 h2 hP hD hS hl (fun H locs p1 p2 p3 => kk _ _ H locs hR2 p1 p2 p3)
  by_cases c20 : w = 20
  · refine lv_tableIn (x := w) (tgt := 830) (off := 798) hx hb dL_law_32 (by rw [c20]; decide) (by rw [c20]; decide) (by rw [c20]; try rfl) (by decide) ?_
    obtain ⟨r, trial', m_s', m_aside', h1, h2, hR2⟩ := R_20 hN ht  hR
    exact lwc_20 hx hb hml hown hts hX hbl hbA hE hK hL i hi N now kept trial calm tape deed sheets shelves rows rowCount anyKept m_s m_held m_aside m_before m_isHeld m_tape m_taped m_token m_from m_to m_value m_isWrong m_due m_firsts m_rows m_rowN m_sortOf m_sizeOf m_numbers m_holdsWhat m_holdsWhich m_holdsMany m_bodies m_ran m_actKind m_actN m_actA m_isParted r trial' m_s' m_aside' h1 h2 hP hD hS hl (fun H locs p1 p2 p3 => kk _ _ H locs hR2 p1 p2 p3)
  by_cases c21 : w = 21
  · refine lv_tableIn (x := w) (tgt := 843) (off := 811) hx hb dL_law_32 (by rw [c21]; decide) (by rw [c21]; decide) (by rw [c21]; try rfl) (by decide) ?_
    obtain ⟨r, trial', m_s', m_aside', h1, h2, hR2⟩ := R_21 hN ht (xs (i + 1)) (xs (i + 2)) (xs (i + 3)) hR
    exact lwc_21 hx hb hml hown hts hX hbl hbA hE hK hL i hi N now kept trial calm tape deed sheets shelves rows rowCount anyKept m_s m_held m_aside m_before m_isHeld m_tape m_taped m_token m_from m_to m_value m_isWrong m_due m_firsts m_rows m_rowN m_sortOf m_sizeOf m_numbers m_holdsWhat m_holdsWhich m_holdsMany m_bodies m_ran m_actKind m_actN m_actA m_isParted r trial' m_s' m_aside' h1 h2 hP hD hS hl (fun H locs p1 p2 p3 => kk _ _ H locs hR2 p1 p2 p3)
  by_cases c22 : w = 22
  · refine lv_tableIn (x := w) (tgt := 886) (off := 854) hx hb dL_law_32 (by rw [c22]; decide) (by rw [c22]; decide) (by rw [c22]; try rfl) (by decide) ?_
    obtain ⟨r, trial', m_s', m_aside', h1, h2, hR2⟩ := R_22 hN ht (xs (i + 1)) (xs (i + 2)) (xs (i + 3)) hR
    exact lwc_22 hx hb hml hown hts hX hbl hbA hE hK hL i hi N now kept trial calm tape deed sheets shelves rows rowCount anyKept m_s m_held m_aside m_before m_isHeld m_tape m_taped m_token m_from m_to m_value m_isWrong m_due m_firsts m_rows m_rowN m_sortOf m_sizeOf m_numbers m_holdsWhat m_holdsWhich m_holdsMany m_bodies m_ran m_actKind m_actN m_actA m_isParted r trial' m_s' m_aside' h1 h2 hP hD hS hl (fun H locs p1 p2 p3 => kk _ _ H locs hR2 p1 p2 p3)
  by_cases c23 : w = 23
  · refine lv_tableIn (x := w) (tgt := 929) (off := 897) hx hb dL_law_32 (by rw [c23]; decide) (by rw [c23]; decide) (by rw [c23]; try rfl) (by decide) ?_
    obtain ⟨r, trial', m_s', m_aside', h1, h2, hR2⟩ := R_23 hN ht (xs (i + 1)) (xs (i + 2)) (xs (i + 3)) hR
    exact lwc_23 hx hb hml hown hts hX hbl hbA hE hK hL i hi N now kept trial calm tape deed sheets shelves rows rowCount anyKept m_s m_held m_aside m_before m_isHeld m_tape m_taped m_token m_from m_to m_value m_isWrong m_due m_firsts m_rows m_rowN m_sortOf m_sizeOf m_numbers m_holdsWhat m_holdsWhich m_holdsMany m_bodies m_ran m_actKind m_actN m_actA m_isParted r trial' m_s' m_aside' h1 h2 hP hD hS hl (fun H locs p1 p2 p3 => kk _ _ H locs hR2 p1 p2 p3)
  by_cases c24 : w = 24
  · refine lv_tableIn (x := w) (tgt := 972) (off := 940) hx hb dL_law_32 (by rw [c24]; decide) (by rw [c24]; decide) (by rw [c24]; try rfl) (by decide) ?_
    obtain ⟨r, trial', m_s', m_aside', m_firsts', h1, h2, hR2⟩ := R_24 hN ht (xs (i + 1)) (xs (i + 2)) (xs (i + 3)) hR
    exact lwc_24 hx hb hml hown hts hX hbl hbA hE hK hL i hi N now kept trial calm tape deed sheets shelves rows rowCount anyKept m_s m_held m_aside m_before m_isHeld m_tape m_taped m_token m_from m_to m_value m_isWrong m_due m_firsts m_rows m_rowN m_sortOf m_sizeOf m_numbers m_holdsWhat m_holdsWhich m_holdsMany m_bodies m_ran m_actKind m_actN m_actA m_isParted r trial' m_s' m_aside' m_firsts' h1 h2 hP hD hS hl (fun H locs p1 p2 p3 => kk _ _ H locs hR2 p1 p2 p3)
  by_cases c25 : w = 25
  · refine lv_tableIn (x := w) (tgt := 1015) (off := 983) hx hb dL_law_32 (by rw [c25]; decide) (by rw [c25]; decide) (by rw [c25]; try rfl) (by decide) ?_
    obtain ⟨r, trial', m_s', m_aside', h1, h2, hR2⟩ := R_25 hN ht (xs (i + 1)) (xs (i + 2)) (xs (i + 3)) hR
    exact lwc_25 hx hb hml hown hts hX hbl hbA hE hK hL i hi N now kept trial calm tape deed sheets shelves rows rowCount anyKept m_s m_held m_aside m_before m_isHeld m_tape m_taped m_token m_from m_to m_value m_isWrong m_due m_firsts m_rows m_rowN m_sortOf m_sizeOf m_numbers m_holdsWhat m_holdsWhich m_holdsMany m_bodies m_ran m_actKind m_actN m_actA m_isParted r trial' m_s' m_aside' h1 h2 hP hD hS hl (fun H locs p1 p2 p3 => kk _ _ H locs hR2 p1 p2 p3)
  by_cases c26 : w = 26
  · refine lv_tableIn (x := w) (tgt := 1058) (off := 1026) hx hb dL_law_32 (by rw [c26]; decide) (by rw [c26]; decide) (by rw [c26]; try rfl) (by decide) ?_
    obtain ⟨r, h1, h2, hR2⟩ := R_26 hN ht (xs (i + 1)) (xs (i + 2)) (xs (i + 3)) hR
    exact lwc_26 hx hb hml hown hts hX hbl hbA hE hK hL i hi N now kept trial calm tape deed sheets shelves rows rowCount anyKept m_s m_held m_aside m_before m_isHeld m_tape m_taped m_token m_from m_to m_value m_isWrong m_due m_firsts m_rows m_rowN m_sortOf m_sizeOf m_numbers m_holdsWhat m_holdsWhich m_holdsMany m_bodies m_ran m_actKind m_actN m_actA m_isParted r  h1 h2 hP hD hS hl (fun H locs p1 p2 p3 => kk _ _ H locs hR2 p1 p2 p3)
  by_cases c27 : w = 27
  · refine lv_tableIn (x := w) (tgt := 1102) (off := 1070) hx hb dL_law_32 (by rw [c27]; decide) (by rw [c27]; decide) (by rw [c27]; try rfl) (by decide) ?_
    obtain ⟨r, h1, h2, hR2⟩ := R_27 hN ht (xs (i + 1)) (xs (i + 2)) hR
    exact lwc_27 hx hb hml hown hts hX hbl hbA hE hK hL i hi N now kept trial calm tape deed sheets shelves rows rowCount anyKept m_s m_held m_aside m_before m_isHeld m_tape m_taped m_token m_from m_to m_value m_isWrong m_due m_firsts m_rows m_rowN m_sortOf m_sizeOf m_numbers m_holdsWhat m_holdsWhich m_holdsMany m_bodies m_ran m_actKind m_actN m_actA m_isParted r  h1 h2 hP hD hS hl (fun H locs p1 p2 p3 => kk _ _ H locs hR2 p1 p2 p3)
  by_cases c28 : w = 28
  · refine lv_tableIn (x := w) (tgt := 1136) (off := 1104) hx hb dL_law_32 (by rw [c28]; decide) (by rw [c28]; decide) (by rw [c28]; try rfl) (by decide) ?_
    obtain ⟨r, rowCount', trial', rows', m_s', m_aside', m_rows', m_rowN', h1, h2, hR2⟩ := R_28 hN ht (xs (i + 1)) (xs (i + 2)) hR
    exact lwc_28 hx hb hml hown hts hX hbl hbA hE hK hL i hi N now kept trial calm tape deed sheets shelves rows rowCount anyKept m_s m_held m_aside m_before m_isHeld m_tape m_taped m_token m_from m_to m_value m_isWrong m_due m_firsts m_rows m_rowN m_sortOf m_sizeOf m_numbers m_holdsWhat m_holdsWhich m_holdsMany m_bodies m_ran m_actKind m_actN m_actA m_isParted r rowCount' trial' rows' m_s' m_aside' m_rows' m_rowN' h1 h2 hP hD hS hl (fun H locs p1 p2 p3 => kk _ _ H locs hR2 p1 p2 p3)
  by_cases c29 : w = 29
  · refine lv_tableIn (x := w) (tgt := 1169) (off := 1137) hx hb dL_law_32 (by rw [c29]; decide) (by rw [c29]; decide) (by rw [c29]; try rfl) (by decide) ?_
    obtain ⟨r, h1, h2, hR2⟩ := R_29 hN ht (xs (i + 1)) (xs (i + 2)) hR
    exact lwc_29 hx hb hml hown hts hX hbl hbA hE hK hL i hi N now kept trial calm tape deed sheets shelves rows rowCount anyKept m_s m_held m_aside m_before m_isHeld m_tape m_taped m_token m_from m_to m_value m_isWrong m_due m_firsts m_rows m_rowN m_sortOf m_sizeOf m_numbers m_holdsWhat m_holdsWhich m_holdsMany m_bodies m_ran m_actKind m_actN m_actA m_isParted r  h1 h2 hP hD hS hl (fun H locs p1 p2 p3 => kk _ _ H locs hR2 p1 p2 p3)
  by_cases c30 : w = 30
  · refine lv_tableIn (x := w) (tgt := 1202) (off := 1170) hx hb dL_law_32 (by rw [c30]; decide) (by rw [c30]; decide) (by rw [c30]; try rfl) (by decide) ?_
    obtain ⟨r, rows', m_rows', h1, h2, hR2⟩ := R_30 hN ht (xs (i + 1)) (xs (i + 2)) (xs (i + 3)) hR
    exact lwc_30 hx hb hml hown hts hX hbl hbA hE hK hL i hi N now kept trial calm tape deed sheets shelves rows rowCount anyKept m_s m_held m_aside m_before m_isHeld m_tape m_taped m_token m_from m_to m_value m_isWrong m_due m_firsts m_rows m_rowN m_sortOf m_sizeOf m_numbers m_holdsWhat m_holdsWhich m_holdsMany m_bodies m_ran m_actKind m_actN m_actA m_isParted r rows' m_rows' h1 h2 hP hD hS hl (fun H locs p1 p2 p3 => kk _ _ H locs hR2 p1 p2 p3)
  by_cases c31 : w = 31
  · refine lv_tableIn (x := w) (tgt := 1245) (off := 1213) hx hb dL_law_32 (by rw [c31]; decide) (by rw [c31]; decide) (by rw [c31]; try rfl) (by decide) ?_
    obtain ⟨r, trial', m_s', m_aside', h1, h2, hR2⟩ := R_31 hN ht (xs (i + 1)) hR
    exact lwc_31 hx hb hml hown hts hX hbl hbA hE hK hL i hi N now kept trial calm tape deed sheets shelves rows rowCount anyKept m_s m_held m_aside m_before m_isHeld m_tape m_taped m_token m_from m_to m_value m_isWrong m_due m_firsts m_rows m_rowN m_sortOf m_sizeOf m_numbers m_holdsWhat m_holdsWhich m_holdsMany m_bodies m_ran m_actKind m_actN m_actA m_isParted r trial' m_s' m_aside' h1 h2 hP hD hS hl (fun H locs p1 p2 p3 => kk _ _ H locs hR2 p1 p2 p3)
  by_cases c32 : w = 32
  · refine lv_tableIn (x := w) (tgt := 1268) (off := 1236) hx hb dL_law_32 (by rw [c32]; decide) (by rw [c32]; decide) (by rw [c32]; try rfl) (by decide) ?_
    obtain ⟨r, now', m_s', h1, h2, hR2⟩ := R_32 hN ht (xs (i + 1)) (xs (i + 2)) (xs (i + 3)) (xs (i + 4)) hR
    exact lwc_32 hx hb hml hown hts hX hbl hbA hE hK hL i hi N now kept trial calm tape deed sheets shelves rows rowCount anyKept m_s m_held m_aside m_before m_isHeld m_tape m_taped m_token m_from m_to m_value m_isWrong m_due m_firsts m_rows m_rowN m_sortOf m_sizeOf m_numbers m_holdsWhat m_holdsWhich m_holdsMany m_bodies m_ran m_actKind m_actN m_actA m_isParted r now' m_s' h1 h2 hP hD hS hl (fun H locs p1 p2 p3 => kk _ _ H locs hR2 p1 p2 p3)
  by_cases c33 : w = 33
  · refine lv_tableIn (x := w) (tgt := 1321) (off := 1289) hx hb dL_law_32 (by rw [c33]; decide) (by rw [c33]; decide) (by rw [c33]; try rfl) (by decide) ?_
    obtain ⟨r, sheets', m_sortOf', m_sizeOf', m_numbers', h1, h2, hR2⟩ := R_33 hN ht (xs (i + 1)) (xs (i + 2)) (xs (i + 3)) hR
    exact lwc_33 hx hb hml hown hts hX hbl hbA hE hK hL i hi N now kept trial calm tape deed sheets shelves rows rowCount anyKept m_s m_held m_aside m_before m_isHeld m_tape m_taped m_token m_from m_to m_value m_isWrong m_due m_firsts m_rows m_rowN m_sortOf m_sizeOf m_numbers m_holdsWhat m_holdsWhich m_holdsMany m_bodies m_ran m_actKind m_actN m_actA m_isParted r sheets' m_sortOf' m_sizeOf' m_numbers' h1 h2 hP hD hS hl (fun H locs p1 p2 p3 => kk _ _ H locs hR2 p1 p2 p3)
  by_cases c34 : w = 34
  · refine lv_tableIn (x := w) (tgt := 1364) (off := 1332) hx hb dL_law_32 (by rw [c34]; decide) (by rw [c34]; decide) (by rw [c34]; try rfl) (by decide) ?_
    obtain ⟨r, sheets', m_numbers', h1, h2, hR2⟩ := R_34 hN ht (xs (i + 1)) (xs (i + 2)) (xs (i + 3)) hR
    exact lwc_34 hx hb hml hown hts hX hbl hbA hE hK hL i hi N now kept trial calm tape deed sheets shelves rows rowCount anyKept m_s m_held m_aside m_before m_isHeld m_tape m_taped m_token m_from m_to m_value m_isWrong m_due m_firsts m_rows m_rowN m_sortOf m_sizeOf m_numbers m_holdsWhat m_holdsWhich m_holdsMany m_bodies m_ran m_actKind m_actN m_actA m_isParted r sheets' m_numbers' h1 h2 hP hD hS hl (fun H locs p1 p2 p3 => kk _ _ H locs hR2 p1 p2 p3)
  by_cases c35 : w = 35
  · refine lv_tableIn (x := w) (tgt := 1407) (off := 1375) hx hb dL_law_32 (by rw [c35]; decide) (by rw [c35]; decide) (by rw [c35]; try rfl) (by decide) ?_
    obtain ⟨r, h1, h2, hR2⟩ := R_35 hN ht (xs (i + 1)) (xs (i + 2)) (xs (i + 3)) hR
    exact lwc_35 hx hb hml hown hts hX hbl hbA hE hK hL i hi N now kept trial calm tape deed sheets shelves rows rowCount anyKept m_s m_held m_aside m_before m_isHeld m_tape m_taped m_token m_from m_to m_value m_isWrong m_due m_firsts m_rows m_rowN m_sortOf m_sizeOf m_numbers m_holdsWhat m_holdsWhich m_holdsMany m_bodies m_ran m_actKind m_actN m_actA m_isParted r  h1 h2 hP hD hS hl (fun H locs p1 p2 p3 => kk _ _ H locs hR2 p1 p2 p3)
  by_cases c36 : w = 36
  · refine lv_tableIn (x := w) (tgt := 1450) (off := 1418) hx hb dL_law_32 (by rw [c36]; decide) (by rw [c36]; decide) (by rw [c36]; try rfl) (by decide) ?_
    obtain ⟨r, shelves', m_holdsWhat', m_holdsWhich', m_holdsMany', h1, h2, hR2⟩ := R_36 hN ht (xs (i + 1)) (xs (i + 2)) (xs (i + 3)) hR
    exact lwc_36 hx hb hml hown hts hX hbl hbA hE hK hL i hi N now kept trial calm tape deed sheets shelves rows rowCount anyKept m_s m_held m_aside m_before m_isHeld m_tape m_taped m_token m_from m_to m_value m_isWrong m_due m_firsts m_rows m_rowN m_sortOf m_sizeOf m_numbers m_holdsWhat m_holdsWhich m_holdsMany m_bodies m_ran m_actKind m_actN m_actA m_isParted r shelves' m_holdsWhat' m_holdsWhich' m_holdsMany' h1 h2 hP hD hS hl (fun H locs p1 p2 p3 => kk _ _ H locs hR2 p1 p2 p3)
  by_cases c37 : w = 37
  · refine lv_tableIn (x := w) (tgt := 1493) (off := 1461) hx hb dL_law_32 (by rw [c37]; decide) (by rw [c37]; decide) (by rw [c37]; try rfl) (by decide) ?_
    obtain ⟨r, h1, h2, hR2⟩ := R_37 hN ht (xs (i + 1)) (xs (i + 2)) hR
    exact lwc_37 hx hb hml hown hts hX hbl hbA hE hK hL i hi N now kept trial calm tape deed sheets shelves rows rowCount anyKept m_s m_held m_aside m_before m_isHeld m_tape m_taped m_token m_from m_to m_value m_isWrong m_due m_firsts m_rows m_rowN m_sortOf m_sizeOf m_numbers m_holdsWhat m_holdsWhich m_holdsMany m_bodies m_ran m_actKind m_actN m_actA m_isParted r  h1 h2 hP hD hS hl (fun H locs p1 p2 p3 => kk _ _ H locs hR2 p1 p2 p3)
  by_cases c38 : w = 38
  · refine lv_tableIn (x := w) (tgt := 1526) (off := 1494) hx hb dL_law_32 (by rw [c38]; decide) (by rw [c38]; decide) (by rw [c38]; try rfl) (by decide) ?_
    obtain ⟨r, deed', m_bodies', m_ran', m_actKind', m_actN', m_actA', m_isParted', h1, h2, hR2⟩ := R_38 hN ht (xs (i + 1)) (xs (i + 2)) (xs (i + 3)) hR
    exact lwc_38 hx hb hml hown hts hX hbl hbA hE hK hL i hi N now kept trial calm tape deed sheets shelves rows rowCount anyKept m_s m_held m_aside m_before m_isHeld m_tape m_taped m_token m_from m_to m_value m_isWrong m_due m_firsts m_rows m_rowN m_sortOf m_sizeOf m_numbers m_holdsWhat m_holdsWhich m_holdsMany m_bodies m_ran m_actKind m_actN m_actA m_isParted r deed' m_bodies' m_ran' m_actKind' m_actN' m_actA' m_isParted' h1 h2 hP hD hS hl (fun H locs p1 p2 p3 => kk _ _ H locs hR2 p1 p2 p3)
  by_cases c39 : w = 39
  · refine lv_tableIn (x := w) (tgt := 1569) (off := 1537) hx hb dL_law_32 (by rw [c39]; decide) (by rw [c39]; decide) (by rw [c39]; try rfl) (by decide) ?_
    obtain ⟨r, h1, h2, hR2⟩ := R_39 hN ht (xs (i + 1)) hR
    exact lwc_39 hx hb hml hown hts hX hbl hbA hE hK hL i hi N now kept trial calm tape deed sheets shelves rows rowCount anyKept m_s m_held m_aside m_before m_isHeld m_tape m_taped m_token m_from m_to m_value m_isWrong m_due m_firsts m_rows m_rowN m_sortOf m_sizeOf m_numbers m_holdsWhat m_holdsWhich m_holdsMany m_bodies m_ran m_actKind m_actN m_actA m_isParted r  h1 h2 hP hD hS hl (fun H locs p1 p2 p3 => kk _ _ H locs hR2 p1 p2 p3)
  by_cases c40 : w = 40
  · refine lv_tableIn (x := w) (tgt := 1592) (off := 1560) hx hb dL_law_32 (by rw [c40]; decide) (by rw [c40]; decide) (by rw [c40]; try rfl) (by decide) ?_
    obtain ⟨r, h1, h2, hR2⟩ := R_40 hN ht (xs (i + 1)) hR
    exact lwc_40 hx hb hml hown hts hX hbl hbA hE hK hL i hi N now kept trial calm tape deed sheets shelves rows rowCount anyKept m_s m_held m_aside m_before m_isHeld m_tape m_taped m_token m_from m_to m_value m_isWrong m_due m_firsts m_rows m_rowN m_sortOf m_sizeOf m_numbers m_holdsWhat m_holdsWhich m_holdsMany m_bodies m_ran m_actKind m_actN m_actA m_isParted r  h1 h2 hP hD hS hl (fun H locs p1 p2 p3 => kk _ _ H locs hR2 p1 p2 p3)
  by_cases c41 : w = 41
  · refine lv_tableIn (x := w) (tgt := 1615) (off := 1583) hx hb dL_law_32 (by rw [c41]; decide) (by rw [c41]; decide) (by rw [c41]; try rfl) (by decide) ?_
    obtain ⟨r, anyKept', kept', m_held', m_isHeld', h1, h2, hR2⟩ := R_41 hN ht  hR
    exact lwc_41 hx hb hml hown hts hX hbl hbA hE hK hL i hi N now kept trial calm tape deed sheets shelves rows rowCount anyKept m_s m_held m_aside m_before m_isHeld m_tape m_taped m_token m_from m_to m_value m_isWrong m_due m_firsts m_rows m_rowN m_sortOf m_sizeOf m_numbers m_holdsWhat m_holdsWhich m_holdsMany m_bodies m_ran m_actKind m_actN m_actA m_isParted r anyKept' kept' m_held' m_isHeld' h1 h2 hP hD hS hl (fun H locs p1 p2 p3 => kk _ _ H locs hR2 p1 p2 p3)
  by_cases c42 : w = 42
  · refine lv_tableIn (x := w) (tgt := 1628) (off := 1596) hx hb dL_law_32 (by rw [c42]; decide) (by rw [c42]; decide) (by rw [c42]; try rfl) (by decide) ?_
    obtain ⟨r, now', m_s', h1, h2, hR2⟩ := R_42 hN ht  hR
    exact lwc_42 hx hb hml hown hts hX hbl hbA hE hK hL i hi N now kept trial calm tape deed sheets shelves rows rowCount anyKept m_s m_held m_aside m_before m_isHeld m_tape m_taped m_token m_from m_to m_value m_isWrong m_due m_firsts m_rows m_rowN m_sortOf m_sizeOf m_numbers m_holdsWhat m_holdsWhich m_holdsMany m_bodies m_ran m_actKind m_actN m_actA m_isParted r now' m_s' h1 h2 hP hD hS hl (fun H locs p1 p2 p3 => kk _ _ H locs hR2 p1 p2 p3)
  refine lv_tableOut (x := w) (tgt := 1641) hx hb dL_law_32 (swo_0_42 c0 c1 c2 c3 c4 c5 c6 c7 c8 c9 c10 c11 c12 c13 c14 c15 c16 c17 c18 c19 c20 c21 c22 c23 c24 c25 c26 c27 c28 c29 c30 c31 c32 c33 c34 c35 c36 c37 c38 c39 c40 c41 c42) (by decide) ?_
  exact kk _ _ H locs (RA_up hR) hP hD hS
set_option maxHeartbeats 40000000 in
set_option maxRecDepth 100000 in
theorem law_loop {p : Program} {l : Launch} {e : Env} {s : State} {m : MethodId} {below : List Frame} {meth : Method} {c : Code} {E : Nat → Nat} {D : va_G} {C : Nat → ClassId} {q : Nat → Nat} {b L : Nat} {xs : Nat → Int32} (C0 : lw_At p s m meth c b L xs) (hx : p.tables.exec = Jvm.exec) (hb : c.code = code) (hml : c.maxLocals = 4) (hown : s.vm.findClass RL = some m.cls) (hts : ∀ w ∈ wsL_law, w.before #[Value.ref b] s = true) (hX : va_X b L xs s s.heap) (hbl : b < s.heap.size) (hbA : ¬ (fun z : Nat => s.heap.size ≤ z) b) (hE : SE E (fun z : Nat => s.heap.size ≤ z) s s.heap) (hK : va_K D vwCl (tyL C) s) (hL : L ≤ 2560) {N : Nat} (hN : 500 ≤ N) : ∀ (d t : Nat), t + d = 513 → t ≤ 512 → ∀ (X : XS) (M : MS) (H : Heap) (locs : List Loc) (ls : Array Slot), RA t X M → va_P D vwCl (oLW C q X M) H → va_D (fun z : Nat => s.heap.size ≤ z) (oLW C q X M) → va_S (fun z : Nat => s.heap.size ≤ z) s.heap H locs → lv_has ls 4 [(0, .ref b), (1, .ref (q 0)), (2, .ref (q 48)), (3, .int (nI (5 * t)))] → W p l e room_1 s m #[Value.ref b] below meth c H locs 64 1333 (lw_Z below #[Value.ref b] s) (F0 m 18 ls []) := by
  obtain ⟨-, -, hr, -, -, -, -, -, hlocks, -⟩ := C0
  intro d
  induction d with
  | zero =>
    intro t h1 h2
    exact absurd h1 (by omega)
  | succ d ih =>
    intro t h1 h2 X M H locs ls hR hP hD hS hl
    refine lv_iload_n hx hb dL_law_18 rfl (lv_at hl 3 rfl) ?_
    refine lv_aload_n hx hb dL_law_19 rfl (lv_at hl 0 rfl) ?_
    refine va_slen hx hb hX hbl hbA hS dL_law_20 ?_
    refine lv_iconst (v := 5) hx hb dL_law_21 rfl ?_
    refine lv_isub hx hb dL_law_22 ?_
    refine lv_icmp_gt (tgt := 1647) hx hb dL_law_23 (by decide) (fun c1 => ?_) (fun c1 => ?_)
    · refine lv_iconst (v := 1) hx hb dL_law_1647 rfl ?_
      refine va_forget (fun q hq => hS.2.2 q hq) ?_
      refine W.widen (k := 600000) (n := 7302250) (Nat.le_of_ble_eq_true rfl) (Nat.le_of_ble_eq_true rfl) ?_
      exact lw_ret hx hb hr hlocks dL_law_1648
    · have hi : 5 * t + 4 < L := by
        have e1 : (nI L - nI 5).toInt = (L : Int) - 5 := pk_sub_toInt (by omega) (by decide)
        have e2 : (nI (5 * t)).toInt = ((5 * t : Nat) : Int) := nI_toInt (by omega)
        have c2 : ¬ (nI L - nI 5).toInt < (nI (5 * t)).toInt := fun z => c1 (Int32.lt_iff_toInt_lt.mpr z)
        rw [e1, e2] at c2
        omega
      refine law_step hx hb hml hown hts hX hbl hbA hE hK hL hi hN (show t < 512 by omega) hR hP hD hS hl (fun X' M' H locs hR hP hD hS => ?_)
      refine lv_iinc (v := nI (5 * (t + 1))) (lv' := [(3, .int (nI (5 * (t + 1)))), (0, .ref b), (1, .ref (q 0)), (2, .ref (q 48))]) hx hb dL_law_1641 hl (k := 3) rfl (nI_add (5 * t) 5) (by decide) rfl (fun ls hl => ?_)
      refine lv_goto (tgt := 18) hx hb dL_law_1644 (by decide) ?_
      exact ih (t + 1) (by omega) (by omega) X' M' H locs ls hR hP hD hS (lv_sub hl [1, 2, 3, 0] rfl)
