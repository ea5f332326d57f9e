/-! PURE 32: the order touch, the laws, an order -/
def mt5 (s : Nat → Int32) (v4 v18 v34 : Int32) (v40 v41 v42 v43 v44 : Int32) : Option ((Nat → Int32) × Int32 × Int32 × Int32 × Int32 × Int32) := if v44 = 0 then lj (1 + v18) (fun (t47 : Int32) => ckA 43 (7 + v4) (lj (upd s (Int32.toNatClampNeg (7 + v4)) t47) (fun (v49 : Nat → Int32) => lj (1 + v34) (fun (t50 : Int32) => ckA 43 (13 + v4) (lj (upd v49 (Int32.toNatClampNeg (13 + v4)) t50) (fun (v52 : Nat → Int32) => some (v52, v40, v41, v42, v43, v44))))))) else some (s, v40, v41, v42, v43, v44)
theorem mt_e (N : Nat) (s tm : Nat → Int32) (l tok fr to val wr : Int32) : f_X6_touchHere N s tm l tok fr to val wr = ob4 (f_X6_nextToken N tm l tok fr to val) (fun (v1 : Int32) (v2 : Int32) (v3 : Int32) (v4 : Int32) => ob5 (f_X6_needs N tm l v1 v2 v3 v4 wr (f_X6_isNumber v1 v2 v3 v4 0 5)) (fun (v7 : Int32) (v8 : Int32) (v9 : Int32) (v10 : Int32) (v11 : Int32) => lj (fun (k13 : Int32) => ob5 (f_X6_needs N tm l v7 v8 v9 v10 v11 k13) (fun (v15 : Int32) (v16 : Int32) (v17 : Int32) (v18 : Int32) (v19 : Int32) => ob5 (f_X6_needs N tm l v15 v16 v17 v18 v19 (f_X6_isNumber v15 v16 v17 v18 0 7)) (fun (v22 : Int32) (v23 : Int32) (v24 : Int32) (v25 : Int32) (v26 : Int32) => ob1 (f_X6_isFour tm l v22 v23 v24 119 105 116 104) (fun (r28 : Int32) => ob5 (f_X6_needs N tm l v22 v23 v24 v25 v26 r28) (fun (v31 : Int32) (v32 : Int32) (v33 : Int32) (v34 : Int32) (v35 : Int32) => lj (fun (k38 : Int32) => ob5 (f_X6_needs N tm l v31 v32 v33 v34 v35 k38) (fun (v40 : Int32) (v41 : Int32) (v42 : Int32) (v43 : Int32) (v44 : Int32) => mt5 s v4 v18 v34 v40 v41 v42 v43 v44)) (fun j39 => lj (j39 0) (fun j53 => if (f_X6_isNumber v31 v32 v33 v34 0 7) = 0 then j53 else if v34 = v18 then j53 else j39 1))))))) (fun j14 => lj (j14 0) (fun j56 => if v7 = 3 then ob1 (f_X6_byteAt tm l v8) (fun (r58 : Int32) => if r58 = 58 then j14 1 else j56) else j56)))) := rfl
theorem lj_two {β : Type} (K : Int32) (c : Prop) [Decidable c] (F : Int32 → Option β) : lj F (fun j39 => lj (j39 0) (fun j53 => if K = 0 then j53 else if c then j53 else j39 1)) = F (if K = 0 then 0 else if c then 0 else 1) := by
  rw [lj_s, lj_s]
  by_cases h : K = 0
  · rw [if_pos h, if_pos h]
  · rw [if_neg h, if_neg h]
    by_cases g : c
    · rw [if_pos g, if_pos g]
    · rw [if_neg g, if_neg g]
def rt3 (N : Nat) (w0 : PV) (r3 r12 : Int32) (v17 : TV) : Option (Int32 × TV × PV) := lj (ob2 (f_X4_readNumber N v17 0 7) (fun (r22 : Int32) (v23 : TV) => if r22 < 0 then some (0, v23, w0) else ob2 (f_X4_readSign N v23 59) (fun (r26 : Int32) (v27 : TV) => if r26 = 0 then some (0, v27, w0) else ob1 (f_X1_join w0 r3 r12 r22) (fun (v31 : PV) => some (1, v27, v31))))) (fun j21 => if (tpToken v17) = 2 then if (tpValue v17) = r12 then some (0, v17, w0) else j21 else j21)
theorem rt_e (N : Nat) (v : TV) (w0 : PV) : f_X4_readTouch N v w0 = ob1 (f_X4_next N v) (fun (v1 : TV) => ob2 (f_X4_readNumber N v1 0 5) (fun (r3 : Int32) (v4 : TV) => if r3 < 0 then some (0, v4, w0) else ob2 (f_X4_readSign N v4 58) (fun (r7 : Int32) (v8 : TV) => if r7 = 0 then some (0, v8, w0) else ob2 (f_X4_readNumber N v8 0 7) (fun (r12 : Int32) (v13 : TV) => if r12 < 0 then some (0, v13, w0) else ob2 (f_X4_readWord N v13 9) (fun (r16 : Int32) (v17 : TV) => if r16 = 0 then some (0, v17, w0) else rt3 N w0 r3 r12 v17))))) := rfl
section ORDERS2
variable {b : Nat → Nat} {n p N : Nat} {tm : Nat → Int32} {l : Int32}
theorem O_touch {a : AP} {s : Nat → Int32} {w : PV} {v : TV} {tok fr to val wr : Int32} (hN : 500 ≤ N) (ht : TM b n tm l) (hv : CT b n p v) (hm : MZ b n true p tok fr to val wr) (hw : CV a w) (hs : CM a s) (wf : WF a) : SO b n p N a w (f_X4_readTouch N v w) (f_X6_touchHere N s tm l tok fr to val wr) := by
  have hbig : n < 2 ^ 31 := by have := ht.1; omega
  obtain ⟨b1, b2, b3⟩ := tE_b b hv.1
  obtain ⟨v1, ev1, c1⟩ := C_nextT hN hv
  obtain ⟨y1, e1, h1⟩ := M_next hN b2 ht tok fr val
  have toe : to = nI (tE b n p) := hm.2.2.2.1
  have m1 : MZ b n true (tE b n p) _ _ _ y1 wr := ⟨b2, rfl, rfl, rfl, h1, hm.2.2.2.2.2⟩
  obtain ⟨o2, p2, t2, f2, x2, y2, z2, e2, m2, g2, g2'⟩ := M_needs hN ht m1 (bI (nm b n (tE b n p) 0 5))
  obtain ⟨o3, p3, t3, f3, x3, y3, z3, e3, m3, g3, g3'⟩ := M_needs hN ht m2 (bI (sg b n p2 58))
  obtain ⟨o4, p4, t4, f4, x4, y4, z4, e4, m4, g4, g4'⟩ := M_needs hN ht m3 (bI (nm b n p3 0 7))
  obtain ⟨o5, p5, t5, f5, x5, y5, z5, e5, m5, g5, g5'⟩ := M_needs hN ht m4 (bI (wd b n p4 9))
  obtain ⟨o6, p6, t6, f6, x6, y6, z6, e6, m6, g6, g6'⟩ := M_needs hN ht m5 (if bI (nm b n p5 0 7) = 0 then 0 else if y5 = y3 then 0 else 1)
  have em : f_X6_touchHere N s tm l tok fr to val wr = mt5 s y1 y3 y5 t6 f6 x6 y6 z6 := by
    rw [mt_e, toe, e1, ob4_s, M_isNumber hbig m1 (by decide), e2, ob5_s, M_sign ht m2 58 (by decide) (c' := 58) rfl, e3, ob5_s, M_isNumber hbig m3 (by decide), e4, ob5_s, M_with ht m4, ob1_s, e5, ob5_s, lj_two, M_isNumber hbig m5 (by decide), e6, ob5_s]
  have bad : o6 = false → f_X6_touchHere N s tm l tok fr to val wr = some (s, t6, f6, x6, y6, z6) := by
    intro z
    subst z
    have ze : z6 = 1 := m6.2.2.2.2.2
    rw [em]
    unfold mt5
    rw [if_neg (by rw [ze]; exact n10)]
  cases q1 : nm b n (tE b n p) 0 5 with
  | false =>
    obtain ⟨h21, h22⟩ := g2' (Or.inr (by rw [q1]; rfl))
    obtain ⟨h31, h32⟩ := g3' (Or.inl h21)
    obtain ⟨h41, h42⟩ := g4' (Or.inl h31)
    obtain ⟨h51, h52⟩ := g5' (Or.inl h41)
    obtain ⟨h61, h62⟩ := g6' (Or.inl h51)
    have pe : p6 = tE b n p := h62.trans (h52.trans (h42.trans (h32.trans h22)))
    refine ⟨_, _, _, _, _, _, o6, p6, bad h61, m6, Or.inl ⟨h61, v1, ?_, by rw [pe]; exact c1⟩⟩
    rw [rt_e, ev1, ob1_s, (C_number hN c1 0 5).2 q1, ob2_s, if_pos (by decide)]
  | true =>
    obtain ⟨h21, h22⟩ := g2 rfl (by rw [q1]; exact n10)
    subst h21
    subst h22
    obtain ⟨r, -, r5, er⟩ := nm_n 0 5 rfl rfl (by decide) (by decide) q1
    have ey1 : y1 = nI r := (nm_3 m1 0 5 rfl rfl (by decide) (by decide) q1).trans er
    obtain ⟨v2, ev2, c2⟩ := (C_number hN c1 0 5).1 q1
    have cl2 : f_X4_readTouch N v w = ob2 (f_X4_readSign N v2 58) (fun (r7 : Int32) (v8 : TV) => if r7 = 0 then some (0, v8, w) else ob2 (f_X4_readNumber N v8 0 7) (fun (r12 : Int32) (v13 : TV) => if r12 < 0 then some (0, v13, w) else ob2 (f_X4_readWord N v13 9) (fun (r16 : Int32) (v17 : TV) => if r16 = 0 then some (0, v17, w) else rt3 N w (nI r) r12 v17))) := by
      rw [rt_e, ev1, ob1_s, ev2, er, ob2_s, if_neg (nI_pos (by omega))]
    cases q2 : sg b n (tE b n (tE b n p)) 58 with
    | false =>
      obtain ⟨h31, h32⟩ := g3' (Or.inr (by rw [q2]; rfl))
      obtain ⟨h41, h42⟩ := g4' (Or.inl h31)
      obtain ⟨h51, h52⟩ := g5' (Or.inl h41)
      obtain ⟨h61, h62⟩ := g6' (Or.inl h51)
      have pe : p6 = tE b n (tE b n p) := h62.trans (h52.trans (h42.trans h32))
      refine ⟨_, _, _, _, _, _, o6, p6, bad h61, m6, Or.inl ⟨h61, v2, ?_, by rw [pe]; exact c2⟩⟩
      rw [cl2, (C_sign hN c2 58 (by decide) (c' := 58) rfl).2 q2, ob2_s, if_pos rfl]
    | true =>
      obtain ⟨h31, h32⟩ := g3 rfl (by rw [q2]; exact n10)
      subst h31
      subst h32
      obtain ⟨v3, ev3, c3⟩ := (C_sign hN c2 58 (by decide) (c' := 58) rfl).1 q2
      cases q3 : nm b n (tE b n (tE b n (tE b n p))) 0 7 with
      | false =>
        obtain ⟨h41, h42⟩ := g4' (Or.inr (by rw [q3]; rfl))
        obtain ⟨h51, h52⟩ := g5' (Or.inl h41)
        obtain ⟨h61, h62⟩ := g6' (Or.inl h51)
        have pe : p6 = tE b n (tE b n (tE b n p)) := h62.trans (h52.trans h42)
        refine ⟨_, _, _, _, _, _, o6, p6, bad h61, m6, Or.inl ⟨h61, v3, ?_, by rw [pe]; exact c3⟩⟩
        rw [cl2, ev3, ob2_s, if_neg n10, (C_number hN c3 0 7).2 q3, ob2_s, if_pos (by decide)]
      | true =>
        obtain ⟨h41, h42⟩ := g4 rfl (by rw [q3]; exact n10)
        subst h41
        subst h42
        obtain ⟨x, -, x7, ex⟩ := nm_n 0 7 rfl rfl (by decide) (by decide) q3
        have ey3 : y3 = nI x := (nm_3 m3 0 7 rfl rfl (by decide) (by decide) q3).trans ex
        obtain ⟨v4, ev4, c4⟩ := (C_number hN c3 0 7).1 q3
        have cl4 : f_X4_readTouch N v w = ob2 (f_X4_readWord N v4 9) (fun (r16 : Int32) (v17 : TV) => if r16 = 0 then some (0, v17, w) else rt3 N w (nI r) (nI x) v17) := by
          rw [cl2, ev3, ob2_s, if_neg n10, ev4, ex, ob2_s, if_neg (nI_pos (by omega))]
        cases q4 : wd b n (tE b n (tE b n (tE b n (tE b n p)))) 9 with
        | false =>
          obtain ⟨h51, h52⟩ := g5' (Or.inr (by rw [q4]; rfl))
          obtain ⟨h61, h62⟩ := g6' (Or.inl h51)
          have pe : p6 = tE b n (tE b n (tE b n (tE b n p))) := h62.trans h52
          refine ⟨_, _, _, _, _, _, o6, p6, bad h61, m6, Or.inl ⟨h61, v4, ?_, by rw [pe]; exact c4⟩⟩
          rw [cl4, (C_word hN c4 (by decide)).2 q4, ob2_s, if_pos rfl]
        | true =>
          obtain ⟨h51, h52⟩ := g5 rfl (by rw [q4]; exact n10)
          subst h51
          subst h52
          obtain ⟨v5, ev5, c5⟩ := (C_word hN c4 (w := 9) (by decide)).1 q4
          have cl5 : f_X4_readTouch N v w = rt3 N w (nI r) (nI x) v5 := by rw [cl4, ev5, ob2_s, if_neg n10]
          have t5 : tpToken v5 = nI (tT b n (tE b n (tE b n (tE b n (tE b n (tE b n p)))))) := c5.2.2.1
          cases q5 : nm b n (tE b n (tE b n (tE b n (tE b n (tE b n p))))) 0 7 with
          | false =>
            obtain ⟨h61, h62⟩ := g6' (Or.inr (by rw [q5]; rfl))
            refine ⟨_, _, _, _, _, _, o6, p6, bad h61, m6, Or.inl ⟨h61, v5, ?_, by rw [h62]; exact c5⟩⟩
            rw [cl5]
            unfold rt3
            rw [lj_s, (C_number hN c5 0 7).2 q5, ob2_s, if_pos (show (-1 : Int32) < 0 by decide)]
            by_cases g : tpToken v5 = 2
            · rw [if_pos g]
              by_cases g9 : tpValue v5 = nI x
              · rw [if_pos g9]
              · rw [if_neg g9]
            · rw [if_neg g]
          | true =>
            obtain ⟨y, -, y7, ey⟩ := nm_n 0 7 rfl rfl (by decide) (by decide) q5
            have ey5 : y5 = nI y := (nm_3 m5 0 7 rfl rfl (by decide) (by decide) q5).trans ey
            have tk2 : tpToken v5 = 2 := by rw [t5, (nm_v q5).1]; rfl
            have vl : tpValue v5 = nI y := (c5.2.2.2.2.2 (nm_v q5).1).trans ey
            by_cases same : y = x
            · obtain ⟨h61, h62⟩ := g6' (Or.inr (by rw [q5, if_neg (show ¬ bI true = 0 from n10), if_pos (by rw [ey5, ey3, same])]))
              refine ⟨_, _, _, _, _, _, o6, p6, bad h61, m6, Or.inl ⟨h61, v5, ?_, by rw [h62]; exact c5⟩⟩
              rw [cl5]
              unfold rt3
              rw [lj_s, if_pos tk2, if_pos (by rw [vl, same])]
            · have nxy : ¬ nI y = nI x := eq_n (by omega) (by omega) same
              obtain ⟨h61, h62⟩ := g6 rfl (by rw [q5, if_neg (show ¬ bI true = 0 from n10), if_neg (by rw [ey5, ey3]; exact nxy)]; exact n10)
              subst h61
              obtain ⟨v6, ev6, c6⟩ := (C_number hN c5 0 7).1 q5
              obtain ⟨w', ej, cw, -⟩ := X1_join hw (r := r) (f := x + 1) (g := y + 1) (by omega) (nI_pred x).symm (nI_pred y).symm
              have ze : z6 = 0 := m6.2.2.2.2.2
              have em6 : f_X6_touchHere N s tm l tok fr to val wr = some (upd (upd s (7 + r) (nI (x + 1))) (13 + r) (nI (y + 1)), t6, f6, x6, y6, z6) := by
                rw [em]
                unfold mt5
                rw [if_pos ze, lj_s, ey1, show (7 : Int32) + nI r = nI (7 + r) from nI_add 7 r, show (13 : Int32) + nI r = nI (13 + r) from nI_add 13 r, ckA_nI (show 7 + r < 43 by omega) (by decide), lj_s, lj_s, ckA_nI (show 13 + r < 43 by omega) (by decide), lj_s, nI_clamp (by omega), nI_clamp (by omega), ey3, ey5, show (1 : Int32) + nI x = nI (x + 1) by rw [Int32.add_comm, nI_1], show (1 : Int32) + nI y = nI (y + 1) by rw [Int32.add_comm, nI_1]]
              have u1 := tE_up b hv.1
              have u2 := tE_up b m1.1
              have u3 := tE_up b m2.1
              have u4 := tE_up b m3.1
              have u5 := tE_up b m4.1
              have u6 := tE_up b m5.1
              refine ⟨_, _, _, _, _, _, true, p6, em6, m6, Or.inr ⟨rfl, by omega, v6, w', _, by rw [h62]; exact c6, cw, CM_join hs (by omega), WF_join wf (by omega), rfl, ?_⟩⟩
              rw [cl5]
              unfold rt3
              rw [lj_s, if_pos tk2, if_neg (by rw [vl]; exact nxy), ev6, ey, ob2_s, if_neg (nI_pos (by omega))]
              refine ob2_cg (fun q v2 => ?_)
              by_cases z : q = 0
              · rw [if_pos z, if_pos z]
              · rw [if_neg z, if_neg z, ej, ob1_s]
theorem O_law {a : AP} {s : Nat → Int32} {w : PV} {v : TV} {tok fr to val wr : Int32} {k : Nat} (hN : 500 ≤ N) (ht : TM b n tm l) (hv : CT b n p v) (hm : MZ b n true p tok fr to val wr) (hw : CV a w) (hs : CM a s) (wf : WF a) (hk : k < 4) : SO b n p N a w (f_X4_readLaw N v w (nI k)) (ob4 (f_X6_nextToken N tm l tok fr to val) (fun (v44 : Int32) (v45 : Int32) (v46 : Int32) (v47 : Int32) => f_X6_numberTo N s tm l v44 v45 v46 v47 wr (nI (3 + k)) (nI (lwMin k)) (nI (lwMax k)))) := by
  obtain ⟨b1, b2, b3⟩ := tE_b b hv.1
  obtain ⟨v1, ev1, c1⟩ := C_nextT hN hv
  obtain ⟨y1, e1, h1⟩ := M_next hN b2 ht tok fr val
  have toe : to = nI (tE b n p) := hm.2.2.2.1
  have m1 : MZ b n true (tE b n p) _ _ _ y1 wr := ⟨b2, rfl, rfl, rfl, h1, hm.2.2.2.2.2⟩
  have t1 : tbLeast k = nI (lwMin k) := by rcases four_c hk with rfl | rfl | rfl | rfl <;> rfl
  have t2 : tbMost k = nI (lwMax k) := by rcases four_c hk with rfl | rfl | rfl | rfl <;> rfl
  have t4 : lwMax k ≤ 99 ∧ lwMin k ≤ lwMax k := by rcases four_c hk with rfl | rfl | rfl | rfl <;> decide
  obtain ⟨s3, o3, p3, t3, f3, x3, y3, z3, e3, m3, g3, g3'⟩ := M_numTo hN ht m1 s (x0 := nI (3 + k)) (lo := nI (lwMin k)) (hi := nI (lwMax k)) (3 + k) (lwMin k) (lwMax k) rfl rfl rfl (by omega) (by omega) t4.2
  have cl1 : f_X4_readLaw N v w (nI k) = ob2 (f_X4_readNumber N v1 (nI (lwMin k)) (nI (lwMax k))) (fun (r7 : Int32) (v8 : TV) => if r7 < 0 then some (0, v8, w) else ob2 (f_X4_readSign N v8 59) (fun (r11 : Int32) (v12 : TV) => if r11 = 0 then some (0, v12, w) else ckA 4 (nI k) (lj (pSetLaws w (upd (pLaws w) (Int32.toNatClampNeg (nI k)) r7)) (fun (v17 : PV) => some (1, v12, v17))))) := by
    unfold f_X4_readLaw
    rw [ev1, ob1_s, rdA_nI hk (by decide), rdA_nI hk (by decide), t1, t2]
  have em : ob4 (f_X6_nextToken N tm l tok fr to val) (fun (v44 : Int32) (v45 : Int32) (v46 : Int32) (v47 : Int32) => f_X6_numberTo N s tm l v44 v45 v46 v47 wr (nI (3 + k)) (nI (lwMin k)) (nI (lwMax k))) = some (s3, t3, f3, x3, y3, z3) := by
    rw [toe, e1, ob4_s, e3]
  cases q : nm b n (tE b n p) (nI (lwMin k)) (nI (lwMax k)) with
  | false =>
    obtain ⟨h31, h32, -⟩ := g3' (Or.inr q)
    refine ⟨_, _, _, _, _, _, o3, p3, em, m3, Or.inl ⟨h31, v1, ?_, by rw [h32]; exact c1⟩⟩
    rw [cl1, (C_number hN c1 _ _).2 q, ob2_s, if_pos (by decide)]
  | true =>
    obtain ⟨h31, h32, hs3⟩ := g3 rfl q
    obtain ⟨x, x1, x2, ex⟩ := nm_n (lwMin k) (lwMax k) rfl rfl (by omega) t4.2 q
    obtain ⟨v2, ev2, c2⟩ := (C_number hN c1 _ _).1 q
    have u1 := tE_up b hv.1
    have u2 := tE_up b b2
    have cm3 : CM (aSLaw a k x) s3 := by
      rw [hs3, ex]
      exact CM_law hs hk x
    refine ⟨_, _, _, _, _, _, o3, p3, em, m3, Or.inr ⟨h31, by omega, v2, pSetLaws w (upd (pLaws w) k (nI x)), aSLaw a k x, by rw [h32]; exact c2, CV_law hw k x, cm3, WF_law wf hk x1 x2, rfl, ?_⟩⟩
    rw [cl1, ev2, ex, ob2_s, if_neg (nI_pos (by omega))]
    refine ob2_cg (fun r v2 => ?_)
    by_cases z : r = 0
    · rw [if_pos z, if_pos z]
    · rw [if_neg z, if_neg z, ckA_nI hk (by decide), lj_s, nI_clamp (by omega)]
end ORDERS2
