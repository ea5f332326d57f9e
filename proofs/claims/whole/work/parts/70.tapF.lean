/-! PURE 31: the orders of a text -/
def mk4 (N : Nat) (tm : Nat → Int32) (l t1 : Int32) (v22 : Nat → Int32) (v23 v24 v25 v26 v27 : Int32) : Option ((Nat → Int32) × Int32 × Int32 × Int32 × Int32 × Int32) := if v27 = 0 then ob1 (f_X6_isName tm l v23 v24 v25 3 105 110 107 107) (fun (r30 : Int32) => if r30 = 0 then some (v22, v23, v24, v25, v26, v27) else ob4 (f_X6_nextToken N tm l v23 v24 v25 v26) (fun (v34 : Int32) (v35 : Int32) (v36 : Int32) (v37 : Int32) => ob6 (f_X6_numberTo N v22 tm l v34 v35 v36 v37 v27 (t1 + 1) 0 99) (fun (v39 : Nat → Int32) (v40 : Int32) (v41 : Int32) (v42 : Int32) (v43 : Int32) (v44 : Int32) => some (v39, v40, v41, v42, v43, v44)))) else some (v22, v23, v24, v25, v26, v27)
def mk3 (N : Nat) (s : Nat → Int32) (tm : Nat → Int32) (l x0 t1 : Int32) (v12 v13 v14 v15 v16 : Int32) : Option ((Nat → Int32) × Int32 × Int32 × Int32 × Int32 × Int32) := lj (fun (v18 : Nat → Int32) => lj (fun (k20 : Int32) => ob6 (f_X6_numberTo N v18 tm l v12 v13 v14 v15 v16 k20 0 7) (fun (v22 : Nat → Int32) (v23 : Int32) (v24 : Int32) (v25 : Int32) (v26 : Int32) (v27 : Int32) => mk4 N tm l t1 v22 v23 v24 v25 v26 v27)) (fun j21 => if v16 = 0 then j21 (t1 + 2) else j21 0)) (fun j19 => if v16 = 0 then ob1 (f_X6_comes0 s x0 9 0) (fun (v48 : Nat → Int32) => j19 v48) else j19 s)
theorem ifF {β : Type} {c : Prop} [Decidable c] (F : Int32 → β) (x y : Int32) : (if c then F x else F y) = F (if c then x else y) := by
  by_cases h : c
  · rw [if_pos h, if_pos h]
  · rw [if_neg h, if_neg h]
theorem mk_e (N : Nat) (s tm : Nat → Int32) (l tok fr to val wr x0 : Int32) : f_X6_markHere N s tm l tok fr to val wr x0 = ob5 (f_X6_needs N tm l tok fr to val wr (if 8 ≤ s 0 then 0 else 1)) (fun (v4 : Int32) (v5 : Int32) (v6 : Int32) (v7 : Int32) (v8 : Int32) => lj (fun (k10 : Int32) => ob5 (f_X6_needs N tm l v4 v5 v6 v7 v8 k10) (fun (v12 : Int32) (v13 : Int32) (v14 : Int32) (v15 : Int32) (v16 : Int32) => mk3 N s tm l x0 (19 + (3 * (s 0))) v12 v13 v14 v15 v16)) (fun j11 => lj (j11 0) (fun j50 => if v4 = 1 then if (v6 - v5) = 2 then ob1 (f_X6_byteAt tm l v5) (fun (r53 : Int32) => if r53 = 111 then ob1 (f_X6_byteAt tm l (v5 + 1)) (fun (r56 : Int32) => if r56 = 110 then j11 1 else j50) else j50) else j50 else j50))) :=
  ifF (c := 8 ≤ s 0) (fun (k2 : Int32) => ob5 (f_X6_needs N tm l tok fr to val wr k2) (fun (v4 : Int32) (v5 : Int32) (v6 : Int32) (v7 : Int32) (v8 : Int32) => lj (fun (k10 : Int32) => ob5 (f_X6_needs N tm l v4 v5 v6 v7 v8 k10) (fun (v12 : Int32) (v13 : Int32) (v14 : Int32) (v15 : Int32) (v16 : Int32) => mk3 N s tm l x0 (19 + (3 * (s 0))) v12 v13 v14 v15 v16)) (fun j11 => lj (j11 0) (fun j50 => if v4 = 1 then if (v6 - v5) = 2 then ob1 (f_X6_byteAt tm l v5) (fun (r53 : Int32) => if r53 = 111 then ob1 (f_X6_byteAt tm l (v5 + 1)) (fun (r56 : Int32) => if r56 = 110 then j11 1 else j50) else j50) else j50 else j50)))) 0 1
theorem mk3_t {N : Nat} {s s1 tm : Nat → Int32} {l x0 t1 v12 v13 v14 v15 v16 : Int32} (hz : v16 = 0) (ec : f_X6_comes0 s x0 9 0 = some s1) : mk3 N s tm l x0 t1 v12 v13 v14 v15 v16 = ob6 (f_X6_numberTo N s1 tm l v12 v13 v14 v15 v16 (t1 + 2) 0 7) (fun (v22 : Nat → Int32) (v23 : Int32) (v24 : Int32) (v25 : Int32) (v26 : Int32) (v27 : Int32) => mk4 N tm l t1 v22 v23 v24 v25 v26 v27) := by
  unfold mk3
  simp only [lj_s, if_pos hz, ec, ob1_s]
theorem mk3_f {N : Nat} {s tm : Nat → Int32} {l x0 t1 v12 v13 v14 v15 v16 : Int32} (hz : ¬ v16 = 0) : mk3 N s tm l x0 t1 v12 v13 v14 v15 v16 = ob6 (f_X6_numberTo N s tm l v12 v13 v14 v15 v16 0 0 7) (fun (v22 : Nat → Int32) (v23 : Int32) (v24 : Int32) (v25 : Int32) (v26 : Int32) (v27 : Int32) => mk4 N tm l t1 v22 v23 v24 v25 v26 v27) := by
  unfold mk3
  simp only [lj_s, if_neg hz]
theorem mk4_f {N : Nat} {tm : Nat → Int32} {l t1 : Int32} {v22 : Nat → Int32} {v23 v24 v25 v26 v27 : Int32} (hz : ¬ v27 = 0) : mk4 N tm l t1 v22 v23 v24 v25 v26 v27 = some (v22, v23, v24, v25, v26, v27) := if_neg hz
def rk4 (N : Nat) (w0 : PV) (x1 r9 i16 : Int32) (v17 : TV) : Option (Int32 × TV × PV) := if i16 < 0 then some (0, v17, w0) else ob2 (f_X4_readSign N v17 59) (fun (r20 : Int32) (v21 : TV) => if r20 = 0 then some (0, v21, w0) else ob2 (f_X1_add w0 x1 i16 r9) (fun (r25 : Int32) (v26 : PV) => if r25 = 0 then some (0, v21, v26) else some (1, v21, v26)))
def rk3 (N : Nat) (w0 : PV) (x1 r9 : Int32) (v10 : TV) : Option (Int32 × TV × PV) := if 0 ≤ r9 then ob1 (f_X4_isWord N v10 7) (fun (r13 : Int32) => if r13 = 0 then rk4 N w0 x1 r9 9 v10 else ob1 (f_X4_next N v10) (fun (v31 : TV) => ob2 (f_X4_readNumber N v31 0 99) (fun (r33 : Int32) (v34 : TV) => rk4 N w0 x1 r9 r33 v34))) else some (0, v10, w0)
theorem rk_e (N : Nat) (v : TV) (w0 : PV) (x1 : Int32) : f_X4_readMark N v w0 x1 = if pCount w0 < 8 then ob1 (f_X4_next N v) (fun (v2 : TV) => ob2 (f_X4_readWord N v2 6) (fun (r4 : Int32) (v5 : TV) => if r4 = 0 then some (0, v5, w0) else ob2 (f_X4_readNumber N v5 0 7) (fun (r9 : Int32) (v10 : TV) => rk3 N w0 x1 r9 v10))) else some (0, v, w0) := rfl
theorem ob2_cg {α β γ : Type} {x : Option (α × β)} {f g : α → β → Option γ} (h : ∀ a b, f a b = g a b) : ob2 x f = ob2 x g := by
  cases x with
  | none => rfl
  | some q => exact h q.1 q.2
theorem rk4_ok {N : Nat} {w w' : PV} {x1 r9 i : Int32} {v : TV} (hi : ¬ i < 0) (ea : f_X1_add w x1 i r9 = some (1, w')) : rk4 N w x1 r9 i v = ob2 (f_X4_readSign N v 59) (fun r v2 => if r = 0 then some (0, v2, w) else some (1, v2, w')) := by
  unfold rk4
  rw [if_neg hi]
  refine ob2_cg (fun r v2 => ?_)
  by_cases z : r = 0
  · rw [if_pos z, if_pos z]
  · rw [if_neg z, if_neg z, ea, ob2_s, if_neg n10]
theorem aAdd_on (a : AP) (k o : Nat) : aSOn (aAdd a k 9 0) (aN a) o = aAdd a k 9 o := by
  have e1 : (fun j => if j = aN a then o else if j = aN a then 0 else aOn a j) = fun j => if j = aN a then o else aOn a j := by
    funext j
    by_cases h : j = aN a
    · rw [if_pos h, if_pos h]
    · rw [if_neg h, if_neg h, if_neg h]
  show (aN a + 1, aH a, aZ a, aLaw a, (fun j => if j = aN a then k else aKind a j), (fun j => if j = aN a then 9 else aInk a j), (fun j => if j = aN a then o else if j = aN a then 0 else aOn a j), aFi a, aSe a) = _
  rw [e1]
  rfl
theorem aAdd_ink (a : AP) (k i o : Nat) : aSInk (aAdd a k 9 o) (aN a) i = aAdd a k i o := by
  have e1 : (fun j => if j = aN a then i else if j = aN a then 9 else aInk a j) = fun j => if j = aN a then i else aInk a j := by
    funext j
    by_cases h : j = aN a
    · rw [if_pos h, if_pos h]
    · rw [if_neg h, if_neg h, if_neg h]
  show (aN a + 1, aH a, aZ a, aLaw a, (fun j => if j = aN a then k else aKind a j), (fun j => if j = aN a then i else if j = aN a then 9 else aInk a j), (fun j => if j = aN a then o else aOn a j), aFi a, aSe a) = _
  rw [e1]
  rfl
def SO (b : Nat → Nat) (n p N : Nat) (a : AP) (w : PV) (c : Option (Int32 × TV × PV)) (m : Option ((Nat → Int32) × Int32 × Int32 × Int32 × Int32 × Int32)) : Prop :=
  ∃ (s' : Nat → Int32) (tok fr to val wr : Int32) (o : Bool) (q : Nat), m = some (s', tok, fr, to, val, wr) ∧ MZ b n o q tok fr to val wr ∧ ((o = false ∧ ∃ v', c = some (0, v', w) ∧ CT b n q v') ∨ (o = true ∧ tE b n p ≤ q ∧ ∃ v' w' a', CT b n q v' ∧ CV a' w' ∧ CM a' s' ∧ WF a' ∧ aH a' = aH a ∧ c = ob2 (f_X4_readSign N v' 59) (fun r v2 => if r = 0 then some (0, v2, w) else some (1, v2, w'))))
theorem tE_up (b : Nat → Nat) {n p : Nat} (h : p ≤ n) : p ≤ tE b n p := Nat.le_trans (tS_ge b n p) (tE_b b h).1
section ORDERS
variable {b : Nat → Nat} {n p N : Nat} {tm : Nat → Int32} {l : Int32}
theorem O_mark {a : AP} {s : Nat → Int32} {w : PV} {v : TV} {tok fr to val wr : Int32} {k : Nat} (hN : 500 ≤ N) (ht : TM b n tm l) (hv : CT b n p v) (hm : MZ b n true p tok fr to val wr) (hw : CV a w) (hs : CM a s) (wf : WF a) (hk : k < 6) : SO b n p N a w (f_X4_readMark N v w (nI k)) (f_X6_markHere N s tm l tok fr to val wr (nI k)) := by
  have hn := wf.1
  have hc : pCount w = nI (aN a) := hw.1
  have hs0 : s 0 = nI (aN a) := hs.1
  by_cases q8 : aN a < 8
  · have hc8 : pCount w < 8 := by rw [hc]; exact nI_lt (b := 8) q8 (by decide)
    obtain ⟨v1, ev1, c1⟩ := C_nextT hN hv
    obtain ⟨o1, p1, t1, f1, x1, y1, z1, e1, m1, g1, -⟩ := M_needs hN ht hm 1
    obtain ⟨h11, h12⟩ := g1 rfl n10
    subst h11
    subst h12
    obtain ⟨o2, p2, t2, f2, x2, y2, z2, e2, m2, g2, g2'⟩ := M_needs hN ht m1 (bI (wd b n (tE b n p) 6))
    have em : f_X6_markHere N s tm l tok fr to val wr (nI k) = mk3 N s tm l (nI k) (19 + (3 * (s 0))) t2 f2 x2 y2 z2 := by
      rw [mk_e, hs0, if_neg (show ¬ (8 : Int32) ≤ nI (aN a) from nI_ge q8 (by decide)), e1, ob5_s, M_on ht m1, e2, ob5_s]
    cases qw : wd b n (tE b n p) 6 with
    | false =>
      obtain ⟨h21, h22⟩ := g2' (Or.inr (by rw [qw]; rfl))
      subst h21
      subst h22
      obtain ⟨s3, o3, p3, t3, f3, x3, y3, z3, e3, m3, -, g3'⟩ := M_numTo hN ht m2 s (x0 := 0) (lo := 0) (hi := 7) 0 0 7 rfl rfl rfl (by decide) (by decide) (by decide)
      obtain ⟨h31, h32, -⟩ := g3' (Or.inl rfl)
      subst h31
      subst h32
      have z2e : z2 = 1 := m2.2.2.2.2.2
      have z3e : z3 = 1 := m3.2.2.2.2.2
      refine ⟨s3, _, _, _, _, _, false, _, ?_, m3, Or.inl ⟨rfl, v1, ?_, c1⟩⟩
      · rw [em, mk3_f (by rw [z2e]; exact n10), e3, ob6_s, mk4_f (by rw [z3e]; exact n10)]
      · rw [rk_e, if_pos hc8, ev1, ob1_s, (C_word hN c1 (by decide)).2 qw, ob2_s, if_pos rfl]
    | true =>
      obtain ⟨h21, h22⟩ := g2 rfl (by rw [qw]; exact n10)
      subst h21
      subst h22
      obtain ⟨s1, ec, cm1⟩ := X6_comes0 hs q8 k 9 0
      have ec : f_X6_comes0 s (nI k) 9 0 = some s1 := ec
      obtain ⟨v2, ev2, c2⟩ := (C_word hN c1 (w := 6) (by decide)).1 qw
      obtain ⟨s3, o3, p3, t3, f3, x3, y3, z3, e3, m3, g3, g3'⟩ := M_numTo hN ht m2 s1 (x0 := (19 + (3 * (s 0))) + 2) (lo := 0) (hi := 7) (19 + 3 * aN a + 2) 0 7 (by rw [hs0, ixM, nI_2]) rfl rfl (by omega) (by decide) (by decide)
      have z20 : z2 = 0 := m2.2.2.2.2.2
      have em2 : f_X6_markHere N s tm l tok fr to val wr (nI k) = mk4 N tm l (19 + (3 * (s 0))) s3 t3 f3 x3 y3 z3 := by rw [em, mk3_t z20 ec, e3, ob6_s]
      have cm : f_X4_readMark N v w (nI k) = ob2 (f_X4_readNumber N v2 0 7) (fun (r9 : Int32) (v10 : TV) => rk3 N w (nI k) r9 v10) := by rw [rk_e, if_pos hc8, ev1, ob1_s, ev2, ob2_s, if_neg n10]
      cases qn : nm b n (tE b n (tE b n p)) 0 7 with
      | false =>
        obtain ⟨h31, h32, -⟩ := g3' (Or.inr qn)
        subst h31
        subst h32
        have z3e : z3 = 1 := m3.2.2.2.2.2
        refine ⟨s3, _, _, _, _, _, false, _, ?_, m3, Or.inl ⟨rfl, v2, ?_, c2⟩⟩
        · rw [em2, mk4_f (by rw [z3e]; exact n10)]
        · rw [cm, (C_number hN c2 0 7).2 qn, ob2_s]
          unfold rk3
          rw [if_neg (by decide)]
      | true =>
        obtain ⟨h31, h32, hs3⟩ := g3 rfl qn
        subst h31
        subst h32
        obtain ⟨who, -, w7, ew⟩ := nm_n 0 7 rfl rfl (by decide) (by decide) qn
        obtain ⟨v3, ev3, c3⟩ := (C_number hN c2 0 7).1 qn
        have cm3 : CM (aAdd a k 9 who) s3 := by
          rw [hs3, ew, ← aAdd_on]
          exact CM_on cm1 (aN a) who
        have z30 : z3 = 0 := m3.2.2.2.2.2
        have cm' : f_X4_readMark N v w (nI k) = rk3 N w (nI k) (nI who) v3 := by rw [cm, ev3, ew, ob2_s]
        have u1 := tE_up b hv.1
        have u2 := tE_up b (tE_b b hv.1).2.1
        have u3 := tE_up b (tE_b b (tE_b b hv.1).2.1).2.1
        cases qi : wd b n (tE b n (tE b n (tE b n p))) 7 with
        | false =>
          obtain ⟨w', ea, cw⟩ := (X1_add hw wf (k := k) (i := 9) (o := who)).1 q8
          refine ⟨s3, _, _, _, _, _, true, _, ?_, m3, Or.inr ⟨rfl, by omega, v3, w', _, c3, cw, cm3, WF_add wf q8 hk (by decide) (by omega), rfl, ?_⟩⟩
          · rw [em2]
            unfold mk4
            rw [if_pos z30, M_ink ht m3, qi, ob1_s, if_pos (by rfl)]
          · rw [cm']
            unfold rk3
            rw [if_pos (nI_pos' (by omega)), C_isWord hN (by decide) c3, qi, ob1_s, if_pos (by rfl)]
            exact rk4_ok (by decide) ea
        | true =>
          obtain ⟨v4, ev4, c4⟩ := C_nextT hN c3
          obtain ⟨y4, e4, h4⟩ := M_next hN (tE_b b m3.1).2.1 ht t3 f3 y3
          have x3e : x3 = nI (tE b n (tE b n (tE b n (tE b n p)))) := m3.2.2.2.1
          have m4 : MZ b n true (tE b n (tE b n (tE b n (tE b n p)))) _ _ _ y4 z3 := ⟨(tE_b b m3.1).2.1, rfl, rfl, rfl, h4, z30⟩
          obtain ⟨s5, o5, p5, t5, f5, x5, y5, z5, e5, m5, g5, g5'⟩ := M_numTo hN ht m4 s3 (x0 := (19 + (3 * (s 0))) + 1) (lo := 0) (hi := 99) (19 + 3 * aN a + 1) 0 99 (by rw [hs0, ixM, nI_1]) rfl rfl (by omega) (by decide) (by decide)
          have em5 : f_X6_markHere N s tm l tok fr to val wr (nI k) = some (s5, t5, f5, x5, y5, z5) := by
            rw [em2]
            unfold mk4
            rw [if_pos z30, M_ink ht m3, qi, ob1_s, if_neg (show ¬ bI true = 0 from n10), x3e, e4, ob4_s, e5, ob6_s]
          have cm4 : f_X4_readMark N v w (nI k) = ob2 (f_X4_readNumber N v4 0 99) (fun (r33 : Int32) (v34 : TV) => rk4 N w (nI k) (nI who) r33 v34) := by
            rw [cm']
            unfold rk3
            rw [if_pos (nI_pos' (by omega)), C_isWord hN (by decide) c3, qi, ob1_s, if_neg (show ¬ bI true = 0 from n10), ev4, ob1_s]
          cases qm : nm b n (tE b n (tE b n (tE b n (tE b n p)))) 0 99 with
          | false =>
            obtain ⟨h51, h52, -⟩ := g5' (Or.inr qm)
            subst h51
            subst h52
            refine ⟨_, _, _, _, _, _, false, _, em5, m5, Or.inl ⟨rfl, v4, ?_, c4⟩⟩
            rw [cm4, (C_number hN c4 0 99).2 qm, ob2_s]
            unfold rk4
            rw [if_pos (by decide)]
          | true =>
            obtain ⟨h51, h52, hs5⟩ := g5 rfl qm
            subst h51
            subst h52
            obtain ⟨i, -, i99, ei⟩ := nm_n 0 99 rfl rfl (by decide) (by decide) qm
            obtain ⟨v5, ev5, c5⟩ := (C_number hN c4 0 99).1 qm
            have cm5 : CM (aAdd a k i who) s5 := by
              rw [hs5, ei, ← aAdd_ink]
              exact CM_ink cm3 (aN a) i
            have u3b := tE_up b m3.1
            have u4 := tE_up b m4.1
            obtain ⟨w', ea, cw⟩ := (X1_add hw wf (k := k) (i := i) (o := who)).1 q8
            refine ⟨_, _, _, _, _, _, true, _, em5, m5, Or.inr ⟨rfl, by omega, v5, w', _, c5, cw, cm5, WF_add wf q8 hk (by omega) (by omega), rfl, ?_⟩⟩
            rw [cm4, ev5, ei, ob2_s]
            exact rk4_ok (nI_pos (by omega)) ea
  · have hc8 : ¬ pCount w < 8 := by rw [hc]; exact nI_nlt (b := 8) (by omega) (by omega)
    obtain ⟨o1, p1, t1, f1, x1, y1, z1, e1, m1, -, g1'⟩ := M_needs hN ht hm 0
    obtain ⟨h11, h12⟩ := g1' (Or.inr rfl)
    subst h11
    obtain ⟨o2, p2, t2, f2, x2, y2, z2, e2, m2, -, g2'⟩ := M_needs hN ht m1 (bI (wd b n p1 6))
    obtain ⟨h21, h22⟩ := g2' (Or.inl rfl)
    subst h21
    obtain ⟨s3, o3, p3, t3, f3, x3, y3, z3, e3, m3, -, g3'⟩ := M_numTo hN ht m2 s (x0 := 0) (lo := 0) (hi := 7) 0 0 7 rfl rfl rfl (by decide) (by decide) (by decide)
    obtain ⟨h31, h32, -⟩ := g3' (Or.inl rfl)
    subst h31
    have z2e : z2 = 1 := m2.2.2.2.2.2
    have z3e : z3 = 1 := m3.2.2.2.2.2
    have pe : p3 = p := h32.trans (h22.trans h12)
    refine ⟨s3, _, _, _, _, _, false, _, ?_, m3, Or.inl ⟨rfl, v, ?_, by rw [pe]; exact hv⟩⟩
    · rw [mk_e, hs0, if_pos (show (8 : Int32) ≤ nI (aN a) from nI_le (a := 8) (by omega) (by omega)), e1, ob5_s, M_on ht m1, e2, ob5_s, mk3_f (by rw [z2e]; exact n10), e3, ob6_s, mk4_f (by rw [z3e]; exact n10)]
    · rw [rk_e, if_neg hc8]
end ORDERS
