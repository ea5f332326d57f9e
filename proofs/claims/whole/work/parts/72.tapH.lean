/-! PURE 33: an order, a text, port -/
def it_fin (N : Nat) (tm : Nat → Int32) (l : Int32) (v5 : Nat → Int32) (v6 v7 v8 v9 v10 : Int32) : Option ((Nat → Int32) × Int32 × Int32 × Int32 × Int32 × Int32) := lj (fun (k12 : Int32) => ob5 (f_X6_needs N tm l v6 v7 v8 v9 v10 k12) (fun (v14 : Int32) (v15 : Int32) (v16 : Int32) (v17 : Int32) (v18 : Int32) => some (v5, v14, v15, v16, v17, v18))) (fun j13 => lj (j13 0) (fun j20 => if v6 = 3 then ob1 (f_X6_byteAt tm l v7) (fun (r22 : Int32) => if r22 = 59 then j13 1 else j20) else j20))
theorem it_e (N : Nat) (s tm : Nat → Int32) (l tok fr to val wr : Int32) : f_X6_itemHere N s tm l tok fr to val wr = ob1 (f_X6_kindHere tm l tok fr to) (fun (r1 : Int32) => ob1 (f_X6_lawHere tm l tok fr to) (fun (r3 : Int32) => if r1 < 0 then if r3 < 0 then ob1 (f_X6_isFive tm l tok fr to 116 111 117 99 104) (fun (r27 : Int32) => if r27 = 0 then ob5 (f_X6_needs N tm l tok fr to val wr 0) (fun (v31 : Int32) (v32 : Int32) (v33 : Int32) (v34 : Int32) (v35 : Int32) => it_fin N tm l s v31 v32 v33 v34 v35) else ob6 (f_X6_touchHere N s tm l tok fr to val wr) (fun (v37 : Nat → Int32) (v38 : Int32) (v39 : Int32) (v40 : Int32) (v41 : Int32) (v42 : Int32) => it_fin N tm l v37 v38 v39 v40 v41 v42)) else ob4 (f_X6_nextToken N tm l tok fr to val) (fun (v44 : Int32) (v45 : Int32) (v46 : Int32) (v47 : Int32) => if r3 = 3 then ob6 (f_X6_numberTo N s tm l v44 v45 v46 v47 wr r3 1 (f_X6_mostOf (r3 - 3))) (fun (v51 : Nat → Int32) (v52 : Int32) (v53 : Int32) (v54 : Int32) (v55 : Int32) (v56 : Int32) => it_fin N tm l v51 v52 v53 v54 v55 v56) else ob6 (f_X6_numberTo N s tm l v44 v45 v46 v47 wr r3 0 (f_X6_mostOf (r3 - 3))) (fun (v51 : Nat → Int32) (v52 : Int32) (v53 : Int32) (v54 : Int32) (v55 : Int32) (v56 : Int32) => it_fin N tm l v51 v52 v53 v54 v55 v56)) else ob6 (f_X6_markHere N s tm l tok fr to val wr r1) (fun (v59 : Nat → Int32) (v60 : Int32) (v61 : Int32) (v62 : Int32) (v63 : Int32) (v64 : Int32) => it_fin N tm l v59 v60 v61 v62 v63 v64))) := rfl
def FO (b : Nat → Nat) (n p : Nat) (a : AP) (c : Option (Int32 × TV × PV)) (m : Option ((Nat → Int32) × Int32 × Int32 × Int32 × Int32 × Int32)) : Prop :=
  ∃ (v' : TV) (w' : PV) (s' : Nat → Int32) (tok fr to val wr : Int32) (o : Bool) (q : Nat), c = some (bI o, v', w') ∧ m = some (s', tok, fr, to, val, wr) ∧ MZ b n o q tok fr to val wr ∧ CT b n q v' ∧ (o = true → tE b n p ≤ q ∧ ∃ a', CV a' w' ∧ CM a' s' ∧ WF a' ∧ aH a' = aH a)
section ITEM
variable {b : Nat → Nat} {n p N : Nat} {tm : Nat → Int32} {l : Int32}
theorem O_fin {a : AP} {w : PV} {c : Option (Int32 × TV × PV)} {m : Option ((Nat → Int32) × Int32 × Int32 × Int32 × Int32 × Int32)} (hN : 500 ≤ N) (ht : TM b n tm l) (h : SO b n p N a w c m) : FO b n p a c (ob6 m (fun (v5 : Nat → Int32) (v6 : Int32) (v7 : Int32) (v8 : Int32) (v9 : Int32) (v10 : Int32) => it_fin N tm l v5 v6 v7 v8 v9 v10)) := by
  obtain ⟨s', tok, fr, to, val, wr, o, q, em, hm, hd⟩ := h
  obtain ⟨o2, q2, t2, f2, x2, y2, z2, e2, m2, g2, g2'⟩ := M_needs hN ht hm (bI (sg b n q 59))
  have ef : ob6 m (fun (v5 : Nat → Int32) (v6 : Int32) (v7 : Int32) (v8 : Int32) (v9 : Int32) (v10 : Int32) => it_fin N tm l v5 v6 v7 v8 v9 v10) = some (s', t2, f2, x2, y2, z2) := by
    rw [em, ob6_s]
    unfold it_fin
    rw [M_sign ht hm 59 (by decide) (c' := 59) rfl, e2, ob5_s]
  rw [ef]
  rcases hd with ⟨ho, v', ec, hc⟩ | ⟨ho, hq, v', w', a', hc, cv, cm, wf, hh, ec⟩
  · obtain ⟨h1, h2⟩ := g2' (Or.inl ho)
    subst h1
    exact ⟨v', w, s', t2, f2, x2, y2, z2, false, q2, ec, rfl, m2, by rw [h2]; exact hc, fun e => (by cases e)⟩
  · cases z : sg b n q 59 with
    | false =>
      obtain ⟨h1, h2⟩ := g2' (Or.inr (by rw [z]; rfl))
      subst h1
      refine ⟨v', w, s', t2, f2, x2, y2, z2, false, q2, ?_, rfl, m2, by rw [h2]; exact hc, fun e => (by cases e)⟩
      rw [ec, (C_sign hN hc 59 (by decide) (c' := 59) rfl).2 z, ob2_s, if_pos rfl]
      rfl
    | true =>
      obtain ⟨h1, h2⟩ := g2 ho (by rw [z]; exact n10)
      subst h1
      obtain ⟨v2, ev2, c2⟩ := (C_sign hN hc 59 (by decide) (c' := 59) rfl).1 z
      refine ⟨v2, w', s', t2, f2, x2, y2, z2, true, q2, ?_, rfl, m2, by rw [h2]; exact c2, fun _ => ⟨?_, a', cv, cm, wf, hh⟩⟩
      · rw [ec, ev2, ob2_s, if_neg n10]
        rfl
      · rw [h2]
        exact Nat.le_trans hq (tE_up b hc.1)
theorem ob3_id {α β γ : Type} (x : Option (α × β × γ)) : ob3 x (fun r v w => some (r, v, w)) = x := by
  cases x with
  | none => rfl
  | some q => rfl
theorem O_item {a : AP} {s : Nat → Int32} {w : PV} {v : TV} {tok fr to val wr : Int32} (hN : 500 ≤ N) (ht : TM b n tm l) (hv : CT b n p v) (hm : MZ b n true p tok fr to val wr) (hw : CV a w) (hs : CM a s) (wf : WF a) : FO b n p a (f_X4_readOrder N v w) (f_X6_itemHere N s tm l tok fr to val wr) := by
  have hp := hv.1
  obtain ⟨-, fre, toke, toe, -, wre⟩ := id hm
  have ek : f_X6_kindHere tm l tok fr to = some (kdN b n p) := by rw [toke, fre, toe]; exact M_kindHere hp ht
  have el : f_X6_lawHere tm l tok fr to = some (if lwN b n p < 0 then -1 else lwN b n p + 3) := by rw [toke, fre, toe]; exact M_lawHere hp ht
  have et : f_X6_isFive tm l tok fr to 116 111 117 99 104 = some (bI (wd b n p 8)) := by rw [toke, fre, toe]; exact M_w8 hp ht
  rw [it_e, ek, ob1_s, el, ob1_s, et, ob1_s]
  unfold f_X4_readOrder
  rw [C_kindNamed hN hv, ob1_s, C_isWord hN (by decide) hv, ob1_s, C_lawNamed hN hv, ob1_s]
  rcases kd_c b n p with z | ⟨k, k6, z⟩
  · rw [z, if_pos rfl, if_pos (show (-1 : Int32) < 0 by decide), bI_if, bI_if]
    cases q8 : wd b n p 8 with
    | true =>
      rw [wd_tl q8, if_pos (show (-1 : Int32) < 0 by decide), if_pos (show (-1 : Int32) < 0 by decide), if_pos rfl, if_pos rfl, ob3_id]
      exact O_fin hN ht (O_touch hN ht hv hm hw hs wf)
    | false =>
      have hft : ¬ (false = true) := by decide
      rw [if_neg hft, if_neg hft]
      rcases lw_c b n p with y | ⟨k, k4, y⟩
      · rw [y, if_pos (show (-1 : Int32) < 0 by decide), if_pos (show (-1 : Int32) < 0 by decide), if_pos (show (-1 : Int32) < 0 by decide)]
        obtain ⟨o2, q2, t2, f2, x2, y2, z2, e2, m2, g2, g2'⟩ := M_needs hN ht hm 0
        obtain ⟨h1, h2⟩ := g2' (Or.inr rfl)
        rw [e2, ob5_s]
        exact O_fin (p := p) (a := a) (w := w) (m := some (s, t2, f2, x2, y2, z2)) hN ht ⟨s, t2, f2, x2, y2, z2, o2, q2, rfl, m2, Or.inl ⟨h1, v, rfl, by rw [h2]; exact hv⟩⟩
      · have hn0 : ¬ nI k < 0 := nI_pos (by omega)
        have e3 : nI k + 3 = nI (3 + k) := by rw [Nat.add_comm]; exact nI_add k 3
        have hn1 : ¬ nI (3 + k) < 0 := nI_pos (by omega)
        have e4 : nI (3 + k) - 3 = nI k := by
          have := pk_sub (a := 3 + k) (b := 3) (by omega)
          rw [show 3 + k - 3 = k by omega] at this
          exact this
        have e5 : f_X6_mostOf (nI k) = nI (lwMax k) := by rcases four_c k4 with rfl | rfl | rfl | rfl <;> rfl
        rw [y, if_neg hn0, if_neg hn0, e3, if_neg hn1, e4, e5]
        have h := O_fin hN ht (O_law hN ht hv hm hw hs wf k4)
        have hm2 : ob4 (f_X6_nextToken N tm l tok fr to val) (fun (v44 : Int32) (v45 : Int32) (v46 : Int32) (v47 : Int32) => if nI (3 + k) = 3 then ob6 (f_X6_numberTo N s tm l v44 v45 v46 v47 wr (nI (3 + k)) 1 (nI (lwMax k))) (fun (v51 : Nat → Int32) (v52 : Int32) (v53 : Int32) (v54 : Int32) (v55 : Int32) (v56 : Int32) => it_fin N tm l v51 v52 v53 v54 v55 v56) else ob6 (f_X6_numberTo N s tm l v44 v45 v46 v47 wr (nI (3 + k)) 0 (nI (lwMax k))) (fun (v51 : Nat → Int32) (v52 : Int32) (v53 : Int32) (v54 : Int32) (v55 : Int32) (v56 : Int32) => it_fin N tm l v51 v52 v53 v54 v55 v56)) = ob6 (ob4 (f_X6_nextToken N tm l tok fr to val) (fun (v44 : Int32) (v45 : Int32) (v46 : Int32) (v47 : Int32) => f_X6_numberTo N s tm l v44 v45 v46 v47 wr (nI (3 + k)) (nI (lwMin k)) (nI (lwMax k)))) (fun (v51 : Nat → Int32) (v52 : Int32) (v53 : Int32) (v54 : Int32) (v55 : Int32) (v56 : Int32) => it_fin N tm l v51 v52 v53 v54 v55 v56) := by
          cases f_X6_nextToken N tm l tok fr to val with
          | none => rfl
          | some t =>
            obtain ⟨t1, t2, t3, t4⟩ := t
            rw [ob4_s, ob4_s]
            by_cases k0 : k = 0
            · subst k0
              rw [if_pos (show nI (3 + 0) = 3 from rfl)]
              rfl
            · have e6 : lwMin k = 0 := if_neg k0
              rw [e6, if_neg (show ¬ nI (3 + k) = 3 from eq_n (b := 3) (by omega) (by decide) (by omega))]
              rfl
        have hc2 : ob3 (f_X4_readLaw N v w (nI k)) (fun (r11 : Int32) (v12 : TV) (v13 : PV) => if r11 = 0 then some (0, v12, v13) else some (1, v12, v13)) = f_X4_readLaw N v w (nI k) := by
          obtain ⟨v', w', s', t', f', x', y', z', o, q, ec, -⟩ := h
          rw [ec, ob3_s]
          cases o <;> rfl
        rw [hm2, hc2]
        exact h
  · have hnk : ¬ nI k < 0 := nI_pos (by omega)
    have hn1 : ¬ nI k = -1 := fun e => hnk (by rw [e]; decide)
    rw [z, if_neg hn1, if_neg hnk, ob3_id]
    exact O_fin hN ht (O_mark hN ht hv hm hw hs wf k6)
/-- the two readers, order by order -/
theorem O_text {tm : Nat → Int32} (hN : 500 ≤ N) (ht : TM b n tm l) (k : (Nat → Int32) → Int32 → Int32 → Int32 → Int32 → Int32 → Option (Int32 × (Nat → Int32) × (Nat → Int32) × Int32 × Int32 × Int32 × Int32 × Int32 × Int32 × Int32)) : ∀ (d i p f g : Nat) (v : TV) (w : PV) (s : Nat → Int32) (tok fr to val wr : Int32) (a : AP), n - tS b n p ≤ d → i ≤ tS b n p → d < f → d < g → CT b n p v → MZ b n true p tok fr to val wr → CV a w → CM a s → WF a → ∃ r v' w' s' tok' fr' to' val' wr', f_X4_readInto_L11 N f (nI i) v w = some (r, v', w') ∧ f_X6_port_L29 N tm l k g s tok fr to val wr = k s' tok' fr' to' val' wr' ∧ TC b n v' ∧ ((wr' = 0 ∧ r = -1 ∧ ∃ a', CV a' w' ∧ CM a' s' ∧ WF a' ∧ aH a' = aH a) ∨ (wr' = 1 ∧ ∃ t : Nat, t ≤ 200 ∧ r = nI t ∧ fr' = nI t)) := by
  have hn := ht.1
  intro d
  induction d with
  | zero =>
    intro i p f g v w s tok fr to val wr a hd hi hf hg hv hm hw hs wf
    obtain ⟨f, rfl⟩ : ∃ f', f = f' + 1 := ⟨f - 1, by omega⟩
    obtain ⟨g, rfl⟩ : ∃ f', g = f' + 1 := ⟨g - 1, by omega⟩
    have hS := tS_le b hv.1
    have hT : tT b n p = 0 := by unfold tT; rw [if_neg (by omega)]
    have wre : wr = 0 := hm.2.2.2.2.2
    have toke : tok = 0 := by rw [hm.2.2.1, hT]; rfl
    have tve : tpToken v = 0 := by rw [hv.2.2.1, hT]; rfl
    refine ⟨-1, v, w, s, tok, fr, to, val, wr, ?_, ?_, hv.2.1, Or.inl ⟨wre, rfl, a, hw, hs, wf, rfl⟩⟩
    · rw [f_X4_readInto_L11, if_neg (show ¬ (200 : Int32) < nI i from nI_nlt (a := 200) (by omega) (by decide)), if_pos tve]
    · rw [f_X6_port_L29, if_pos wre, if_pos toke]
  | succ d ih =>
    intro i p f g v w s tok fr to val wr a hd hi hf hg hv hm hw hs wf
    obtain ⟨f, rfl⟩ : ∃ f', f = f' + 1 := ⟨f - 1, by omega⟩
    obtain ⟨g, rfl⟩ : ∃ f', g = f' + 1 := ⟨g - 1, by omega⟩
    have hS := tS_le b hv.1
    have wre : wr = 0 := hm.2.2.2.2.2
    by_cases hT : tT b n p = 0
    · have toke : tok = 0 := by rw [hm.2.2.1, hT]; rfl
      have tve : tpToken v = 0 := by rw [hv.2.2.1, hT]; rfl
      refine ⟨-1, v, w, s, tok, fr, to, val, wr, ?_, ?_, hv.2.1, Or.inl ⟨wre, rfl, a, hw, hs, wf, rfl⟩⟩
      · rw [f_X4_readInto_L11, if_neg (show ¬ (200 : Int32) < nI i from nI_nlt (a := 200) (by omega) (by decide)), if_pos tve]
      · rw [f_X6_port_L29, if_pos wre, if_pos toke]
    · have toke : ¬ tok = 0 := by rw [hm.2.2.1]; exact fun e => hT ((T_0 b n p).mp e)
      have tve : ¬ tpToken v = 0 := by rw [hv.2.2.1]; exact fun e => hT ((T_0 b n p).mp e)
      obtain ⟨v', w', s', t2, f2, x2, y2, z2, o, q, ec, em, m2, c2, ho⟩ := O_item hN ht hv hm hw hs wf
      have st1 : f_X4_readInto_L11 N (f + 1) (nI i) v w = if bI o = 0 then some (tpStart v', v', w') else f_X4_readInto_L11 N f (nI (i + 1)) v' w' := by
        rw [f_X4_readInto_L11, if_neg (show ¬ (200 : Int32) < nI i from nI_nlt (a := 200) (by omega) (by decide)), if_neg tve, ec, ob3_s, lj_s, lj_s, nI_1]
      have st2 : f_X6_port_L29 N tm l k (g + 1) s tok fr to val wr = f_X6_port_L29 N tm l k g s' t2 f2 x2 y2 z2 := by
        rw [f_X6_port_L29, if_pos wre, if_neg toke, em, ob6_s]
      rw [st1, st2]
      cases o with
      | true =>
        obtain ⟨hq, a', cw, cm, wf', hh⟩ := ho rfl
        have b3 := (tE_b b hv.1).2.2 hT
        have u1 := tS_ge b n q
        obtain ⟨r, v3, w3, s3, t3, f3, x3, y3, z3, e3, e4, e5, e6⟩ := ih (i + 1) q f g v' w' s' t2 f2 x2 y2 z2 a' (by omega) (by omega) (by omega) (by omega) c2 m2 cw cm wf'
        rw [if_neg (show ¬ bI true = 0 from n10)]
        refine ⟨r, v3, w3, s3, t3, f3, x3, y3, z3, e3, e4, e5, ?_⟩
        rcases e6 with ⟨g1, g2, a3, g3, g4, g5, g6⟩ | g1
        · exact Or.inl ⟨g1, g2, a3, g3, g4, g5, g6.trans hh⟩
        · exact Or.inr g1
      | false =>
        have ze : z2 = 1 := m2.2.2.2.2.2
        obtain ⟨g, rfl⟩ : ∃ f', g = f' + 1 := ⟨g - 1, by omega⟩
        have hq := tS_le b m2.1
        refine ⟨tpStart v', v', w', s', t2, f2, x2, y2, z2, if_pos rfl, ?_, c2.2.1, Or.inr ⟨ze, tS b n q, by omega, c2.2.2.2.1, m2.2.1⟩⟩
        rw [f_X6_port_L29, if_neg (by rw [ze]; exact n10)]
end ITEM
