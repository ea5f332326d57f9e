/-! PURE 9: what is tried: where, comes, bare, dry, stir, keep -/
def YT {α β : Type} (h : Nat) (v : PV) (c : Option (Int32 × α)) (m : Option (Int32 × (Nat → Int32) × β)) : Prop := ∃ (r : Int32) (x : α) (s' : Nat → Int32) (y : β), c = some (r, x) ∧ m = some (r, s', y) ∧ RP h v s'
theorem YT.mk {α β : Type} {h : Nat} {v : PV} {c : Option (Int32 × α)} {m : Option (Int32 × (Nat → Int32) × β)} (r : Int32) (x : α) (s' : Nat → Int32) (y : β) (h1 : c = some (r, x)) (h2 : m = some (r, s', y)) (h3 : RP h v s') : YT h v c m := ⟨r, x, s', y, h1, h2, h3⟩
theorem RP_at {h : Nat} {a : AP} {v : PV} {s s' : Nat → Int32} (hv : CV a v) (hs : CM a s) (hw : WF a) (hh : aH a ≤ h) (e : ∀ i, i < 43 → s' i = s i) : RP h v s' := ⟨a, hv, CM_at hs hw.1 e, hw, hh⟩
theorem lpSx {σ β : Type} (P : AP → Bool) {L : Nat → Int32 → σ → Option β} {R : Nat → AP → σ → Prop} {m : Nat} (ok : Nat → σ → Option β)
    (h0 : ∀ (f : Nat) (a : AP) (s : σ), R (m + 1) a s → L (f + 1) (nI (m + 1)) s = ok (m + 1) s)
    (h1 : ∀ (f j : Nat) (a : AP) (s : σ), j ≤ m → R j a s → (P a = true → L (f + 1) (nI j) s = ok j s) ∧ (P a = false → ∃ s', L (f + 1) (nI j) s = L f (nI (j + 1)) s' ∧ R (j + 1) (gPh a) s'))
    {f : Nat} {a : AP} {s : σ} (hf : m + 1 < f) (hr : R 0 a s) : ∃ s', L f (nI 0) s = ok (gSn P m a) s' := by
  obtain ⟨s', q1, q2⟩ := lpSn P ok (ok (m + 1)) h0 h1 m 0 f a s (by omega) hf hr
  rw [Nat.zero_add] at q1 q2
  have := gSn_le P m a
  refine ⟨s', ?_⟩
  by_cases q : gSn P m a ≤ m
  · exact q1 q
  · rw [q2 (by omega), show gSn P m a = m + 1 by omega]
theorem X6_comesBy {N : Nat} {a : AP} {s : Nat → Int32} (q : Nat → Int32) (hs : CM a s) (hw : WF a) (hN : 100 ≤ N) {k w m : Nat} (hm : m ≤ 60) (hh : aH a + 1001 < 2 ^ 31) (hk : k < aN a) (hw8 : w < 8) : ∃ s' q', f_X6_comesBy N s q (nI k) (nI w) (nI m) = some (nI (gSn (gOn k w) m a), s', q') ∧ ∀ i, i < 43 → s' i = s i := by
  obtain ⟨v1, c1, c2⟩ := X6_copyRow (N := N) (by omega) s q
  unfold f_X6_comesBy
  rw [c1, ob1_s, lj_s]
  obtain ⟨s1, e1⟩ := lpSx (gOn k w) (L := fun f i u => f_X6_comesBy_L14 N (nI k) (nI w) (nI m) (fun i3 v4 => ob1 (f_X6_copyRow N v1 v4) (fun v6 => some (i3, v6, v1))) f i u) (R := fun j b u => RM m j b u ∧ k < aN b) (m := m) (fun j u => ob1 (f_X6_copyRow N v1 u) (fun v6 => some (nI j, v6, v1)))
    (fun f b u hu => by
      show f_X6_comesBy_L14 N (nI k) (nI w) (nI m) _ (f + 1) (nI (m + 1)) u = _
      rw [f_X6_comesBy_L14, if_pos (nI_lt (by omega) (by omega))])
    (fun f j b u hj hu => by
      obtain ⟨⟨hu, hb, hbh⟩, hkb⟩ := hu
      have hb8 : aN b ≤ 8 := hb.1
      have hon := (hb.2.2.1 k hkb).2.2
      show (gOn k w b = true → f_X6_comesBy_L14 N (nI k) (nI w) (nI m) _ (f + 1) (nI j) u = _) ∧ (gOn k w b = false → ∃ s', f_X6_comesBy_L14 N (nI k) (nI w) (nI m) _ (f + 1) (nI j) u = f_X6_comesBy_L14 N (nI k) (nI w) (nI m) _ f (nI (j + 1)) s' ∧ _)
      rw [f_X6_comesBy_L14, if_neg (nI_nlt hj (by omega)), itsO hu hb8 hkb, ob1_s]
      refine ⟨fun e => ?_, fun e => ?_⟩
      · have e : aOn b k = w := by simpa [gOn] using e
        rw [if_pos (by rw [e])]
      · have e : ¬ aOn b k = w := by simpa [gOn] using e
        obtain ⟨u', p1, p2⟩ := X6_goes1 hu hb (show 9 ≤ N by omega) (by omega)
        rw [if_neg (eq_n (by omega) (by omega) e), p1, ob1_s, nI_1, lj_s]
        exact ⟨u', rfl, ⟨p2, WF_Ph hb, by rw [gPh_h]; omega⟩, by rw [gPh_n]; exact hkb⟩)
    (f := N) (a := a) (s := s) (by omega) ⟨⟨hs, hw, by omega⟩, hk⟩
  obtain ⟨v6, c3, c4⟩ := X6_copyRow (N := N) (by omega) v1 s1
  have e1 : f_X6_comesBy_L14 N (nI k) (nI w) (nI m) (fun i3 v4 => ob1 (f_X6_copyRow N v1 v4) (fun v6 => some (i3, v6, v1))) N 0 s = _ := e1
  refine ⟨v6, v1, ?_, fun i hi => (c4 i hi).trans (c2 i hi)⟩
  rw [e1, c3, ob1_s]
theorem Y_where {N h : Nat} {v : PV} {s : Nat → Int32} (t : PV) (q : Nat → Int32) (hr : RP h v s) (hN : 100 ≤ N) (hb : h + 1001 < 2 ^ 31) (x0 x1 : Int32) : YT h v (f_X5_where N v t x0 x1) (f_X6_where N s q x0 x1) := by
  obtain ⟨a, hv, hs, hw, hh⟩ := id hr
  have hn := hw.1
  unfold f_X5_where f_X6_where
  rcases mark_c hv hs hw x0 with ⟨q1, q2⟩ | ⟨k, hk, rfl, q1, q2⟩
  · rw [if_pos q1, if_pos q2]; exact YT.mk _ _ _ _ rfl rfl hr
  · rw [q1, q2, if_neg n10, if_neg n10, i060]
    rcases wl_c x1 0 (hi := 60) (by decide) (by decide) with p | ⟨n, -, n60, rfl, p⟩
    · have p : f_X5_within x1 0 60 = 0 := p
      rw [if_pos p, if_pos p]; exact YT.mk _ _ _ _ rfl rfl hr
    · have p : f_X5_within (nI n) 0 60 = 1 := p
      obtain ⟨t1, b1, b2⟩ := X1_become (v := t) hv hn
      obtain ⟨v5, c1, c2⟩ := X6_copyRow (N := N) (by omega) s q
      obtain ⟨s1, g1, g2⟩ := X6_goes hs hw (show 9 ≤ N by omega) (n := n) (by omega) (by omega) (by omega)
      have key : ∀ (d j f : Nat) (a : AP) (v : PV), j + d = n → d < f → CV a v → WF a → aH a + d < 2 ^ 31 → ∃ v', f_X5_where_L33 N (nI n) (fun v7 => rdA (pOn v7) 8 (nI k) (fun y10 => some (y10, v7))) f (nI j) v = rdA (pOn v') 8 (nI k) (fun y10 => some (y10, v')) ∧ CV (itN gPh d a) v' := by
        intro d
        induction d with
        | zero =>
          intro j f a v hj hf hv _ _
          obtain ⟨f, rfl⟩ : ∃ f', f = f' + 1 := ⟨f - 1, by omega⟩
          refine ⟨v, ?_, hv⟩
          rw [f_X5_where_L33, if_pos (nI_le (by omega) (by omega))]
        | succ d ih =>
          intro j f a v hj hf hv hw hh
          obtain ⟨f, rfl⟩ : ∃ f', f = f' + 1 := ⟨f - 1, by omega⟩
          obtain ⟨v1, q1, q2, -⟩ := X1_passHour hv hw (show 9 ≤ N by omega) (by omega)
          obtain ⟨v2, q3, q4⟩ := ih (j + 1) f (gPh a) v1 (by omega) (by omega) q2 (WF_Ph hw) (by rw [gPh_h]; omega)
          refine ⟨v2, ?_, q4⟩
          rw [f_X5_where_L33, if_neg (nI_ge (by omega) (by omega)), q1, ob1_s, nI_1, lj_s]
          exact q3
      obtain ⟨t2, e1, e2⟩ := key n 0 N a t1 (by omega) (by omega) b2 hw (by omega)
      have e1 : f_X5_where_L33 N (nI n) (fun v7 => rdA (pOn v7) 8 (nI k) (fun y10 => some (y10, v7))) N 0 t1 = _ := e1
      obtain ⟨v11, c3, c4⟩ := X6_copyRow (N := N) (by omega) v5 s1
      have hk2 : k < aN (itN gPh n a) := by rw [itA]; exact hk
      have w2 := itW hw n
      rw [p, if_neg n10, if_neg n10, b1, ob1_s, lj_s, e1, rdA_nI (show k < 8 by omega) (by decide), (e2.2.2.2.2.1 k hk2).2.2, c1, ob1_s, g1, ob1_s, itsO g2 w2.1 hk2, ob1_s, c3, ob1_s]
      exact YT.mk _ _ _ _ rfl rfl (RP_at hv hs hw hh (fun i hi => (c4 i hi).trans (c2 i hi)))
theorem rs60 (r : Nat) (h : r ≤ 61) {α : Type} (x y : α) (e : (60 < nI r) = (60 < nI r)) : (if (60 : Int32) < nI r then x else y) = if r ≤ 60 then y else x := by
  by_cases q : r ≤ 60
  · rw [if_pos q, if_neg (show ¬ (60 : Int32) < nI r from nI_nlt (b := r) (a := 60) q (by decide))]
  · rw [if_neg q, if_pos (show (60 : Int32) < nI r from nI_lt (a := 60) (by omega) (by omega))]
theorem Y_comes {N h : Nat} {v : PV} {s : Nat → Int32} (t : PV) (q : Nat → Int32) (hr : RP h v s) (hN : 100 ≤ N) (hb : h + 1001 < 2 ^ 31) (x0 x1 : Int32) : YT h v (f_X5_comes N v t x0 x1) (f_X6_comes N s q x0 x1) := by
  obtain ⟨a, hv, hs, hw, hh⟩ := id hr
  have hn := hw.1
  unfold f_X5_comes f_X6_comes
  rcases mark_c hv hs hw x0 with ⟨q1, q2⟩ | ⟨k, hk, rfl, q1, q2⟩
  · rw [if_pos q1, if_pos q2]; exact YT.mk _ _ _ _ rfl rfl hr
  · rw [q1, q2, if_neg n10, if_neg n10]
    rcases one_c x1 with ⟨q1, q2⟩ | ⟨w, w8, rfl, q1, q2⟩
    · rw [if_pos q1, if_pos q2]; exact YT.mk _ _ _ _ rfl rfl hr
    · obtain ⟨t1, b1, b2⟩ := X1_become (v := t) hv hn
      obtain ⟨t2, e1⟩ := X1_untilOn (N := N) b2 hw (by omega) (k := k) (w := w) (m := 60) (by omega) (by decide) (by omega) hk w8
      have e1 : f_X1_hoursUntilOn N t1 (nI k) (nI w) 60 = _ := e1
      obtain ⟨s1, q', c1, c2⟩ := X6_comesBy q hs hw hN (k := k) (w := w) (m := 60) (by omega) (by omega) hk w8
      have c1 : f_X6_comesBy N s q (nI k) (nI w) 60 = _ := c1
      have hl := gSn_le (gOn k w) 60 a
      rw [q1, q2, if_neg n10, if_neg n10, b1, ob1_s, e1, ob2_s, c1, ob3_s, rs60 _ hl _ _ rfl]
      refine ⟨_, _, s1, q', rfl, ?_, RP_at hv hs hw hh c2⟩
      unfold gRs
      split <;> rfl
theorem Y_bare {N h : Nat} {v : PV} {s : Nat → Int32} (t : PV) (q : Nat → Int32) (hr : RP h v s) (hN : 100 ≤ N) (hb : h + 1001 < 2 ^ 31) (x0 : Int32) : YT h v (f_X5_bare N v t x0) (f_X6_bare N s q x0) := by
  obtain ⟨a, hv, hs, hw, hh⟩ := id hr
  have hn := hw.1
  unfold f_X5_bare f_X6_bare
  rcases one_c x0 with ⟨q1, q2⟩ | ⟨w, w8, rfl, q1, q2⟩
  · rw [if_pos q1, if_pos q2]; exact YT.mk _ _ _ _ rfl rfl hr
  · obtain ⟨t1, b1, b2⟩ := X1_become (v := t) hv hn
    have dec : ∀ b : AP, (nI (sN (fun j => decide (aOn b j = w)) (aN b)) = 0 ↔ gBr w b = true) ∨ ¬ aN b ≤ 8 := by
      intro b
      by_cases hb8 : aN b ≤ 8
      · left
        have := sN_256 (fun j => decide (aOn b j = w)) hb8
        unfold gBr
        rw [show (0 : Int32) = nI 0 from rfl, nI_eq (by omega) (by decide)]
        simp
      · exact Or.inr hb8
    obtain ⟨t2, p1, p2⟩ := lpSn (gBr w) (L := fun f i u => f_X1_hoursUntilBare_L2 N (nI w) 60 f i u) (R := fun j b u => RV 60 j b u) (m := 60) (fun j u => some (nI j, u)) (fun u => some (-3, u))
      (fun f b u hu => by
        show f_X1_hoursUntilBare_L2 N (nI w) 60 (f + 1) (nI 61) u = _
        rw [f_X1_hoursUntilBare_L2, if_pos (by decide)])
      (fun f j b u hj hu => by
        obtain ⟨hu, hb, hbh⟩ := hu
        show (gBr w b = true → f_X1_hoursUntilBare_L2 N (nI w) 60 (f + 1) (nI j) u = _) ∧ (gBr w b = false → ∃ s', f_X1_hoursUntilBare_L2 N (nI w) 60 (f + 1) (nI j) u = f_X1_hoursUntilBare_L2 N (nI w) 60 f (nI (j + 1)) s' ∧ _)
        have dd := (dec b).resolve_right (fun z => z hb.1)
        rw [f_X1_hoursUntilBare_L2, if_neg (show ¬ (60 : Int32) < nI j from nI_nlt (a := 60) hj (by decide)), X1_marksOn hu hb (show 9 ≤ N by omega) w8, ob1_s, if_cg dd]
        refine ⟨fun e => by rw [if_pos e], fun e => ?_⟩
        obtain ⟨u', p1, p2, -⟩ := X1_passHour hu hb (show 9 ≤ N by omega) (by omega)
        rw [if_neg (by rw [e]; decide), p1, ob1_s, nI_1, lj_s]
        exact ⟨u', rfl, p2, WF_Ph hb, by rw [gPh_h]; omega⟩)
      60 0 N a t1 (by omega) (by omega) ⟨b2, hw, by omega⟩
    rw [Nat.zero_add] at p1 p2
    have e1 : f_X1_hoursUntilBare N t1 (nI w) 60 = some (gRs 60 (gSn (gBr w) 60 a), t2) := rs_of p1 p2
    obtain ⟨v1, c1, c2⟩ := X6_copyRow (N := N) (by omega) s q
    obtain ⟨s1, c3⟩ := lpSx (gBr w) (L := fun f i u => f_X6_bare_L22 N (nI w) (fun i5 v6 => ob1 (f_X6_copyRow N v1 v6) (fun v8 => if 60 < i5 then some (-3, v8, v1) else some (i5, v8, v1))) f i u) (R := fun j b u => RM 60 j b u) (m := 60) (fun j u => ob1 (f_X6_copyRow N v1 u) (fun v8 => if 60 < nI j then some (-3, v8, v1) else some (nI j, v8, v1)))
      (fun f b u hu => by
        show f_X6_bare_L22 N (nI w) _ (f + 1) (nI 61) u = _
        rw [f_X6_bare_L22, if_pos (by decide)])
      (fun f j b u hj hu => by
        obtain ⟨hu, hb, hbh⟩ := hu
        show (gBr w b = true → f_X6_bare_L22 N (nI w) _ (f + 1) (nI j) u = _) ∧ (gBr w b = false → ∃ s', f_X6_bare_L22 N (nI w) _ (f + 1) (nI j) u = f_X6_bare_L22 N (nI w) _ f (nI (j + 1)) s' ∧ _)
        have dd := (dec b).resolve_right (fun z => z hb.1)
        rw [f_X6_bare_L22, if_neg (show ¬ (60 : Int32) < nI j from nI_nlt (a := 60) hj (by decide)), X6_marksOn hu hb (show 9 ≤ N by omega) w8, ob1_s, if_cg dd]
        refine ⟨fun e => by rw [if_pos e], fun e => ?_⟩
        obtain ⟨u', p1, p2⟩ := X6_goes1 hu hb (show 9 ≤ N by omega) (by omega)
        rw [if_neg (by rw [e]; decide), p1, ob1_s, nI_1, lj_s]
        exact ⟨u', rfl, p2, WF_Ph hb, by rw [gPh_h]; omega⟩)
      (f := N) (a := a) (s := s) (by omega) ⟨hs, hw, by omega⟩
    have c3 : f_X6_bare_L22 N (nI w) (fun i5 v6 => ob1 (f_X6_copyRow N v1 v6) (fun v8 => if 60 < i5 then some (-3, v8, v1) else some (i5, v8, v1))) N 0 s = _ := c3
    obtain ⟨v8, c4, c5⟩ := X6_copyRow (N := N) (by omega) v1 s1
    have hl := gSn_le (gBr w) 60 a
    rw [q1, q2, if_neg n10, if_neg n10, b1, ob1_s, e1, ob2_s, c1, ob1_s, lj_s, c3, c4, ob1_s, rs60 _ hl _ _ rfl]
    refine ⟨_, _, v8, v1, rfl, ?_, RP_at hv hs hw hh (fun i hi => (c5 i hi).trans (c2 i hi))⟩
    unfold gRs
    split <;> rfl
theorem gIn_lt {a : AP} (hw : WF a) : gIn a < 2 ^ 31 := by
  have : ∀ (d j m : Nat), j + d = aN a → m ≤ 99 * j → fld (fun j c => c + aInk a j) j d m ≤ 99 * (j + d) := by
    intro d
    induction d with
    | zero => intro j m _ hm; exact hm
    | succ d ih =>
      intro j m hj hm
      have h2 := (hw.2.2.1 j (by omega)).2.1
      have := ih (j + 1) (m + aInk a j) (by omega) (by omega)
      rw [show j + (d + 1) = j + 1 + d by omega]
      exact this
  have h := this (aN a) 0 0 (by omega) (by decide)
  have hn := hw.1
  have h : gIn a ≤ 99 * (0 + aN a) := h
  omega
theorem Y_dry {N h : Nat} {v : PV} {s : Nat → Int32} (t : PV) (q : Nat → Int32) (hr : RP h v s) (hN : 100 ≤ N) (hb : h + 1001 < 2 ^ 31) : YT h v (f_X5_dry N v t) (f_X6_dry N s q) := by
  obtain ⟨a, hv, hs, hw, hh⟩ := id hr
  have hn := hw.1
  unfold f_X5_dry f_X6_dry
  obtain ⟨t1, b1, b2⟩ := X1_become (v := t) hv hn
  have dec : ∀ b : AP, gIn b < 2 ^ 31 → (nI (gIn b) = 0 ↔ gDy b = true) ∧ (nI (gIn b) ≤ 0 ↔ gDy b = true) := by
    intro b hb
    unfold gDy
    refine ⟨?_, ?_⟩
    · rw [show (0 : Int32) = nI 0 from rfl, nI_eq hb (by decide)]; simp
    · rw [show (0 : Int32) = nI 0 from rfl, nI_leI hb (by decide)]; simp
  obtain ⟨t2, p1, p2⟩ := lpSn gDy (L := fun f i u => f_X1_hoursUntilDry_L2 N 60 f i u) (R := fun j b u => RV 60 j b u) (m := 60) (fun j u => some (nI j, u)) (fun u => some (-3, u))
    (fun f b u hu => by
      show f_X1_hoursUntilDry_L2 N 60 (f + 1) (nI 61) u = _
      rw [f_X1_hoursUntilDry_L2, if_pos (by decide)])
    (fun f j b u hj hu => by
      obtain ⟨hu, hb, hbh⟩ := hu
      show (gDy b = true → f_X1_hoursUntilDry_L2 N 60 (f + 1) (nI j) u = _) ∧ (gDy b = false → ∃ s', f_X1_hoursUntilDry_L2 N 60 (f + 1) (nI j) u = f_X1_hoursUntilDry_L2 N 60 f (nI (j + 1)) s' ∧ _)
      have hi := X1_allInk hu hb (show 9 ≤ N by omega)
      have hb8 := hb.1
      have dd := (dec b (by omega)).1
      rw [f_X1_hoursUntilDry_L2, if_neg (show ¬ (60 : Int32) < nI j from nI_nlt (a := 60) hj (by decide)), hi.1, ob1_s, if_cg dd]
      refine ⟨fun e => by rw [if_pos e], fun e => ?_⟩
      obtain ⟨u', p1, p2, -⟩ := X1_passHour hu hb (show 9 ≤ N by omega) (by omega)
      rw [if_neg (by rw [e]; decide), p1, ob1_s, nI_1, lj_s]
      exact ⟨u', rfl, p2, WF_Ph hb, by rw [gPh_h]; omega⟩)
    60 0 N a t1 (by omega) (by omega) ⟨b2, hw, by omega⟩
  rw [Nat.zero_add] at p1 p2
  have e1 : f_X1_hoursUntilDry N t1 60 = some (gRs 60 (gSn gDy 60 a), t2) := rs_of p1 p2
  obtain ⟨v1, c1, c2⟩ := X6_copyRow (N := N) (by omega) s q
  obtain ⟨s1, c3⟩ := lpSx gDy (L := fun f i u => f_X6_dry_L13 N (fun i5 v6 => ob1 (f_X6_copyRow N v1 v6) (fun v8 => if 60 < i5 then some (-3, v8, v1) else some (i5, v8, v1))) f i u) (R := fun j b u => RM 60 j b u ∧ gIn b < 2 ^ 31) (m := 60) (fun j u => ob1 (f_X6_copyRow N v1 u) (fun v8 => if 60 < nI j then some (-3, v8, v1) else some (nI j, v8, v1)))
    (fun f b u hu => by
      show f_X6_dry_L13 N _ (f + 1) (nI 61) u = _
      rw [f_X6_dry_L13, if_pos (by decide)])
    (fun f j b u hj hu => by
      obtain ⟨⟨hu, hb, hbh⟩, hg⟩ := hu
      show (gDy b = true → f_X6_dry_L13 N _ (f + 1) (nI j) u = _) ∧ (gDy b = false → ∃ s', f_X6_dry_L13 N _ (f + 1) (nI j) u = f_X6_dry_L13 N _ f (nI (j + 1)) s' ∧ _)
      have dd := (dec b hg).2
      rw [f_X6_dry_L13, if_neg (show ¬ (60 : Int32) < nI j from nI_nlt (a := 60) hj (by decide)), X6_inkOfAll hu hb (show 9 ≤ N by omega), ob1_s, if_cg dd]
      refine ⟨fun e => by rw [if_pos e], fun e => ?_⟩
      obtain ⟨u', p1, p2⟩ := X6_goes1 hu hb (show 9 ≤ N by omega) (by omega)
      rw [if_neg (by rw [e]; decide), p1, ob1_s, nI_1, lj_s]
      exact ⟨u', rfl, ⟨p2, WF_Ph hb, by rw [gPh_h]; omega⟩, gIn_lt (WF_Ph hb)⟩)
    (f := N) (a := a) (s := s) (by omega) ⟨⟨hs, hw, by omega⟩, gIn_lt hw⟩
  have c3 : f_X6_dry_L13 N (fun i5 v6 => ob1 (f_X6_copyRow N v1 v6) (fun v8 => if 60 < i5 then some (-3, v8, v1) else some (i5, v8, v1))) N 0 s = _ := c3
  obtain ⟨v8, c4, c5⟩ := X6_copyRow (N := N) (by omega) v1 s1
  have hl := gSn_le gDy 60 a
  rw [b1, ob1_s, e1, ob2_s, c1, ob1_s, lj_s, c3, c4, ob1_s, rs60 _ hl _ _ rfl]
  refine ⟨_, _, v8, v1, rfl, ?_, RP_at hv hs hw hh (fun i hi => (c5 i hi).trans (c2 i hi))⟩
  unfold gRs
  split <;> rfl
theorem Y_keep {N h : Nat} {v k : PV} {s t : Nat → Int32} (b c : Int32) (hr : RP h v s) (hN : 100 ≤ N) : ∃ k' t', f_X5_keep b v k = some (1, 1, k') ∧ f_X6_keep N s t c = some (1, t', 1) ∧ RP h k' t' := by
  obtain ⟨a, hv, hs, hw, hh⟩ := hr
  obtain ⟨k', e1, e2⟩ := X1_become (v := k) hv hw.1
  obtain ⟨t', e3, e4⟩ := lpR (L := fun f i (u : Nat → Int32) => f_X6_keep_L2 s (fun v1 => some (1, v1, 1)) f i u) (k := fun u => some ((1 : Int32), u, (1 : Int32))) (n := 43) (fun j (_ : Unit) (u : Nat → Int32) => ∀ i, i < j → u i = s i) (fun _ u => u)
    (fun f _ u _ => by show f_X6_keep_L2 s _ (f + 1) (nI 43) u = _; rw [f_X6_keep_L2, if_pos (by decide)])
    (fun f j _ u hj hu => by
      show ∃ s', f_X6_keep_L2 s _ (f + 1) (nI j) u = f_X6_keep_L2 s _ f (nI (j + 1)) s' ∧ _
      rw [f_X6_keep_L2, if_neg (show ¬ (43 : Int32) ≤ nI j from nI_ge hj (by decide)), rdA_nI hj (by decide), ckA_nI hj (by decide), nI_clamp (by omega), nI_1, lj_s, lj_s]
      refine ⟨_, rfl, fun i hi => ?_⟩
      by_cases e : i = j
      · rw [e, upd_s]
      · rw [upd_n e]; exact hu i (by omega))
    43 0 N () t (by omega) (by omega) (fun i hi => absurd hi (by omega))
  refine ⟨k', t', ?_, ?_, RP_at e2 hs hw hh e4⟩
  · unfold f_X5_keep
    rw [e1, ob1_s]
  · unfold f_X6_keep
    rw [lj_s]
    exact e3
theorem Y_again {N h : Nat} {v k : PV} {s t : Nat → Int32} {b c : Int32} (hr : RP h v s) (hb : b = c ∧ (¬ b = 0 → RP h k t)) (hN : 100 ≤ N) : Y2 (RP h) (f_X5_again b v k) (f_X6_again N s t c) := by
  obtain ⟨rfl, hk⟩ := hb
  unfold f_X5_again f_X6_again
  by_cases q : b = 0
  · rw [if_pos q, if_pos q]
    exact Y2.mk _ _ _ rfl rfl hr
  · obtain ⟨a, hv, hs, hw, hh⟩ := hk q
    obtain ⟨k', e1, e2⟩ := X1_become (v := v) hv hw.1
    obtain ⟨t', e3, e4⟩ := lpR (L := fun f i (u : Nat → Int32) => f_X6_again_L12 t (fun v2 => lj (v2 0) (fun t4 => some (t4, v2))) f i u) (k := fun u => some (u 0, u)) (n := 43) (fun j (_ : Unit) (u : Nat → Int32) => ∀ i, i < j → u i = t i) (fun _ u => u)
      (fun f _ u _ => by show f_X6_again_L12 t _ (f + 1) (nI 43) u = _; rw [f_X6_again_L12, if_pos (by decide)]; rfl)
      (fun f j _ u hj hu => by
        show ∃ s', f_X6_again_L12 t _ (f + 1) (nI j) u = f_X6_again_L12 t _ f (nI (j + 1)) s' ∧ _
        rw [f_X6_again_L12, if_neg (show ¬ (43 : Int32) ≤ nI j from nI_ge hj (by decide)), rdA_nI hj (by decide), ckA_nI hj (by decide), nI_clamp (by omega), nI_1, lj_s, lj_s]
        refine ⟨_, rfl, fun i hi => ?_⟩
        by_cases e : i = j
        · rw [e, upd_s]
        · rw [upd_n e]; exact hu i (by omega))
      43 0 N () s (by omega) (by omega) (fun i hi => absurd hi (by omega))
    have e3 : f_X6_again_L12 t (fun v2 => lj (v2 0) (fun t4 => some (t4, v2))) N 0 s = _ := e3
    have hs' := CM_at hs hw.1 e4
    rw [if_neg q, if_neg q, e1, ob1_s, lj_s, lj_s, e3, e2.1, hs'.1]
    exact Y2.mk _ _ _ rfl rfl ⟨a, e2, hs', hw, hh⟩
