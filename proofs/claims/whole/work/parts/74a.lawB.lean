/-! LAW 0: worlds in blocks -/
abbrev va_B : Type := Bool × va_W × va_W
def oO : List va_B → va_W
  | [] => []
  | b :: t => b.2.1 ++ oO t
def oS : List va_B → va_W
  | [] => []
  | (true, o, _) :: t => o ++ oS t
  | (false, _, _) :: t => oS t
def oR : List va_B → va_W
  | [] => []
  | (true, _, _) :: t => oR t
  | (false, o, _) :: t => o ++ oR t
def oN : List va_B → va_W
  | [] => []
  | (true, _, n) :: t => n ++ oN t
  | (false, _, _) :: t => oN t
def oX : List va_B → va_W
  | [] => []
  | (true, _, n) :: t => n ++ oX t
  | (false, o, _) :: t => o ++ oX t
def okF : List va_B → Prop
  | [] => True
  | b :: t => (b.1 = true → b.2.2.map Prod.fst = b.2.1.map Prod.fst) ∧ okF t
theorem oS_in : ∀ (L : List va_B) (q : Nat × va_E), q ∈ oS L → q ∈ oO L := by
  intro L
  induction L with
  | nil => intro q h; exact h
  | cons b t ih =>
    obtain ⟨s, o, n⟩ := b
    intro q h
    cases s with
    | true => exact (List.mem_append.mp h).elim (fun h => List.mem_append.mpr (Or.inl h)) (fun h => List.mem_append.mpr (Or.inr (ih q h)))
    | false => exact List.mem_append.mpr (Or.inr (ih q h))
theorem oR_in : ∀ (L : List va_B) (q : Nat × va_E), q ∈ oR L → q ∈ oO L := by
  intro L
  induction L with
  | nil => intro q h; exact h
  | cons b t ih =>
    obtain ⟨s, o, n⟩ := b
    intro q h
    cases s with
    | false => exact (List.mem_append.mp h).elim (fun h => List.mem_append.mpr (Or.inl h)) (fun h => List.mem_append.mpr (Or.inr (ih q h)))
    | true => exact List.mem_append.mpr (Or.inr (ih q h))
theorem oX_in : ∀ (L : List va_B) (q : Nat × va_E), q ∈ oX L → q ∈ oN L ∨ q ∈ oR L := by
  intro L
  induction L with
  | nil => intro q h; exact Or.inl h
  | cons b t ih =>
    obtain ⟨s, o, n⟩ := b
    intro q h
    cases s with
    | true =>
      rcases List.mem_append.mp h with h | h
      · exact Or.inl (List.mem_append.mpr (Or.inl h))
      · exact (ih q h).imp (fun h => List.mem_append.mpr (Or.inr h)) (fun h => h)
    | false =>
      rcases List.mem_append.mp h with h | h
      · exact Or.inr (List.mem_append.mpr (Or.inl h))
      · exact (ih q h).imp (fun h => h) (fun h => List.mem_append.mpr (Or.inr h))
theorem oX_fst : ∀ (L : List va_B), okF L → (oX L).map Prod.fst = (oO L).map Prod.fst := by
  intro L
  induction L with
  | nil => intro _; rfl
  | cons b t ih =>
    obtain ⟨s, o, n⟩ := b
    intro h
    obtain ⟨h1, h2⟩ := h
    cases s with
    | true => show (n ++ oX t).map Prod.fst = (o ++ oO t).map Prod.fst; rw [List.map_append, List.map_append, ih h2]; rw [show n.map Prod.fst = o.map Prod.fst from h1 rfl]
    | false => show (o ++ oX t).map Prod.fst = (o ++ oO t).map Prod.fst; rw [List.map_append, List.map_append, ih h2]
theorem dv_l {A : Nat → Prop} {x y : va_W} (h : va_D A (x ++ y)) : va_D A x := by
  have g : ∀ {i : Nat} {p : Nat × va_E}, x[i]? = some p → (x ++ y)[i]? = some p := fun {i p} hp => by
    rw [List.getElem?_append_left (List.getElem?_eq_some_iff.mp hp).1]; exact hp
  exact ⟨fun i j p q hi hj e => h.1 i j p q (g hi) (g hj) e, fun k q hk => h.2 k q (g hk)⟩
theorem dv_g {x y : va_W} {i : Nat} {p : Nat × va_E} (hp : y[i]? = some p) : (x ++ y)[x.length + i]? = some p := by
  rw [List.getElem?_append_right (Nat.le_add_right _ _), Nat.add_sub_cancel_left]
  exact hp
theorem dv_r {A : Nat → Prop} {x y : va_W} (h : va_D A (x ++ y)) : va_D A y :=
  ⟨fun i j p q hi hj e => Nat.add_left_cancel (h.1 _ _ p q (dv_g hi) (dv_g hj) e), fun k q hk => h.2 _ q (dv_g hk)⟩
theorem dv_c {A : Nat → Prop} {x y : va_W} (h : va_D A (x ++ y)) {p q : Nat × va_E} (hp : p ∈ x) (hq : q ∈ y) : ¬ p.1 = q.1 := by
  intro e
  obtain ⟨i, hi⟩ := List.mem_iff_getElem?.mp hp
  obtain ⟨j, hj⟩ := List.mem_iff_getElem?.mp hq
  have hl := (List.getElem?_eq_some_iff.mp hi).1
  have h1 : (x ++ y)[i]? = some p := by rw [List.getElem?_append_left hl]; exact hi
  have := h.1 _ _ p q h1 (dv_g hj) e
  omega
theorem dv_m {A : Nat → Prop} {x y : va_W} (hx : va_D A x) (hy : va_D A y) (hc : ∀ p q, p ∈ x → q ∈ y → ¬ p.1 = q.1) : va_D A (x ++ y) := by
  have g : ∀ {i : Nat} {p : Nat × va_E}, (x ++ y)[i]? = some p → (i < x.length ∧ x[i]? = some p) ∨ (x.length ≤ i ∧ y[i - x.length]? = some p) := fun {i p} hp => by
    by_cases hl : i < x.length
    · rw [List.getElem?_append_left hl] at hp; exact Or.inl ⟨hl, hp⟩
    · rw [List.getElem?_append_right (by omega)] at hp; exact Or.inr ⟨by omega, hp⟩
  refine ⟨fun i j p q hi hj e => ?_, fun k q hk => ?_⟩
  · rcases g hi with ⟨a1, a2⟩ | ⟨a1, a2⟩
    · rcases g hj with ⟨b1, b2⟩ | ⟨b1, b2⟩
      · exact hx.1 i j p q a2 b2 e
      · exact absurd e (hc p q (List.mem_of_getElem? a2) (List.mem_of_getElem? b2))
    · rcases g hj with ⟨b1, b2⟩ | ⟨b1, b2⟩
      · exact absurd e.symm (hc q p (List.mem_of_getElem? b2) (List.mem_of_getElem? a2))
      · have := hy.1 _ _ p q a2 b2 e
        omega
  · rcases g hk with ⟨a1, a2⟩ | ⟨a1, a2⟩
    · exact hx.2 _ q a2
    · exact hy.2 _ q a2
theorem oS_D {A : Nat → Prop} : ∀ (L : List va_B), va_D A (oO L) → va_D A (oS L) ∧ ∀ p q, p ∈ oS L → q ∈ oR L → ¬ p.1 = q.1 := by
  intro L
  induction L with
  | nil => intro h; exact ⟨h, fun p q hp => (by cases hp)⟩
  | cons b t ih =>
    obtain ⟨s, o, n⟩ := b
    intro h
    have h : va_D A (o ++ oO t) := h
    obtain ⟨i1, i2⟩ := ih (dv_r h)
    cases s with
    | true =>
      refine ⟨dv_m (dv_l h) i1 (fun p q hp hq => dv_c h hp (oS_in t q hq)), fun p q hp hq => ?_⟩
      rcases List.mem_append.mp hp with hp | hp
      · exact dv_c h hp (oR_in t q hq)
      · exact i2 p q hp hq
    | false =>
      refine ⟨i1, fun p q hp hq => ?_⟩
      rcases List.mem_append.mp hq with hq | hq
      · exact fun e => dv_c h hq (oS_in t p hp) e.symm
      · exact i2 p q hp hq
theorem oS_P {D : va_G} {cl : List vw_C} {H : Heap} {L : List va_B} (h : va_P D cl (oO L) H) : va_P D cl (oS L) H := by
  intro k q hk
  obtain ⟨i, hi⟩ := List.mem_iff_getElem?.mp (oS_in L q (List.mem_of_getElem? hk))
  exact h i q hi
theorem oS_A {A : Nat → Prop} {H0 H : Heap} {locs : List Loc} {L : List va_B} (hD : va_D A (oO L)) (hS : va_S A H0 H locs) (hA : ∀ q, H0.size ≤ q → A q) : ∀ q, va_A (oS L) H.size q → A q := by
  intro q h
  rcases h with ⟨k, e, h⟩ | h
  · obtain ⟨i, hi⟩ := List.mem_iff_getElem?.mp (oS_in L _ (List.mem_of_getElem? h))
    exact hD.2 i _ hi
  · exact hA q (Nat.le_trans hS.1 h)
theorem jnB {A0 : Nat → Prop} {D : va_G} {cl : List vw_C} {L : List va_B} {H H1 : Heap} (hP : va_P D cl (oO L) H) (hD : va_D A0 (oO L)) (hok : okF L) (hk : ∀ q : Nat, q < H.size → ¬ va_A (oS L) H.size q → H1[q]? = H[q]?) (hP1 : va_P D cl (oN L) H1) : va_P D cl (oX L) H1 ∧ va_D A0 (oX L) := by
  refine ⟨fun k q hq => ?_, hD.fst (oX_fst L hok)⟩
  rcases oX_in L q (List.mem_of_getElem? hq) with h | h
  · obtain ⟨i, hi⟩ := List.mem_iff_getElem?.mp h
    exact hP1 i q hi
  · obtain ⟨i, hi⟩ := List.mem_iff_getElem?.mp (oR_in L q h)
    have hl := (hP i q hi).lt
    refine (hP i q hi).kept (hk q.1 hl (fun hA => ?_))
    rcases hA with ⟨j, e, hj⟩ | hge
    · exact (oS_D L hD).2 (q.1, e) q (List.mem_of_getElem? hj) h rfl
    · omega
section KBR
variable {p : Program} {l : Launch} {e : Env} {R : Room} {s : State} {m : MethodId} {args : Array Value} {below : List Frame} {meth : Method} {c : Code} {H : Heap} {locs : List Loc} {cells slots : Nat} {Q : State → Prop}
variable {pc : Nat} {ls : Array Slot} {rest st0 As : List Value} {a : Array Value} {A : Nat → Prop} {E : Nat → Nat} {D : va_G} {C : Nat → ClassId} {L : List va_B}
theorem kpreB {b ci : Nat} {fs : List Value} {q : vw_C} {Cn : String} (hP : va_P D vwCl (oO L) H) (hD : va_D A (oO L)) (hK : va_K D vwCl (tyL C) s) (hS : va_S A s.heap H locs) (hE : SE E A s s.heap) (hA : ∀ q, s.heap.size ≤ q → A q) (he : (oS L)[0]? = some (b, .inr (ci, fs))) (hc : vwCl[ci]? = some q) (hq : q.1 = Cn) : PreV s H Cn b (PC E D C (.ref b :: As) (oS L) H.size) As := by
  subst hq
  refine ⟨PC_blind, va_recv hK (oS_P hP) hc he, fun U hU hW => ⟨rfl, by rw [hU], by rw [hU]; exact oS_P hP, va_K.moved hW.alike hK, (oS_D L hD).1.weaken (fun _ _ _ _ => trivial), ?_⟩⟩
  rw [hU]
  exact hE.call hS (oS_A hD hS hA) hW
theorem kbi {r : Int32} (hr : va_Run p l e R s m args below meth c H locs cells slots 0 0 (F0 m pc ls st0) rest (QI D C (oS L) (oN L) H.size r a) (va_A (oS L) H.size)) (hP : va_P D vwCl (oO L) H) (hD : va_D A (oO L)) (hS : va_S A s.heap H locs) (hA : ∀ q, s.heap.size ≤ q → A q) (hok : okF L)
    (kk : ∀ (H1 : Heap) (locs1 : List Loc), va_P D vwCl (oX L) H1 → va_D A (oX L) → va_S A s.heap H1 locs1 → W p l e R s m args below meth c H1 locs1 cells slots Q (F0 m (pc + 3) ls (.int r :: rest))) : W p l e R s m args below meth c H locs cells slots Q (F0 m pc ls st0) := by
  have hFc := oS_A hD hS hA
  refine va_calli hr hS (fun q _ h => hFc q h) hFc (fun r1 u t H1 locs1 ht hvm hw hB hz1 hk1 hS1 => ?_)
  subst hw
  obtain ⟨hP1, -, -⟩ := hB
  rw [ht] at hP1
  obtain ⟨hP2, hD2⟩ := jnB hP hD hok hk1 hP1
  exact kk H1 locs1 hP2 hD2 hS1
theorem kbl {r : Int64} (hr : va_Run p l e R s m args below meth c H locs cells slots 0 0 (F0 m pc ls st0) rest (QL D C (oS L) (oN L) H.size r a) (va_A (oS L) H.size)) (hP : va_P D vwCl (oO L) H) (hD : va_D A (oO L)) (hS : va_S A s.heap H locs) (hA : ∀ q, s.heap.size ≤ q → A q) (hok : okF L)
    (kk : ∀ (H1 : Heap) (locs1 : List Loc), va_P D vwCl (oX L) H1 → va_D A (oX L) → va_S A s.heap H1 locs1 → W p l e R s m args below meth c H1 locs1 cells slots Q (F0 m (pc + 3) ls (.long r :: rest))) : W p l e R s m args below meth c H locs cells slots Q (F0 m pc ls st0) := by
  have hFc := oS_A hD hS hA
  refine va_calll hr hS (fun q _ h => hFc q h) hFc (fun r1 u t H1 locs1 ht hvm hw hB hz1 hk1 hS1 => ?_)
  subst hw
  obtain ⟨hP1, -, -⟩ := hB
  rw [ht] at hP1
  obtain ⟨hP2, hD2⟩ := jnB hP hD hok hk1 hP1
  exact kk H1 locs1 hP2 hD2 hS1
end KBR
