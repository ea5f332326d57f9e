abbrev vwCl : List vw_C := [(RX0, TX0, 6), (RX1, TX1, 10), (RX2, TX2, 3), (RX3, TX3, 4), (RX4, TX4, 6), (RX5, TX5, 11), (RX6, TX6, 28)]
/-! My own small kit: pure words (reads, guards, binds), worlds in places, one row a call. -/
def rdA {α β : Type} (f : Nat → α) (n : Nat) (i : Int32) (k : α → Option β) : Option β := if i < 0 ∨ n ≤ i.toNatClampNeg then none else k (f i.toNatClampNeg)
theorem rdA_e {α β : Type} {f : Nat → α} {n : Nat} {i : Int32} {k : α → Option β} {o : β} (h : rdA f n i k = some o) : vp_in i n ∧ k (f i.toNatClampNeg) = some o := by
  unfold rdA at h
  by_cases hc : i < 0 ∨ n ≤ i.toNatClampNeg
  · rw [if_pos hc] at h; cases h
  · rw [if_neg hc] at h; exact ⟨hc, h⟩
theorem rdA_nI {α β : Type} {f : Nat → α} {n j : Nat} {k : α → Option β} (h : j < n) (hn : n < 2 ^ 31) : rdA f n (nI j) k = k (f j) := by
  unfold rdA
  rw [if_neg (nI_in h hn), nI_clamp (Nat.lt_trans h hn)]
def ckA {β : Type} (n : Nat) (i : Int32) (x : Option β) : Option β := if i < 0 ∨ n ≤ i.toNatClampNeg then none else x
theorem ckA_e {β : Type} {n : Nat} {i : Int32} {x : Option β} {o : β} (h : ckA n i x = some o) : vp_in i n ∧ x = some o := by
  unfold ckA at h
  by_cases hc : i < 0 ∨ n ≤ i.toNatClampNeg
  · rw [if_pos hc] at h; cases h
  · rw [if_neg hc] at h; exact ⟨hc, h⟩
theorem ckA_nI {β : Type} {n j : Nat} {x : Option β} (h : j < n) (hn : n < 2 ^ 31) : ckA n (nI j) x = x := by
  unfold ckA
  rw [if_neg (nI_in h hn)]
/-- a guard -/
def gdP {β : Type} (c : Prop) [Decidable c] (x : Option β) : Option β := if c then x else none
theorem gdP_e {β : Type} {c : Prop} [Decidable c] {x : Option β} {o : β} (h : gdP c x = some o) : c ∧ x = some o := by
  unfold gdP at h
  by_cases hc : c
  · rw [if_pos hc] at h; exact ⟨hc, h⟩
  · rw [if_neg hc] at h; cases h
theorem gdP_t {β : Type} {c : Prop} [Decidable c] {x : Option β} (h : c) : gdP c x = x := if_pos h
theorem if_te {ρ : Type} {c : Prop} [Decidable c] {x y o : ρ} (hc : c) (h : (if c then x else y) = o) : x = o := by rw [if_pos hc] at h; exact h
theorem if_fe {ρ : Type} {c : Prop} [Decidable c] {x y o : ρ} (hc : ¬ c) (h : (if c then x else y) = o) : y = o := by rw [if_neg hc] at h; exact h
/-- calls -/
def ob1 {α β : Type} (x : Option α) (k : α → Option β) : Option β := match x with
  | none => none
  | some a => k a
theorem ob1_e {α β : Type} {x : Option α} {k : α → Option β} {o : β} (h : ob1 x k = some o) : ∃ a, x = some a ∧ k a = some o := by
  cases x with
  | none => cases h
  | some a => exact ⟨a, rfl, h⟩
theorem ob1_s {α β : Type} (a : α) (k : α → Option β) : ob1 (some a) k = k a := rfl
def ob2 {α β γ : Type} (x : Option (α × β)) (k : α → β → Option γ) : Option γ := match x with
  | none => none
  | some q => k q.1 q.2
theorem ob2_e {α β γ : Type} {x : Option (α × β)} {k : α → β → Option γ} {o : γ} (h : ob2 x k = some o) : ∃ a b, x = some (a, b) ∧ k a b = some o := by
  cases x with
  | none => cases h
  | some q => exact ⟨q.1, q.2, rfl, h⟩
theorem ob2_s {α β γ : Type} (a : α) (b : β) (k : α → β → Option γ) : ob2 (some (a, b)) k = k a b := rfl
def ob3 {α β γ δ : Type} (x : Option (α × β × γ)) (k : α → β → γ → Option δ) : Option δ := match x with
  | none => none
  | some q => k q.1 q.2.1 q.2.2
theorem ob3_e {α β γ δ : Type} {x : Option (α × β × γ)} {k : α → β → γ → Option δ} {o : δ} (h : ob3 x k = some o) : ∃ a b c, x = some (a, b, c) ∧ k a b c = some o := by
  cases x with
  | none => cases h
  | some q => exact ⟨q.1, q.2.1, q.2.2, rfl, h⟩
theorem ob3_s {α β γ δ : Type} (a : α) (b : β) (c : γ) (k : α → β → γ → Option δ) : ob3 (some (a, b, c)) k = k a b c := rfl
def ob4 {α β γ δ ε : Type} (x : Option (α × β × γ × δ)) (k : α → β → γ → δ → Option ε) : Option ε := match x with
  | none => none
  | some q => k q.1 q.2.1 q.2.2.1 q.2.2.2
theorem ob4_e {α β γ δ ε : Type} {x : Option (α × β × γ × δ)} {k : α → β → γ → δ → Option ε} {o : ε} (h : ob4 x k = some o) : ∃ a b c d, x = some (a, b, c, d) ∧ k a b c d = some o := by
  cases x with
  | none => cases h
  | some q => exact ⟨q.1, q.2.1, q.2.2.1, q.2.2.2, rfl, h⟩
theorem ob4_s {α β γ δ ε : Type} (a : α) (b : β) (c : γ) (d : δ) (k : α → β → γ → δ → Option ε) : ob4 (some (a, b, c, d)) k = k a b c d := rfl
def ob5 {α β γ δ ε ζ : Type} (x : Option (α × β × γ × δ × ε)) (k : α → β → γ → δ → ε → Option ζ) : Option ζ := match x with
  | none => none
  | some q => k q.1 q.2.1 q.2.2.1 q.2.2.2.1 q.2.2.2.2
theorem ob5_e {α β γ δ ε ζ : Type} {x : Option (α × β × γ × δ × ε)} {k : α → β → γ → δ → ε → Option ζ} {o : ζ} (h : ob5 x k = some o) : ∃ a b c d e, x = some (a, b, c, d, e) ∧ k a b c d e = some o := by
  cases x with
  | none => cases h
  | some q => exact ⟨q.1, q.2.1, q.2.2.1, q.2.2.2.1, q.2.2.2.2, rfl, h⟩
theorem ob5_s {α β γ δ ε ζ : Type} (a : α) (b : β) (c : γ) (d : δ) (e : ε) (k : α → β → γ → δ → ε → Option ζ) : ob5 (some (a, b, c, d, e)) k = k a b c d e := rfl
/-- joins: what two ways go on with -/
def lj {κ ρ : Type} (k : κ) (f : κ → ρ) : ρ := f k
theorem lj_e {κ ρ : Type} {k : κ} {f : κ → ρ} {o : ρ} (h : lj k f = o) : ∃ j : κ, j = k ∧ f j = o := ⟨k, rfl, h⟩
/-- a number gets a name -/
theorem nm_ex {α : Type} (e : α) : ∃ x : α, x = e := ⟨e, rfl⟩
/-- 0 or 1 -/
def zb (r : Int32) : Prop := narrow .boolean (.int r) = .int r ∧ fits .boolean (.int r) = true
theorem zb_0 : zb 0 := ⟨rfl, rfl⟩
theorem zb_1 : zb 1 := ⟨rfl, rfl⟩
theorem zb_of {r : Int32} (h : r = 0 ∨ r = 1) : zb r := by rcases h with rfl | rfl <;> exact ⟨rfl, rfl⟩
/-! worlds -/
/-- the arrays' classes -/
abbrev tyL (C : Nat → ClassId) : List (ClassId × FieldType) := [(C 0, .int), (C 1, .byte), (C 2, .long), (C 3, .object "TravelMarks$Sheet"), (C 4, .object "TravelMarks$Shelf")]
/-- new cells in the places of old ones -/
def pAt (W : va_W) (is : List Nat) (xs : va_W) : va_W := (is.zip xs).foldl (fun w q => w.set q.1 q.2) W
theorem pAt_len : ∀ (is : List Nat) (xs W : va_W), (pAt W is xs).length = W.length := by
  intro is
  induction is with
  | nil => intro xs W; rfl
  | cons i is ih =>
    intro xs W
    cases xs with
    | nil => rfl
    | cons x xs => show (pAt (W.set i x) is xs).length = _; rw [ih, List.length_set]
theorem pAt_get : ∀ (is : List Nat) (xs W : va_W) (k : Nat) (q : Nat × va_E), (pAt W is xs)[k]? = some q → (∃ j : Nat, is[j]? = some k ∧ xs[j]? = some q) ∨ (W[k]? = some q ∧ ∀ j : Nat, is[j]? = some k → xs.length ≤ j) := by
  intro is
  induction is with
  | nil => intro xs W k q h; exact Or.inr ⟨h, fun j hj => by simp at hj⟩
  | cons i is ih =>
    intro xs W k q h
    cases xs with
    | nil => exact Or.inr ⟨h, fun j _ => Nat.zero_le _⟩
    | cons x xs =>
      rcases ih xs (W.set i x) k q h with ⟨j, h1, h2⟩ | ⟨h1, h2⟩
      · exact Or.inl ⟨j + 1, by simpa using h1, by simpa using h2⟩
      · by_cases hik : i = k
        · subst hik
          rw [List.getElem?_set] at h1
          simp only [if_true] at h1
          split at h1
          · exact Or.inl ⟨0, rfl, h1⟩
          · cases h1
        · rw [List.getElem?_set_ne hik] at h1
          refine Or.inr ⟨h1, fun j hj => ?_⟩
          cases j with
          | zero => exact absurd (Option.some.inj hj) hik
          | succ j =>
            have := h2 j (by simpa using hj)
            simp only [List.length_cons]
            omega
theorem pAt_fst : ∀ (is : List Nat) (xs W : va_W), (∀ (j i : Nat) (q : Nat × va_E), is[j]? = some i → xs[j]? = some q → ∃ q0, W[i]? = some q0 ∧ q0.1 = q.1) → (pAt W is xs).map Prod.fst = W.map Prod.fst := by
  intro is
  induction is with
  | nil => intro xs W _; rfl
  | cons i is ih =>
    intro xs W h
    cases xs with
    | nil => rfl
    | cons x xs =>
      have e : (W.set i x).map Prod.fst = W.map Prod.fst := by
        obtain ⟨q0, h1, h2⟩ := h 0 i x rfl rfl
        apply List.ext_getElem?
        intro k
        rw [List.getElem?_map, List.getElem?_map, List.getElem?_set]
        by_cases hik : i = k
        · subst hik
          have hl : i < W.length := (List.getElem?_eq_some_iff.mp h1).1
          simp only [if_true, hl]
          rw [h1]
          simp [h2]
        · simp [hik]
      show (pAt (W.set i x) is xs).map Prod.fst = _
      rw [ih xs (W.set i x), e]
      intro j i2 q hj hq
      obtain ⟨q0, h1, h2⟩ := h (j + 1) i2 q (by simpa using hj) (by simpa using hq)
      have hl : i2 < W.length := (List.getElem?_eq_some_iff.mp h1).1
      by_cases hik : i = i2
      · subst hik
        obtain ⟨q1, h3, h4⟩ := h 0 i x rfl rfl
        rw [h1] at h3
        cases h3
        exact ⟨x, by rw [List.getElem?_set]; simp [hl], by rw [← h4, h2]⟩
      · exact ⟨q0, by rw [List.getElem?_set_ne hik]; exact h1, h2⟩
theorem va_D.fst {A : Nat → Prop} {W W' : va_W} (h : va_D A W) (e : W'.map Prod.fst = W.map Prod.fst) : va_D A W' := by
  have g : ∀ (k : Nat) (q : Nat × va_E), W'[k]? = some q → ∃ q0, W[k]? = some q0 ∧ q0.1 = q.1 := by
    intro k q hk
    have h1 : (W'.map Prod.fst)[k]? = some q.1 := by rw [List.getElem?_map, hk]; rfl
    rw [e, List.getElem?_map] at h1
    cases hw : W[k]? with
    | none => rw [hw] at h1; cases h1
    | some q0 => rw [hw] at h1; exact ⟨q0, rfl, Option.some.inj h1⟩
  refine ⟨fun i j p q hi hj hpq => ?_, fun k q hk => ?_⟩
  · obtain ⟨p0, a1, a2⟩ := g i p hi
    obtain ⟨q0, b1, b2⟩ := g j q hj
    exact h.1 i j p0 q0 a1 b1 (by rw [a2, b2, hpq])
  · obtain ⟨q0, b1, b2⟩ := g k q hk
    rw [← b2]
    exact h.2 k q0 b1
theorem jn_at {is : List Nat} {W wc : va_W} (hC : is.map (fun i => W[i]?) = wc.map some) (j : Nat) (q : Nat × va_E) (hq : wc[j]? = some q) : ∃ i, is[j]? = some i ∧ W[i]? = some q := by
  have h1 : (is.map (fun i => W[i]?))[j]? = some (some q) := by rw [hC, List.getElem?_map, hq]; rfl
  rw [List.getElem?_map] at h1
  cases hi : is[j]? with
  | none => rw [hi] at h1; cases h1
  | some i => rw [hi] at h1; exact ⟨i, rfl, Option.some.inj h1⟩
theorem jn_at' {is : List Nat} {W wc : va_W} (hC : is.map (fun i => W[i]?) = wc.map some) (j i : Nat) (hi : is[j]? = some i) : ∃ q, wc[j]? = some q ∧ W[i]? = some q := by
  have h1 : (wc.map some)[j]? = some (W[i]?) := by rw [← hC, List.getElem?_map, hi]; rfl
  rw [List.getElem?_map] at h1
  cases hw : wc[j]? with
  | none => rw [hw] at h1; cases h1
  | some q => rw [hw] at h1; exact ⟨q, rfl, (Option.some.inj h1).symm⟩
/-- behind a call: the callee's cells in their old places -/
theorem jn {A0 : Nat → Prop} {D : va_G} {cl : List vw_C} {W wc w1 W' : va_W} {H H1 : Heap} (hP : va_P D cl W H) (hD : va_D A0 W) (is : List Nat) (hC : is.map (fun i => W[i]?) = wc.map some) (ha : w1.map Prod.fst = wc.map Prod.fst)
    (hk : ∀ q : Nat, q < H.size → ¬ va_A wc H.size q → H1[q]? = H[q]?) (hP1 : va_P D cl w1 H1) (hW : pAt W is w1 = W') : va_P D cl W' H1 ∧ va_D A0 W' := by
  subst hW
  have hlen : w1.length = wc.length := by simpa using congrArg List.length ha
  have hf : ∀ (j : Nat) (q : Nat × va_E), w1[j]? = some q → ∃ q0, wc[j]? = some q0 ∧ q0.1 = q.1 := by
    intro j q hq
    have h1 : (wc.map Prod.fst)[j]? = some q.1 := by rw [← ha, List.getElem?_map, hq]; rfl
    rw [List.getElem?_map] at h1
    cases hw : wc[j]? with
    | none => rw [hw] at h1; cases h1
    | some q0 => rw [hw] at h1; exact ⟨q0, rfl, Option.some.inj h1⟩
  refine ⟨fun k q hq => ?_, hD.fst (pAt_fst is w1 W (fun j i q hj hq => ?_))⟩
  · rcases pAt_get is w1 W k q hq with ⟨j, h1, h2⟩ | ⟨h1, h2⟩
    · exact hP1 j q h2
    · have hl := (hP k q h1).lt
      refine (hP k q h1).kept (hk q.1 hl (fun hA => ?_))
      rcases hA with ⟨j, e, hj⟩ | hge
      · obtain ⟨i, g1, g2⟩ := jn_at hC j (q.1, e) hj
        have hki := hD.1 k i q (q.1, e) h1 g2 rfl
        subst hki
        have h3 := h2 j g1
        have h4 : j < wc.length := (List.getElem?_eq_some_iff.mp hj).1
        omega
      · omega
  · obtain ⟨q0, h1, h2⟩ := hf j q hq
    obtain ⟨q2, g1, g2⟩ := jn_at' hC j i hj
    rw [h1] at g1
    cases g1
    exact ⟨q0, g2, h2⟩
theorem sub_at {D : va_G} {cl : List vw_C} {W wc : va_W} {H : Heap} (hP : va_P D cl W H) (is : List Nat) (hC : is.map (fun i => W[i]?) = wc.map some) : va_P D cl wc H := by
  intro k q hk
  obtain ⟨i, -, h2⟩ := jn_at hC k q hk
  exact hP i q h2
theorem subD_at {A : Nat → Prop} {W wc : va_W} (hD : va_D A W) (is : List Nat) (hn : va_nd is = true) (hC : is.map (fun i => W[i]?) = wc.map some) : va_D A wc := hD.sub is hn hC
/-! what lies outside all worlds: tables, Strings, nest words -/
def tbLeast : Nat → Int32 := fun j => ([1, 0, 0, 0] : List Int32).getD j 0
def tbMost : Nat → Int32 := fun j => ([8, 9, 9, 99] : List Int32).getD j 0
def tbFirst : Nat → Int32 := fun j => ([3, 1, 5, 20] : List Int32).getD j 0
def tbAbove : Nat → Int32 := fun j => ([-1, 0, 0, 1, 2, 0] : List Int32).getD j 0
def tbBodies : Nat → Int32 := fun j => ([10, 11, 12, 13, 0, 20, 0, 0, 30, 0, 0, 31, 51, 0, 50, 0, 40, 41, 0, 0, 0, 0, 61, 60] : List Int32).getD j 0
def stW : List (Nat × String) := [(111, "mark"), (113, "ship"), (115, "snake"), (117, "anchor"), (119, "dragon"), (121, "name"), (76, "on"), (85, "ink"), (56, "touch"), (95, "with"), (123, "load"), (125, "fade"), (127, "tide"), (129, "chance")]
def stB : List (List Int32) := [[109, 97, 114, 107], [115, 104, 105, 112], [115, 110, 97, 107, 101], [97, 110, 99, 104, 111, 114], [100, 114, 97, 103, 111, 110], [110, 97, 109, 101], [111, 110], [105, 110, 107], [116, 111, 117, 99, 104], [119, 105, 116, 104], [108, 111, 97, 100], [102, 97, 100, 101], [116, 105, 100, 101], [99, 104, 97, 110, 99, 101]]
def stL : List Nat := [4, 4, 5, 6, 6, 4, 2, 3, 5, 4, 4, 4, 4, 6]
def neF : List (String × Nat × String × String × String × String) := [("TravelMarks$Tape", 101, "TravelMarks", "LAW_LEAST", "[I", "TravelMarks"), ("TravelMarks$Tape", 105, "TravelMarks", "LAW_MOST", "[I", "TravelMarks"), ("TravelMarks$Port", 37, "TravelMarks", "LAW_AT_FIRST", "[I", "TravelMarks"), ("TravelMarks$Deed", 47, "TravelMarks", "ABOVE", "[I", "TravelMarks")]
def neM : List (String × Nat × MethodName × String) := [("TravelMarks$Tape", 139, yX5_within, "TravelMarks"), ("TravelMarks$Port", 95, yX5_heldInk, "TravelMarks"), ("TravelMarks$Port", 88, yX5_has, "TravelMarks"), ("TravelMarks$Deed", 54, yX5_isKind, "TravelMarks"), ("TravelMarks", 56, yX3_init, "TravelMarks"), ("TravelMarks", 55, yX2_init, "TravelMarks"), ("TravelMarks", 34, yX0_init, "TravelMarks"), ("TravelMarks", 27, yX4_init, "TravelMarks")]
def SN (U : State) : Prop := (∀ q ∈ neF, va_Nw (.fieldLinkNest q.1 q.2.1 q.2.2.1 q.2.2.2.1 q.2.2.2.2.1 q.2.2.2.2.2) U) ∧ ∀ q ∈ neM, va_Nw (.methodLinkNest q.1 q.2.1 q.2.2.1 q.2.2.2) U
def tbs : List (String × String × Nat × (Nat → Int32)) := [("TravelMarks", "LAW_LEAST", 4, tbLeast), ("TravelMarks", "LAW_MOST", 4, tbMost), ("TravelMarks", "LAW_AT_FIRST", 4, tbFirst), ("TravelMarks", "ABOVE", 6, tbAbove), ("TravelMarks$Deed", "BODIES", 24, tbBodies)]
def ST (E : Nat → Nat) (A : Nat → Prop) (U : State) (H : Heap) : Prop := ∀ (k : Nat) (q : String × String × Nat × (Nat → Int32)), tbs[k]? = some q → va_Z q.1 q.2.1 "[I" (.ref (E k)) A U H ∧ va_T .int (E k) q.2.2.1 (fun j => .int (q.2.2.2 j)) A U H
def SS (E : Nat → Nat) (A : Nat → Prop) (U : State) (H : Heap) : Prop := vk_S 14 stL stB (fun i => E (10 + i)) (fun i => E (30 + i)) A U H ∧ va_Z "java/lang/String" "COMPACT_STRINGS" "Z" (.int 1) A U H ∧ va_Zq "jdk/internal/util/Preconditions" "SIOOBE_FORMATTER" "Ljava/util/function/BiFunction;" A U H ∧ va_AO "TravelMarks$Sheet" U ∧ va_AO "TravelMarks$Shelf" U
def SR (E : Nat → Nat) (U : State) : Prop := ∀ (k : Nat) (q : Nat × String), stW[k]? = some q → vk_R "TravelMarks$Tape" q.1 q.2 (E (10 + k)) U
def SE (E : Nat → Nat) (A : Nat → Prop) (U : State) (H : Heap) : Prop := SN U ∧ SR E U ∧ ST E A U H ∧ SS E A U H
theorem SE.same {E : Nat → Nat} {A : Nat → Prop} {u U : State} {H : Heap} (hv : U.vm = u.vm) (h : SE E A u H) : SE E A U H := by
  have hm : u.vm.Alike U.vm := by rw [hv]; exact Vm.Alike.refl _
  obtain ⟨⟨h1, h2⟩, h3, h4, h5, h6, h7, h8, h9⟩ := h
  exact ⟨⟨fun q hq => va_Nw.same rfl hv.symm (h1 q hq), fun q hq => va_Nw.same rfl hv.symm (h2 q hq)⟩, fun k q hq => vk_R.same hv (h3 k q hq), fun k q hq => ⟨(h4 k q hq).1.moved hm, (h4 k q hq).2.moved hm⟩, h5.moved hm, h6.moved hm, h7.moved hm, h8.moved hm, h9.moved hm⟩
theorem SE.call {E : Nat → Nat} {A B : Nat → Prop} {s U : State} {H : Heap} {locs : List Loc} (h : SE E A s s.heap) (hS : va_S A s.heap H locs) (hAB : ∀ q, B q → A q) (hW : s.WarmedH U.vm) : SE E B U H := by
  obtain ⟨⟨h1, h2⟩, h3, h4, h5, h6, h7, h8, h9⟩ := h
  have hm := hW.alike
  exact ⟨⟨fun q hq => va_Nw.warmF hW (h1 q hq), fun q hq => va_Nw.warmM hW (h2 q hq)⟩, fun k q hq => vk_R.warm hW (h3 k q hq), fun k q hq => ⟨(((h4 k q hq).1.kept hS.2.1).narrow hAB).moved hm, (((h4 k q hq).2.kept hS.2.1).narrow hAB).moved hm⟩, ((h5.kept hS.2.1).narrow hAB).moved hm, ((h6.kept hS.2.1).narrow hAB).moved hm, ((h7.kept hS.2.1).narrow hAB).moved hm, h8.moved hm, h9.moved hm⟩
/-! contracts -/
def PC (E : Nat → Nat) (D : va_G) (C : Nat → ClassId) (av : List Value) (w : va_W) (sz : Nat) : Array Value → State → Prop := va_Pc av (fun U => U.heap.size = sz ∧ va_P D vwCl w U.heap ∧ va_K D vwCl (tyL C) U ∧ va_D (fun _ => True) w ∧ SE E (va_A w sz) U U.heap)
theorem PC_blind {E : Nat → Nat} {D : va_G} {C : Nat → ClassId} {av : List Value} {w : va_W} {sz : Nat} : FrameBlind (PC E D C av w sz) := fun a U g mk q => by
  obtain ⟨q0, q1, q2, q3, q4, q5⟩ := q
  exact ⟨q0, q1, q2, va_K.moved (u := U) (U := U.calling g mk a) (Vm.Alike.refl U.vm) q3, q4, SE.same (u := U) (U := U.calling g mk a) rfl q5⟩
def BP (D : va_G) (C : Nat → ClassId) (w0 w1 : va_W) (sz : Nat) (_ : Unit) (t : State) : Prop := va_P D vwCl w1 t.heap ∧ va_K D vwCl (tyL C) t ∧ va_D (va_A w0 sz) w1
abbrev QI (D : va_G) (C : Nat → ClassId) (w0 w1 : va_W) (sz : Nat) (r : Int32) := va_Qi (fun (r' : Int32) (_ : Unit) => r' = r) (BP D C w0 w1 sz) (va_A w0 sz)
abbrev QZ (D : va_G) (C : Nat → ClassId) (w0 w1 : va_W) (sz : Nat) (r : Int32) := va_Qi (fun (r' : Int32) (_ : Unit) => r' = r ∧ zb r) (BP D C w0 w1 sz) (va_A w0 sz)
abbrev QL (D : va_G) (C : Nat → ClassId) (w0 w1 : va_W) (sz : Nat) (r : Int64) := va_Ql (fun (r' : Int64) (_ : Unit) => r' = r) (BP D C w0 w1 sz) (va_A w0 sz)
abbrev QV (D : va_G) (C : Nat → ClassId) (w0 w1 : va_W) (sz : Nat) := va_Qv (fun (_ : Unit) => True) (BP D C w0 w1 sz) (va_A w0 sz)
section KITR
variable {p : Program} {l : Launch} {e : Env} {R : Room} {s : State} {m : MethodId} {args : Array Value} {below : List Frame} {meth : Method} {c : Code} {H : Heap} {locs : List Loc} {cells slots : Nat} {Q : State → Prop}
variable {pc : Nat} {ls : Array Slot} {rest st0 As : List Value} {a : Array Value} {A : Nat → Prop} {E : Nat → Nat} {D : va_G} {C : Nat → ClassId} {Ww wc w1 Wx : va_W}
theorem kpre (hP : va_P D vwCl Ww H) (hD : va_D A Ww) (hK : va_K D vwCl (tyL C) s) (hS : va_S A s.heap H locs) (hE : SE E A s s.heap) (hA : ∀ q, s.heap.size ≤ q → A q) (is : List Nat) (hn : va_nd is = true) (hC : is.map (fun i => Ww[i]?) = wc.map some) : PreS s H (PC E D C As wc H.size) As := by
  refine ⟨PC_blind, fun U hU hW => ⟨rfl, by rw [hU], by rw [hU]; exact sub_at hP is hC, va_K.moved hW.alike hK, (subD_at hD is hn hC).weaken (fun _ _ _ _ => trivial), ?_⟩⟩
  rw [hU]
  exact hE.call hS (va_free hD hS hA is hC) hW
theorem kpreV {b ci : Nat} {fs : List Value} {q : vw_C} {Cn : String} (hP : va_P D vwCl Ww H) (hD : va_D A Ww) (hK : va_K D vwCl (tyL C) s) (hS : va_S A s.heap H locs) (hE : SE E A s s.heap) (hA : ∀ q, s.heap.size ≤ q → A q) (is : List Nat) (hn : va_nd is = true) (hC : is.map (fun i => Ww[i]?) = wc.map some) (q0 : Nat) (he : Ww[q0]? = some (b, .inr (ci, fs))) (hc : vwCl[ci]? = some q) (hq : q.1 = Cn) : PreV s H Cn b (PC E D C (.ref b :: As) wc H.size) As := by
  subst hq
  have h := kpre (As := .ref b :: As) hP hD hK hS hE hA is hn hC
  exact ⟨h.1, va_recv hK hP hc he, h.2⟩
theorem kci {r : Int32} (hr : va_Run p l e R s m args below meth c H locs cells slots 0 0 (F0 m pc ls st0) rest (QI D C wc w1 H.size r a) (va_A wc H.size)) (hP : va_P D vwCl Ww H) (hD : va_D A Ww) (hS : va_S A s.heap H locs) (hA : ∀ q, s.heap.size ≤ q → A q) (is : List Nat) (hC : is.map (fun i => Ww[i]?) = wc.map some) (ha : w1.map Prod.fst = wc.map Prod.fst) (hW : pAt Ww is w1 = Wx)
    (kk : ∀ (H1 : Heap) (locs1 : List Loc), va_P D vwCl Wx H1 → va_D A Wx → va_S A s.heap H1 locs1 → W p l e R s m args below meth c H1 locs1 cells slots Q (F0 m (pc + 3) ls (.int r :: rest))) : W p l e R s m args below meth c H locs cells slots Q (F0 m pc ls st0) := by
  have hFc := va_free hD hS hA is hC
  refine va_calli hr hS (fun q _ h => hFc q h) hFc (fun r1 u t H1 locs1 ht hvm hw hB hz1 hk1 hS1 => ?_)
  subst hw
  obtain ⟨hP1, -, -⟩ := hB
  rw [ht] at hP1
  obtain ⟨hP2, hD2⟩ := jn hP hD is hC ha hk1 hP1 hW
  exact kk H1 locs1 hP2 hD2 hS1
theorem kcz {r : Int32} (hr : va_Run p l e R s m args below meth c H locs cells slots 0 0 (F0 m pc ls st0) rest (QZ D C wc w1 H.size r a) (va_A wc H.size)) (hP : va_P D vwCl Ww H) (hD : va_D A Ww) (hS : va_S A s.heap H locs) (hA : ∀ q, s.heap.size ≤ q → A q) (is : List Nat) (hC : is.map (fun i => Ww[i]?) = wc.map some) (ha : w1.map Prod.fst = wc.map Prod.fst) (hW : pAt Ww is w1 = Wx)
    (kk : ∀ (H1 : Heap) (locs1 : List Loc), zb r → va_P D vwCl Wx H1 → va_D A Wx → va_S A s.heap H1 locs1 → W p l e R s m args below meth c H1 locs1 cells slots Q (F0 m (pc + 3) ls (.int r :: rest))) : W p l e R s m args below meth c H locs cells slots Q (F0 m pc ls st0) := by
  have hFc := va_free hD hS hA is hC
  refine va_calli hr hS (fun q _ h => hFc q h) hFc (fun r1 u t H1 locs1 ht hvm hw hB hz1 hk1 hS1 => ?_)
  obtain ⟨hw, hzb⟩ := hw
  subst hw
  obtain ⟨hP1, -, -⟩ := hB
  rw [ht] at hP1
  obtain ⟨hP2, hD2⟩ := jn hP hD is hC ha hk1 hP1 hW
  exact kk H1 locs1 hzb hP2 hD2 hS1
theorem kcl {r : Int64} (hr : va_Run p l e R s m args below meth c H locs cells slots 0 0 (F0 m pc ls st0) rest (QL D C wc w1 H.size r a) (va_A wc H.size)) (hP : va_P D vwCl Ww H) (hD : va_D A Ww) (hS : va_S A s.heap H locs) (hA : ∀ q, s.heap.size ≤ q → A q) (is : List Nat) (hC : is.map (fun i => Ww[i]?) = wc.map some) (ha : w1.map Prod.fst = wc.map Prod.fst) (hW : pAt Ww is w1 = Wx)
    (kk : ∀ (H1 : Heap) (locs1 : List Loc), va_P D vwCl Wx H1 → va_D A Wx → va_S A s.heap H1 locs1 → W p l e R s m args below meth c H1 locs1 cells slots Q (F0 m (pc + 3) ls (.long r :: rest))) : W p l e R s m args below meth c H locs cells slots Q (F0 m pc ls st0) := by
  have hFc := va_free hD hS hA is hC
  refine va_calll hr hS (fun q _ h => hFc q h) hFc (fun r1 u t H1 locs1 ht hvm hw hB hz1 hk1 hS1 => ?_)
  subst hw
  obtain ⟨hP1, -, -⟩ := hB
  rw [ht] at hP1
  obtain ⟨hP2, hD2⟩ := jn hP hD is hC ha hk1 hP1 hW
  exact kk H1 locs1 hP2 hD2 hS1
theorem kcv (hr : va_Run p l e R s m args below meth c H locs cells slots 0 0 (F0 m pc ls st0) rest (QV D C wc w1 H.size a) (va_A wc H.size)) (hP : va_P D vwCl Ww H) (hD : va_D A Ww) (hS : va_S A s.heap H locs) (hA : ∀ q, s.heap.size ≤ q → A q) (is : List Nat) (hC : is.map (fun i => Ww[i]?) = wc.map some) (ha : w1.map Prod.fst = wc.map Prod.fst) (hW : pAt Ww is w1 = Wx)
    (kk : ∀ (H1 : Heap) (locs1 : List Loc), va_P D vwCl Wx H1 → va_D A Wx → va_S A s.heap H1 locs1 → W p l e R s m args below meth c H1 locs1 cells slots Q (F0 m (pc + 3) ls rest)) : W p l e R s m args below meth c H locs cells slots Q (F0 m pc ls st0) := by
  have hFc := va_free hD hS hA is hC
  refine va_callv hr hS (fun q _ h => hFc q h) hFc (fun u t H1 locs1 ht hvm hw hB hz1 hk1 hS1 => ?_)
  obtain ⟨hP1, -, -⟩ := hB
  rw [ht] at hP1
  obtain ⟨hP2, hD2⟩ := jn hP hD is hC ha hk1 hP1 hW
  exact kk H1 locs1 hP2 hD2 hS1
end KITR
theorem rdA_x {α β : Type} {f : Nat → α} {n : Nat} {i : Int32} {k : α → Option β} {o : β} (h : rdA f n i k = some o) : ∃ x, x = f i.toNatClampNeg ∧ vp_in i n ∧ k x = some o := ⟨_, rfl, (rdA_e h).1, (rdA_e h).2⟩
theorem vin {i : Int32} {n : Nat} (h : ¬ (i < 0 ∨ n ≤ i.toNatClampNeg)) : vp_in i n := h
theorem four {i : Int32} (h : vp_in i 4) : i.toNatClampNeg = 0 ∨ i.toNatClampNeg = 1 ∨ i.toNatClampNeg = 2 ∨ i.toNatClampNeg = 3 := by
  have h2 : i.toNatClampNeg < 4 := Nat.not_le.mp fun q => h (Or.inr q)
  omega
theorem tZ0 {E : Nat → Nat} {A : Nat → Prop} {U : State} {H : Heap} (h : SE E A U H) : va_Z "TravelMarks" "LAW_LEAST" "[I" (.ref (E 0)) A U H := (h.2.2.1 0 _ rfl).1
theorem tZ1 {E : Nat → Nat} {A : Nat → Prop} {U : State} {H : Heap} (h : SE E A U H) : va_Z "TravelMarks" "LAW_MOST" "[I" (.ref (E 1)) A U H := (h.2.2.1 1 _ rfl).1
theorem tZ2 {E : Nat → Nat} {A : Nat → Prop} {U : State} {H : Heap} (h : SE E A U H) : va_Z "TravelMarks" "LAW_AT_FIRST" "[I" (.ref (E 2)) A U H := (h.2.2.1 2 _ rfl).1
theorem tZ3 {E : Nat → Nat} {A : Nat → Prop} {U : State} {H : Heap} (h : SE E A U H) : va_Z "TravelMarks" "ABOVE" "[I" (.ref (E 3)) A U H := (h.2.2.1 3 _ rfl).1
theorem tZ4 {E : Nat → Nat} {A : Nat → Prop} {U : State} {H : Heap} (h : SE E A U H) : va_Z "TravelMarks$Deed" "BODIES" "[I" (.ref (E 4)) A U H := (h.2.2.1 4 _ rfl).1
theorem tT0 {E : Nat → Nat} {A : Nat → Prop} {U : State} {H : Heap} (h : SE E A U H) : va_T .int (E 0) 4 (fun j => .int (tbLeast j)) A U H := (h.2.2.1 0 _ rfl).2
theorem tT1 {E : Nat → Nat} {A : Nat → Prop} {U : State} {H : Heap} (h : SE E A U H) : va_T .int (E 1) 4 (fun j => .int (tbMost j)) A U H := (h.2.2.1 1 _ rfl).2
theorem tT2 {E : Nat → Nat} {A : Nat → Prop} {U : State} {H : Heap} (h : SE E A U H) : va_T .int (E 2) 4 (fun j => .int (tbFirst j)) A U H := (h.2.2.1 2 _ rfl).2
theorem tT3 {E : Nat → Nat} {A : Nat → Prop} {U : State} {H : Heap} (h : SE E A U H) : va_T .int (E 3) 6 (fun j => .int (tbAbove j)) A U H := (h.2.2.1 3 _ rfl).2
theorem tT4 {E : Nat → Nat} {A : Nat → Prop} {U : State} {H : Heap} (h : SE E A U H) : va_T .int (E 4) 24 (fun j => .int (tbBodies j)) A U H := (h.2.2.1 4 _ rfl).2
section KITS
variable {p : Program} {l : Launch} {e : Env} {R : Room} {s : State} {m : MethodId} {args : Array Value} {below : List Frame} {meth : Method} {c : Code} {H : Heap} {locs : List Loc} {cells slots : Nat} {Q : State → Prop}
variable {pc : Nat} {ls : Array Slot} {rest : List Value} {cc : ByteArray} {A : Nat → Prop} {E : Nat → Nat} {D : va_G} {C : Nat → ClassId} {w0 w1 : va_W}
theorem lv_ren {x v : Int32} (h : x = v) (k : W p l e R s m args below meth c H locs cells slots Q (F0 m pc ls (.int x :: rest))) : W p l e R s m args below meth c H locs cells slots Q (F0 m pc ls (.int v :: rest)) := by rw [← h]; exact k
theorem lv_renL {x v : Int64} (h : x = v) (k : W p l e R s m args below meth c H locs cells slots Q (F0 m pc ls (.long x :: rest))) : W p l e R s m args below meth c H locs cells slots Q (F0 m pc ls (.long v :: rest)) := by rw [← h]; exact k
theorem lv_renV {v w : Value} (h : v = w) (k : W p l e R s m args below meth c H locs cells slots Q (F0 m pc ls (v :: rest))) : W p l e R s m args below meth c H locs cells slots Q (F0 m pc ls (w :: rest)) := by rw [← h]; exact k
theorem kri {r : Int32} (hQ : Q = MQ below (QI D C w0 w1 s.heap.size r) args s 0 0 A) (hAe : A = va_A w0 s.heap.size) (hx : p.tables.exec = Jvm.exec) (hb : c.code = cc) (hr : meth.sig.returnType = some .int) (hlocks : meth.locks = false) (hP : va_P D vwCl w1 H) (hD : va_D A w1) (hK : va_K D vwCl (tyL C) s) (hS : va_S A s.heap H locs) (hdg : decode cc pc = .ok (.ireturn, 1)) : W p l e R s m args below meth c H locs 0 0 Q (F0 m pc ls [.int r]) := by
  subst hQ
  subst hAe
  exact W.iret hx hb hr (fun t ht hW => ⟨⟨r, (), rfl, rfl, by rw [ht]; exact hP, va_K.moved hW.alike hK, hD⟩, hS.F ht⟩) hS.2.2 hdg hlocks
theorem krz {r : Int32} (hQ : Q = MQ below (QZ D C w0 w1 s.heap.size r) args s 0 0 A) (hAe : A = va_A w0 s.heap.size) (hx : p.tables.exec = Jvm.exec) (hb : c.code = cc) (hr : meth.sig.returnType = some .boolean) (hlocks : meth.locks = false) (hz : zb r) (hP : va_P D vwCl w1 H) (hD : va_D A w1) (hK : va_K D vwCl (tyL C) s) (hS : va_S A s.heap H locs) (hdg : decode cc pc = .ok (.ireturn, 1)) : W p l e R s m args below meth c H locs 0 0 Q (F0 m pc ls [.int r]) := by
  subst hQ
  subst hAe
  exact W.zret hx hb hr hz.1 (fun t ht hW => ⟨⟨r, (), rfl, ⟨rfl, hz⟩, by rw [ht]; exact hP, va_K.moved hW.alike hK, hD⟩, hS.F ht⟩) hS.2.2 hdg hlocks
theorem krl {r : Int64} (hQ : Q = MQ below (QL D C w0 w1 s.heap.size r) args s 0 0 A) (hAe : A = va_A w0 s.heap.size) (hx : p.tables.exec = Jvm.exec) (hb : c.code = cc) (hr : meth.sig.returnType = some .long) (hlocks : meth.locks = false) (hP : va_P D vwCl w1 H) (hD : va_D A w1) (hK : va_K D vwCl (tyL C) s) (hS : va_S A s.heap H locs) (hdg : decode cc pc = .ok (.lreturn, 1)) : W p l e R s m args below meth c H locs 0 0 Q (F0 m pc ls [.long r]) := by
  subst hQ
  subst hAe
  exact W.lret hx hb hr (fun t ht hW => ⟨⟨r, (), rfl, rfl, by rw [ht]; exact hP, va_K.moved hW.alike hK, hD⟩, hS.F ht⟩) hS.2.2 hdg hlocks
theorem krv (hQ : Q = MQ below (QV D C w0 w1 s.heap.size) args s 0 0 A) (hAe : A = va_A w0 s.heap.size) (hx : p.tables.exec = Jvm.exec) (hb : c.code = cc) (hr : meth.sig.returnType = none) (hlocks : meth.locks = false) (hP : va_P D vwCl w1 H) (hD : va_D A w1) (hK : va_K D vwCl (tyL C) s) (hS : va_S A s.heap H locs) (hdg : decode cc pc = .ok (.return_, 1)) : W p l e R s m args below meth c H locs 0 0 Q (F0 m pc ls []) := by
  subst hQ
  subst hAe
  exact W.vret hx hb hr (fun t ht hW => ⟨⟨(), rfl, trivial, by rw [ht]; exact hP, va_K.moved hW.alike hK, hD⟩, hS.F ht⟩) hS.2.2 hdg hlocks
end KITS
section CPT
variable {p : Program} {l : Launch} {e : Env} {R : Room} {s : State} {m : MethodId} {args : Array Value} {below : List Frame} {meth : Method} {c : Code} {H : Heap} {locs : List Loc} {cells slots : Nat} {Q : State → Prop}
variable {cc : ByteArray} {pc : Nat} {ls : Array Slot} {rest : List Value} {D : va_G} {cl : List vw_C} {A : Nat → Prop} {a : Nat} {tys : List (ClassId × FieldType)} {ws : va_W}
theorem nn_pos {z : Int32} (hz : ¬ z < 0) : z.toInt = (z.toNatClampNeg : Int) := by
  have h0 : (0 : Int) ≤ z.toInt := by simpa using Int32.le_iff_toInt_le.mp (Int32.not_lt.mp hz)
  show z.toInt = ((z.toInt.toNat : Nat) : Int)
  omega
/-- System.arraycopy out of a table of ints that lies outside the world into one of the world's rows of ints -/
theorem my_copyt (hexec : p.tables.exec = Jvm.exec) (hb : c.code = cc) (hml : c.maxLocals = ls.size) {own : String} {index : Nat} (hown : s.vm.findClass own = some m.cls) (hlink : (Cond.methodLink own index arraycopyName).before args s = true) (hnat : (Cond.native arraycopyName).before args s = true) (hstat : (Cond.static arraycopyName).before args s = true) (hini : (Cond.initialized "java/lang/System").before args s = true)
    (hK : va_K D cl tys s) (hP : va_P D cl ws H) (hD : va_D A ws) (hS : va_S A s.heap H locs) {b0 n0 : Nat} {f : Nat → Int32} (hX : va_T .int b0 n0 (fun j => .int (f j)) A s s.heap) (q1 t1 : Nat) {c1 : ClassId} {n1 : Nat} {g : Nat → Int32} (ha1 : ws[q1]? = some (a, .inl (c1, n1, .inl g))) (ht1 : tys[t1]? = some (c1, .int))
    {sp dp n : Int32} (h1 : ¬ sp < 0) (h2 : ¬ dp < 0) (h3 : ¬ n < 0) (h4 : sp.toNatClampNeg + n.toNatClampNeg ≤ n0) (h5 : dp.toNatClampNeg + n.toNatClampNeg ≤ n1)
    (hframes : 1 ≤ R.frames) (hlocals : (rest.map fun v => v.category).sum + (nativeFrameWords "java/lang/System" "arraycopy" 5 + 11) ≤ R.locals) (hdg : decode cc pc = .ok (.invokestatic index, 3))
    (kk : ∀ (H1 : Heap) (locs1 : List Loc), va_P D cl (ws.set q1 (a, .inl (c1, n1, .inl (va_cpy f g sp.toNatClampNeg dp.toNatClampNeg n.toNatClampNeg)))) H1 → va_D A (ws.set q1 (a, .inl (c1, n1, .inl (va_cpy f g sp.toNatClampNeg dp.toNatClampNeg n.toNatClampNeg)))) → va_S A s.heap H1 locs1 → W p l e R s m args below meth c H1 locs1 cells slots Q (F0 m (pc + 3) ls rest)) : W p l e R s m args below meth c H locs cells slots Q (F0 m pc ls (.int n :: .int dp :: .ref a :: .int sp :: .ref b0 :: rest)) := by
  intro T hT X
  obtain ⟨cs, hc, hof, hkn, hge, -, hval, hnA⟩ := hX
  have hcH : H[b0]? = some cs := by rw [hS.2.1 b0 (Array.getElem?_eq_some_iff.mp hc).1 hnA]; exact hc
  have hdH : H[a]? = some (vp_cell c1 (n1, .inl g)) := hP q1 _ ha1
  have hlt : a < H.size := (Array.getElem?_eq_some_iff.mp hdH).1
  obtain ⟨hu, k0, hk0, cm0, hkk0⟩ := hof
  obtain ⟨-, k1, hk1, cm1, hkk1⟩ := (hK.2 t1 _ ht1).1 n1 (fun j => .int (g j))
  have hrd : ∀ i : Nat, i < n.toNatClampNeg → cs.slots.getD (sp.toNatClampNeg + i) .null = .int (f (sp.toNatClampNeg + i)) := fun i hi => by
    rw [Array.getD_eq_getD_getElem?, hval _ (by omega)]
    rfl
  obtain ⟨vm', X', step⟩ := X.arraycopy hexec hown hlink hnat hstat hini (src := b0) (dst := a) (cs := cs) (cd := vp_cell c1 (n1, .inl g)) (srcPos := sp) (destPos := dp) (n := n) (by rw [hT]; exact hcH) (by rw [hT]; exact hdH)
    hu (fun _ h => by cases h) hkn (fun h => by cases h) hk0 hk1 hkk0 hkk1 (by simp [refKind]) h1 h2 h3
    (by rw [nn_pos h1, nn_pos h3]; omega)
    (by rw [nn_pos h2, nn_pos h3]; show ¬ _ > ((arrV c1 n1 (fun j => .int (g j))).slots.size : Int); rw [arrV_size]; omega)
    (fun vm₁ _ i hi => ⟨by rw [hrd i hi]; rfl, by rw [hrd i hi]; exact trivial⟩)
    (g := F0 m pc ls (.int n :: .int dp :: .ref a :: .int sp :: .ref b0 :: rest)) rfl (by rw [hml]) (rest := rest) rfl (by rw [hb]; exact hdg) hframes (by show 2 * 0 + _ + _ ≤ _; omega)
  obtain ⟨nc, hnc⟩ := nm_ex (vp_cell c1 (n1, .inl (va_cpy f g sp.toNatClampNeg dp.toNatClampNeg n.toNatClampNeg)))
  have hcp : copied cs (vp_cell c1 (n1, .inl g)) sp dp n = nc := by
    rw [hnc]
    exact va_copiedX (fun z => .int z) cs c1 f g hval h4
  rw [hcp] at X' step
  have hheap : ((T.setVm vm').setCell a nc).heap = H.setIfInBounds a nc := by rw [← hT]; rfl
  have oq : ∀ q : Nat, q ≠ a → (H.setIfInBounds a nc)[q]? = H[q]? := fun q hq => by simp [Array.getElem?_setIfInBounds, Ne.symm hq]
  have hat : (H.setIfInBounds a nc)[a]? = some nc := by simp [Array.getElem?_setIfInBounds, hlt]
  obtain ⟨t, r1, r2⟩ := kk _ _ (hP.set hD ha1 (show (H.setIfInBounds a nc)[a]? = some (vp_cell c1 (n1, .inl (va_cpy f g sp.toNatClampNeg dp.toNatClampNeg n.toNatClampNeg))) by rw [hat, hnc]) oq) (hD.set ha1) ⟨by simp; exact hS.1, fun q g1 g2 => by
      rw [oq q (fun z => g2 (by rw [z]; exact hD.2 q1 _ ha1))]
      exact hS.2.1 q g1 g2, fun q hq => by
      rcases List.mem_append.mp hq with z | z
      · exact hS.2.2 q z
      · obtain ⟨w, -, hw⟩ := List.mem_map.mp z
        rw [← hw]
        exact hD.2 q1 _ ha1⟩ _ hheap X'
  exact ⟨t, step t r1, r2⟩
end CPT
