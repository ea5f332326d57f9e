def ob6 {α0 α1 α2 α3 α4 α5 ζ : Type} (x : Option (α0 × α1 × α2 × α3 × α4 × α5)) (k : α0 → α1 → α2 → α3 → α4 → α5 → Option ζ) : Option ζ := match x with
  | none => none
  | some q => k q.1 q.2.1 q.2.2.1 q.2.2.2.1 q.2.2.2.2.1 q.2.2.2.2.2
theorem ob6_e {α0 α1 α2 α3 α4 α5 ζ : Type} {x : Option (α0 × α1 × α2 × α3 × α4 × α5)} {k : α0 → α1 → α2 → α3 → α4 → α5 → Option ζ} {o : ζ} (h : ob6 x k = some o) : ∃ a0 a1 a2 a3 a4 a5, x = some (a0, a1, a2, a3, a4, a5) ∧ k a0 a1 a2 a3 a4 a5 = some o := by
  cases x with
  | none => cases h
  | some q => exact ⟨q.1, q.2.1, q.2.2.1, q.2.2.2.1, q.2.2.2.2.1, q.2.2.2.2.2, rfl, h⟩
theorem ob6_s {α0 α1 α2 α3 α4 α5 ζ : Type} (a0 : α0) (a1 : α1) (a2 : α2) (a3 : α3) (a4 : α4) (a5 : α5) (k : α0 → α1 → α2 → α3 → α4 → α5 → Option ζ) : ob6 (some (a0, a1, a2, a3, a4, a5)) k = k a0 a1 a2 a3 a4 a5 := rfl
def ob7 {α0 α1 α2 α3 α4 α5 α6 ζ : Type} (x : Option (α0 × α1 × α2 × α3 × α4 × α5 × α6)) (k : α0 → α1 → α2 → α3 → α4 → α5 → α6 → Option ζ) : Option ζ := match x with
  | none => none
  | some q => k q.1 q.2.1 q.2.2.1 q.2.2.2.1 q.2.2.2.2.1 q.2.2.2.2.2.1 q.2.2.2.2.2.2
theorem ob7_e {α0 α1 α2 α3 α4 α5 α6 ζ : Type} {x : Option (α0 × α1 × α2 × α3 × α4 × α5 × α6)} {k : α0 → α1 → α2 → α3 → α4 → α5 → α6 → Option ζ} {o : ζ} (h : ob7 x k = some o) : ∃ a0 a1 a2 a3 a4 a5 a6, x = some (a0, a1, a2, a3, a4, a5, a6) ∧ k a0 a1 a2 a3 a4 a5 a6 = some o := by
  cases x with
  | none => cases h
  | some q => exact ⟨q.1, q.2.1, q.2.2.1, q.2.2.2.1, q.2.2.2.2.1, q.2.2.2.2.2.1, q.2.2.2.2.2.2, rfl, h⟩
theorem ob7_s {α0 α1 α2 α3 α4 α5 α6 ζ : Type} (a0 : α0) (a1 : α1) (a2 : α2) (a3 : α3) (a4 : α4) (a5 : α5) (a6 : α6) (k : α0 → α1 → α2 → α3 → α4 → α5 → α6 → Option ζ) : ob7 (some (a0, a1, a2, a3, a4, a5, a6)) k = k a0 a1 a2 a3 a4 a5 a6 := rfl
def ob8 {α0 α1 α2 α3 α4 α5 α6 α7 ζ : Type} (x : Option (α0 × α1 × α2 × α3 × α4 × α5 × α6 × α7)) (k : α0 → α1 → α2 → α3 → α4 → α5 → α6 → α7 → Option ζ) : Option ζ := match x with
  | none => none
  | some q => k q.1 q.2.1 q.2.2.1 q.2.2.2.1 q.2.2.2.2.1 q.2.2.2.2.2.1 q.2.2.2.2.2.2.1 q.2.2.2.2.2.2.2
theorem ob8_e {α0 α1 α2 α3 α4 α5 α6 α7 ζ : Type} {x : Option (α0 × α1 × α2 × α3 × α4 × α5 × α6 × α7)} {k : α0 → α1 → α2 → α3 → α4 → α5 → α6 → α7 → Option ζ} {o : ζ} (h : ob8 x k = some o) : ∃ a0 a1 a2 a3 a4 a5 a6 a7, x = some (a0, a1, a2, a3, a4, a5, a6, a7) ∧ k a0 a1 a2 a3 a4 a5 a6 a7 = some o := by
  cases x with
  | none => cases h
  | some q => exact ⟨q.1, q.2.1, q.2.2.1, q.2.2.2.1, q.2.2.2.2.1, q.2.2.2.2.2.1, q.2.2.2.2.2.2.1, q.2.2.2.2.2.2.2, rfl, h⟩
theorem ob8_s {α0 α1 α2 α3 α4 α5 α6 α7 ζ : Type} (a0 : α0) (a1 : α1) (a2 : α2) (a3 : α3) (a4 : α4) (a5 : α5) (a6 : α6) (a7 : α7) (k : α0 → α1 → α2 → α3 → α4 → α5 → α6 → α7 → Option ζ) : ob8 (some (a0, a1, a2, a3, a4, a5, a6, a7)) k = k a0 a1 a2 a3 a4 a5 a6 a7 := rfl
def ob9 {α0 α1 α2 α3 α4 α5 α6 α7 α8 ζ : Type} (x : Option (α0 × α1 × α2 × α3 × α4 × α5 × α6 × α7 × α8)) (k : α0 → α1 → α2 → α3 → α4 → α5 → α6 → α7 → α8 → Option ζ) : Option ζ := match x with
  | none => none
  | some q => k q.1 q.2.1 q.2.2.1 q.2.2.2.1 q.2.2.2.2.1 q.2.2.2.2.2.1 q.2.2.2.2.2.2.1 q.2.2.2.2.2.2.2.1 q.2.2.2.2.2.2.2.2
theorem ob9_e {α0 α1 α2 α3 α4 α5 α6 α7 α8 ζ : Type} {x : Option (α0 × α1 × α2 × α3 × α4 × α5 × α6 × α7 × α8)} {k : α0 → α1 → α2 → α3 → α4 → α5 → α6 → α7 → α8 → Option ζ} {o : ζ} (h : ob9 x k = some o) : ∃ a0 a1 a2 a3 a4 a5 a6 a7 a8, x = some (a0, a1, a2, a3, a4, a5, a6, a7, a8) ∧ k a0 a1 a2 a3 a4 a5 a6 a7 a8 = some o := by
  cases x with
  | none => cases h
  | some q => exact ⟨q.1, q.2.1, q.2.2.1, q.2.2.2.1, q.2.2.2.2.1, q.2.2.2.2.2.1, q.2.2.2.2.2.2.1, q.2.2.2.2.2.2.2.1, q.2.2.2.2.2.2.2.2, rfl, h⟩
theorem ob9_s {α0 α1 α2 α3 α4 α5 α6 α7 α8 ζ : Type} (a0 : α0) (a1 : α1) (a2 : α2) (a3 : α3) (a4 : α4) (a5 : α5) (a6 : α6) (a7 : α7) (a8 : α8) (k : α0 → α1 → α2 → α3 → α4 → α5 → α6 → α7 → α8 → Option ζ) : ob9 (some (a0, a1, a2, a3, a4, a5, a6, a7, a8)) k = k a0 a1 a2 a3 a4 a5 a6 a7 a8 := rfl
def ob10 {α0 α1 α2 α3 α4 α5 α6 α7 α8 α9 ζ : Type} (x : Option (α0 × α1 × α2 × α3 × α4 × α5 × α6 × α7 × α8 × α9)) (k : α0 → α1 → α2 → α3 → α4 → α5 → α6 → α7 → α8 → α9 → Option ζ) : Option ζ := match x with
  | none => none
  | some q => k q.1 q.2.1 q.2.2.1 q.2.2.2.1 q.2.2.2.2.1 q.2.2.2.2.2.1 q.2.2.2.2.2.2.1 q.2.2.2.2.2.2.2.1 q.2.2.2.2.2.2.2.2.1 q.2.2.2.2.2.2.2.2.2
theorem ob10_e {α0 α1 α2 α3 α4 α5 α6 α7 α8 α9 ζ : Type} {x : Option (α0 × α1 × α2 × α3 × α4 × α5 × α6 × α7 × α8 × α9)} {k : α0 → α1 → α2 → α3 → α4 → α5 → α6 → α7 → α8 → α9 → Option ζ} {o : ζ} (h : ob10 x k = some o) : ∃ a0 a1 a2 a3 a4 a5 a6 a7 a8 a9, x = some (a0, a1, a2, a3, a4, a5, a6, a7, a8, a9) ∧ k a0 a1 a2 a3 a4 a5 a6 a7 a8 a9 = some o := by
  cases x with
  | none => cases h
  | some q => exact ⟨q.1, q.2.1, q.2.2.1, q.2.2.2.1, q.2.2.2.2.1, q.2.2.2.2.2.1, q.2.2.2.2.2.2.1, q.2.2.2.2.2.2.2.1, q.2.2.2.2.2.2.2.2.1, q.2.2.2.2.2.2.2.2.2, rfl, h⟩
theorem ob10_s {α0 α1 α2 α3 α4 α5 α6 α7 α8 α9 ζ : Type} (a0 : α0) (a1 : α1) (a2 : α2) (a3 : α3) (a4 : α4) (a5 : α5) (a6 : α6) (a7 : α7) (a8 : α8) (a9 : α9) (k : α0 → α1 → α2 → α3 → α4 → α5 → α6 → α7 → α8 → α9 → Option ζ) : ob10 (some (a0, a1, a2, a3, a4, a5, a6, a7, a8, a9)) k = k a0 a1 a2 a3 a4 a5 a6 a7 a8 a9 := rfl
def ob11 {α0 α1 α2 α3 α4 α5 α6 α7 α8 α9 α10 ζ : Type} (x : Option (α0 × α1 × α2 × α3 × α4 × α5 × α6 × α7 × α8 × α9 × α10)) (k : α0 → α1 → α2 → α3 → α4 → α5 → α6 → α7 → α8 → α9 → α10 → Option ζ) : Option ζ := match x with
  | none => none
  | some q => k q.1 q.2.1 q.2.2.1 q.2.2.2.1 q.2.2.2.2.1 q.2.2.2.2.2.1 q.2.2.2.2.2.2.1 q.2.2.2.2.2.2.2.1 q.2.2.2.2.2.2.2.2.1 q.2.2.2.2.2.2.2.2.2.1 q.2.2.2.2.2.2.2.2.2.2
theorem ob11_e {α0 α1 α2 α3 α4 α5 α6 α7 α8 α9 α10 ζ : Type} {x : Option (α0 × α1 × α2 × α3 × α4 × α5 × α6 × α7 × α8 × α9 × α10)} {k : α0 → α1 → α2 → α3 → α4 → α5 → α6 → α7 → α8 → α9 → α10 → Option ζ} {o : ζ} (h : ob11 x k = some o) : ∃ a0 a1 a2 a3 a4 a5 a6 a7 a8 a9 a10, x = some (a0, a1, a2, a3, a4, a5, a6, a7, a8, a9, a10) ∧ k a0 a1 a2 a3 a4 a5 a6 a7 a8 a9 a10 = some o := by
  cases x with
  | none => cases h
  | some q => exact ⟨q.1, q.2.1, q.2.2.1, q.2.2.2.1, q.2.2.2.2.1, q.2.2.2.2.2.1, q.2.2.2.2.2.2.1, q.2.2.2.2.2.2.2.1, q.2.2.2.2.2.2.2.2.1, q.2.2.2.2.2.2.2.2.2.1, q.2.2.2.2.2.2.2.2.2.2, rfl, h⟩
theorem ob11_s {α0 α1 α2 α3 α4 α5 α6 α7 α8 α9 α10 ζ : Type} (a0 : α0) (a1 : α1) (a2 : α2) (a3 : α3) (a4 : α4) (a5 : α5) (a6 : α6) (a7 : α7) (a8 : α8) (a9 : α9) (a10 : α10) (k : α0 → α1 → α2 → α3 → α4 → α5 → α6 → α7 → α8 → α9 → α10 → Option ζ) : ob11 (some (a0, a1, a2, a3, a4, a5, a6, a7, a8, a9, a10)) k = k a0 a1 a2 a3 a4 a5 a6 a7 a8 a9 a10 := rfl
abbrev PV : Type := (Nat → Int32) × (Nat → Int32) × (Nat → Int32) × (Nat → Int32) × (Nat → Int32) × (Nat → Int32) × Int32 × Int32 × Int32 × Int32
abbrev pLaws (v : PV) : Nat → Int32 := v.1
abbrev pSetLaws (v : PV) (x : Nat → Int32) : PV := (x, v.2)
abbrev pKind (v : PV) : Nat → Int32 := v.2.1
abbrev pSetKind (v : PV) (x : Nat → Int32) : PV := (v.1, x, v.2.2)
abbrev pInk (v : PV) : Nat → Int32 := v.2.2.1
abbrev pSetInk (v : PV) (x : Nat → Int32) : PV := (v.1, v.2.1, x, v.2.2.2)
abbrev pOn (v : PV) : Nat → Int32 := v.2.2.2.1
abbrev pSetOn (v : PV) (x : Nat → Int32) : PV := (v.1, v.2.1, v.2.2.1, x, v.2.2.2.2)
abbrev pFirst (v : PV) : Nat → Int32 := v.2.2.2.2.1
abbrev pSetFirst (v : PV) (x : Nat → Int32) : PV := (v.1, v.2.1, v.2.2.1, v.2.2.2.1, x, v.2.2.2.2.2)
abbrev pSecond (v : PV) : Nat → Int32 := v.2.2.2.2.2.1
abbrev pSetSecond (v : PV) (x : Nat → Int32) : PV := (v.1, v.2.1, v.2.2.1, v.2.2.2.1, v.2.2.2.2.1, x, v.2.2.2.2.2.2)
abbrev pCount (v : PV) : Int32 := v.2.2.2.2.2.2.1
abbrev pSetCount (v : PV) (x : Int32) : PV := (v.1, v.2.1, v.2.2.1, v.2.2.2.1, v.2.2.2.2.1, v.2.2.2.2.2.1, x, v.2.2.2.2.2.2.2)
abbrev pHour (v : PV) : Int32 := v.2.2.2.2.2.2.2.1
abbrev pSetHour (v : PV) (x : Int32) : PV := (v.1, v.2.1, v.2.2.1, v.2.2.2.1, v.2.2.2.2.1, v.2.2.2.2.2.1, v.2.2.2.2.2.2.1, x, v.2.2.2.2.2.2.2.2)
abbrev pZ (v : PV) : Int32 := v.2.2.2.2.2.2.2.2.1
abbrev pSetZ (v : PV) (x : Int32) : PV := (v.1, v.2.1, v.2.2.1, v.2.2.2.1, v.2.2.2.2.1, v.2.2.2.2.2.1, v.2.2.2.2.2.2.1, v.2.2.2.2.2.2.2.1, x, v.2.2.2.2.2.2.2.2.2)
abbrev pWent (v : PV) : Int32 := v.2.2.2.2.2.2.2.2.2
abbrev pSetWent (v : PV) (x : Int32) : PV := (v.1, v.2.1, v.2.2.1, v.2.2.2.1, v.2.2.2.2.1, v.2.2.2.2.2.1, v.2.2.2.2.2.2.1, v.2.2.2.2.2.2.2.1, v.2.2.2.2.2.2.2.2.1, x)
abbrev oPort (C : Nat → ClassId) (a0 a1 a2 a3 a4 a5 a6 : Nat) (v : PV) (w : va_W) : va_W := (a0, .inr (1, [.ref a1, .ref a2, .ref a3, .ref a4, .ref a5, .ref a6, .int (pCount v), .int (pHour v), .int (pZ v), .int (pWent v)])) :: (a1, .inl (C 0, 4, .inl (pLaws v))) :: (a2, .inl (C 0, 8, .inl (pKind v))) :: (a3, .inl (C 0, 8, .inl (pInk v))) :: (a4, .inl (C 0, 8, .inl (pOn v))) :: (a5, .inl (C 0, 6, .inl (pFirst v))) :: (a6, .inl (C 0, 6, .inl (pSecond v))) :: w
abbrev TV : Type := (Nat → Int32) × Int32 × Int32 × Int32 × Int32 × Int32
abbrev tpBytes (v : TV) : Nat → Int32 := v.1
abbrev tpSetBytes (v : TV) (x : Nat → Int32) : TV := (x, v.2)
abbrev tpLength (v : TV) : Int32 := v.2.1
abbrev tpSetLength (v : TV) (x : Int32) : TV := (v.1, x, v.2.2)
abbrev tpToken (v : TV) : Int32 := v.2.2.1
abbrev tpSetToken (v : TV) (x : Int32) : TV := (v.1, v.2.1, x, v.2.2.2)
abbrev tpStart (v : TV) : Int32 := v.2.2.2.1
abbrev tpSetStart (v : TV) (x : Int32) : TV := (v.1, v.2.1, v.2.2.1, x, v.2.2.2.2)
abbrev tpEnd (v : TV) : Int32 := v.2.2.2.2.1
abbrev tpSetEnd (v : TV) (x : Int32) : TV := (v.1, v.2.1, v.2.2.1, v.2.2.2.1, x, v.2.2.2.2.2)
abbrev tpValue (v : TV) : Int32 := v.2.2.2.2.2
abbrev tpSetValue (v : TV) (x : Int32) : TV := (v.1, v.2.1, v.2.2.1, v.2.2.2.1, v.2.2.2.2.1, x)
abbrev oTape (C : Nat → ClassId) (a0 a1 : Nat) (v : TV) (w : va_W) : va_W := (a0, .inr (4, [.ref a1, .int (tpLength v), .int (tpToken v), .int (tpStart v), .int (tpEnd v), .int (tpValue v)])) :: (a1, .inl (C 1, 200, .inl (tpBytes v))) :: w
abbrev DV : Type := (Nat → Int32) × Int32 × Int32 × Int32 × Int32 × Int32
abbrev ddBodies (v : DV) : Nat → Int32 := v.1
abbrev ddSetBodies (v : DV) (x : Nat → Int32) : DV := (x, v.2)
abbrev ddRan (v : DV) : Int32 := v.2.1
abbrev ddSetRan (v : DV) (x : Int32) : DV := (v.1, x, v.2.2)
abbrev ddNumber (v : DV) : Int32 := v.2.2.1
abbrev ddSetNumber (v : DV) (x : Int32) : DV := (v.1, v.2.1, x, v.2.2.2)
abbrev ddOn (v : DV) : Int32 := v.2.2.2.1
abbrev ddSetOn (v : DV) (x : Int32) : DV := (v.1, v.2.1, v.2.2.1, x, v.2.2.2.2)
abbrev ddKind (v : DV) : Int32 := v.2.2.2.2.1
abbrev ddSetKind (v : DV) (x : Int32) : DV := (v.1, v.2.1, v.2.2.1, v.2.2.2.1, x, v.2.2.2.2.2)
abbrev ddPartedBy0 (v : DV) : Int32 := v.2.2.2.2.2
abbrev ddSetPartedBy0 (v : DV) (x : Int32) : DV := (v.1, v.2.1, v.2.2.1, v.2.2.2.1, v.2.2.2.2.1, x)
abbrev oDeed (C : Nat → ClassId) (a0 a1 : Nat) (v : DV) (w : va_W) : va_W := (a0, .inr (0, [.ref a1, .int (ddRan v), .int (ddNumber v), .int (ddOn v), .int (ddKind v), .int (ddPartedBy0 v)])) :: (a1, .inl (C 0, 30, .inl (ddBodies v))) :: w
abbrev HV : Type := (Nat → Int64) × Int32 × Int32
abbrev shItems (v : HV) : Nat → Int64 := v.1
abbrev shSetItems (v : HV) (x : Nat → Int64) : HV := (x, v.2)
abbrev shSort (v : HV) : Int32 := v.2.1
abbrev shSetSort (v : HV) (x : Int32) : HV := (v.1, x, v.2.2)
abbrev shSize (v : HV) : Int32 := v.2.2
abbrev shSetSize (v : HV) (x : Int32) : HV := (v.1, v.2.1, x)
abbrev oSheet (C : Nat → ClassId) (a0 a1 : Nat) (v : HV) (w : va_W) : va_W := (a0, .inr (2, [.ref a1, .int (shSort v), .int (shSize v)])) :: (a1, .inl (C 2, 40, .inr (.inl (shItems v)))) :: w
abbrev FV : Type := Int32 × Int32 × Int32 × Int32
abbrev sfHolding (v : FV) : Int32 := v.1
abbrev sfSetHolding (v : FV) (x : Int32) : FV := (x, v.2)
abbrev sfNumber (v : FV) : Int32 := v.2.1
abbrev sfSetNumber (v : FV) (x : Int32) : FV := (v.1, x, v.2.2)
abbrev sfSort (v : FV) : Int32 := v.2.2.1
abbrev sfSetSort (v : FV) (x : Int32) : FV := (v.1, v.2.1, x, v.2.2.2)
abbrev sfSize (v : FV) : Int32 := v.2.2.2
abbrev sfSetSize (v : FV) (x : Int32) : FV := (v.1, v.2.1, v.2.2.1, x)
abbrev oShelf (C : Nat → ClassId) (a0 : Nat) (v : FV) (w : va_W) : va_W := (a0, .inr (3, [.int (sfHolding v), .int (sfNumber v), .int (sfSort v), .int (sfSize v)])) :: w
abbrev oArrI (C : Nat → ClassId) (a n : Nat) (f : Nat → Int32) (w : va_W) : va_W := (a, .inl (C 0, n, .inl f)) :: w
abbrev oTM (q0 qn0 qk0 qr0 qc0 qt0 qd0 qs0 qf0 qw0 : Nat) (rowCount anyKept : Int32) (w : va_W) : va_W := (q0, .inr (5, [.ref qn0, .ref qk0, .ref qr0, .ref qc0, .ref qt0, .ref qd0, .ref qs0, .ref qf0, .ref qw0, .int rowCount, .int anyKept])) :: w
def adr4 (a b c d : Nat) : Nat → Option Nat := fun j => ([some a, some b, some c, some d] : List (Option Nat)).getD j none
abbrev oSheets (C : Nat → ClassId) (a s0 i0 s1 i1 s2 i2 s3 i3 : Nat) (sh : Nat → HV) (w : va_W) : va_W := (a, .inl (C 3, 4, .inr (.inr (.inr (.inr (adr4 s0 s1 s2 s3)))))) :: oSheet C s0 i0 (sh 0) (oSheet C s1 i1 (sh 1) (oSheet C s2 i2 (sh 2) (oSheet C s3 i3 (sh 3) w)))
abbrev oShelves (C : Nat → ClassId) (a f0 f1 f2 f3 : Nat) (sf : Nat → FV) (w : va_W) : va_W := (a, .inl (C 4, 4, .inr (.inr (.inr (.inr (adr4 f0 f1 f2 f3)))))) :: oShelf C f0 (sf 0) (oShelf C f1 (sf 1) (oShelf C f2 (sf 2) (oShelf C f3 (sf 3) w)))
abbrev oMM (C : Nat → ClassId) (e0 e1 e2 e3 e4 e5 e6 e7 e8 e9 e10 e11 e12 e13 e14 e15 : Nat) (m_s : Nat → Int32) (m_held : Nat → Int32) (m_aside : Nat → Int32) (m_before : Nat → Int32) (m_isHeld : Int32) (m_tape : Nat → Int32) (m_taped : Int32) (m_token : Int32) (m_from : Int32) (m_to : Int32) (m_value : Int32) (m_isWrong : Int32) (m_due : Nat → Int32) (m_firsts : Nat → Int32) (m_rows : Nat → Int32) (m_rowN : Int32) (m_sortOf : Nat → Int32) (m_sizeOf : Nat → Int32) (m_numbers : Nat → Int32) (m_holdsWhat : Nat → Int32) (m_holdsWhich : Nat → Int32) (m_holdsMany : Nat → Int32) (m_bodies : Nat → Int32) (m_ran : Int32) (m_actKind : Int32) (m_actN : Int32) (m_actA : Int32) (m_isParted : Int32) (w : va_W) : va_W := (e0, .inr (6, [.ref e1, .ref e2, .ref e3, .ref e4, .int m_isHeld, .ref e5, .int m_taped, .int m_token, .int m_from, .int m_to, .int m_value, .int m_isWrong, .ref e6, .ref e7, .ref e8, .int m_rowN, .ref e9, .ref e10, .ref e11, .ref e12, .ref e13, .ref e14, .ref e15, .int m_ran, .int m_actKind, .int m_actN, .int m_actA, .int m_isParted])) :: (e1, .inl (C 0, 43, .inl m_s)) :: (e2, .inl (C 0, 43, .inl m_held)) :: (e3, .inl (C 0, 43, .inl m_aside)) :: (e4, .inl (C 0, 43, .inl m_before)) :: (e5, .inl (C 0, 200, .inl m_tape)) :: (e6, .inl (C 0, 8, .inl m_due)) :: (e7, .inl (C 0, 6, .inl m_firsts)) :: (e8, .inl (C 0, 30, .inl m_rows)) :: (e9, .inl (C 0, 4, .inl m_sortOf)) :: (e10, .inl (C 0, 4, .inl m_sizeOf)) :: (e11, .inl (C 0, 160, .inl m_numbers)) :: (e12, .inl (C 0, 4, .inl m_holdsWhat)) :: (e13, .inl (C 0, 4, .inl m_holdsWhich)) :: (e14, .inl (C 0, 4, .inl m_holdsMany)) :: (e15, .inl (C 0, 30, .inl m_bodies)) :: w
def stLen (w : Nat) : Int32 := nI (stL.getD w 0)
def stCh (w : Nat) : Nat → Int32 := fun j => (stB.getD w []).getD j 0 &&& 255
theorem stepI {k k2 : Int} {X : Int} (h : k ≤ X) (g : ¬ X = k) (e : k + 1 = k2) : k2 ≤ X := by omega
theorem swo_0_2 {x : Int32} (h0 : ¬ x = 0) (h1 : ¬ x = 1) (h2 : ¬ x = 2) : x.toInt < 0 ∨ 2 < x.toInt := by
  by_cases a : x.toInt < 0
  · exact Or.inl a
  refine Or.inr ?_
  have b0 : (0 : Int) ≤ x.toInt := Int.not_lt.mp a
  have b1 : (1 : Int) ≤ x.toInt := stepI b0 (fun q => h0 (Int32.toInt_inj.mp q)) rfl
  have b2 : (2 : Int) ≤ x.toInt := stepI b1 (fun q => h1 (Int32.toInt_inj.mp q)) rfl
  have b3 : (3 : Int) ≤ x.toInt := stepI b2 (fun q => h2 (Int32.toInt_inj.mp q)) rfl
  exact b3
theorem swo_0_4 {x : Int32} (h0 : ¬ x = 0) (h1 : ¬ x = 1) (h2 : ¬ x = 2) (h3 : ¬ x = 3) (h4 : ¬ x = 4) : x.toInt < 0 ∨ 4 < x.toInt := by
  by_cases a : x.toInt < 0
  · exact Or.inl a
  refine Or.inr ?_
  have b0 : (0 : Int) ≤ x.toInt := Int.not_lt.mp a
  have b1 : (1 : Int) ≤ x.toInt := stepI b0 (fun q => h0 (Int32.toInt_inj.mp q)) rfl
  have b2 : (2 : Int) ≤ x.toInt := stepI b1 (fun q => h1 (Int32.toInt_inj.mp q)) rfl
  have b3 : (3 : Int) ≤ x.toInt := stepI b2 (fun q => h2 (Int32.toInt_inj.mp q)) rfl
  have b4 : (4 : Int) ≤ x.toInt := stepI b3 (fun q => h3 (Int32.toInt_inj.mp q)) rfl
  have b5 : (5 : Int) ≤ x.toInt := stepI b4 (fun q => h4 (Int32.toInt_inj.mp q)) rfl
  exact b5
theorem swo_0_5 {x : Int32} (h0 : ¬ x = 0) (h1 : ¬ x = 1) (h2 : ¬ x = 2) (h3 : ¬ x = 3) (h4 : ¬ x = 4) (h5 : ¬ x = 5) : x.toInt < 0 ∨ 5 < x.toInt := by
  by_cases a : x.toInt < 0
  · exact Or.inl a
  refine Or.inr ?_
  have b0 : (0 : Int) ≤ x.toInt := Int.not_lt.mp a
  have b1 : (1 : Int) ≤ x.toInt := stepI b0 (fun q => h0 (Int32.toInt_inj.mp q)) rfl
  have b2 : (2 : Int) ≤ x.toInt := stepI b1 (fun q => h1 (Int32.toInt_inj.mp q)) rfl
  have b3 : (3 : Int) ≤ x.toInt := stepI b2 (fun q => h2 (Int32.toInt_inj.mp q)) rfl
  have b4 : (4 : Int) ≤ x.toInt := stepI b3 (fun q => h3 (Int32.toInt_inj.mp q)) rfl
  have b5 : (5 : Int) ≤ x.toInt := stepI b4 (fun q => h4 (Int32.toInt_inj.mp q)) rfl
  have b6 : (6 : Int) ≤ x.toInt := stepI b5 (fun q => h5 (Int32.toInt_inj.mp q)) rfl
  exact b6
theorem swo_0_6 {x : Int32} (h0 : ¬ x = 0) (h1 : ¬ x = 1) (h2 : ¬ x = 2) (h3 : ¬ x = 3) (h4 : ¬ x = 4) (h5 : ¬ x = 5) (h6 : ¬ x = 6) : x.toInt < 0 ∨ 6 < x.toInt := by
  by_cases a : x.toInt < 0
  · exact Or.inl a
  refine Or.inr ?_
  have b0 : (0 : Int) ≤ x.toInt := Int.not_lt.mp a
  have b1 : (1 : Int) ≤ x.toInt := stepI b0 (fun q => h0 (Int32.toInt_inj.mp q)) rfl
  have b2 : (2 : Int) ≤ x.toInt := stepI b1 (fun q => h1 (Int32.toInt_inj.mp q)) rfl
  have b3 : (3 : Int) ≤ x.toInt := stepI b2 (fun q => h2 (Int32.toInt_inj.mp q)) rfl
  have b4 : (4 : Int) ≤ x.toInt := stepI b3 (fun q => h3 (Int32.toInt_inj.mp q)) rfl
  have b5 : (5 : Int) ≤ x.toInt := stepI b4 (fun q => h4 (Int32.toInt_inj.mp q)) rfl
  have b6 : (6 : Int) ≤ x.toInt := stepI b5 (fun q => h5 (Int32.toInt_inj.mp q)) rfl
  have b7 : (7 : Int) ≤ x.toInt := stepI b6 (fun q => h6 (Int32.toInt_inj.mp q)) rfl
  exact b7
theorem swo_1_5 {x : Int32} (h0 : ¬ x = 1) (h1 : ¬ x = 2) (h2 : ¬ x = 3) (h3 : ¬ x = 4) (h4 : ¬ x = 5) : x.toInt < 1 ∨ 5 < x.toInt := by
  by_cases a : x.toInt < 1
  · exact Or.inl a
  refine Or.inr ?_
  have b0 : (1 : Int) ≤ x.toInt := Int.not_lt.mp a
  have b1 : (2 : Int) ≤ x.toInt := stepI b0 (fun q => h0 (Int32.toInt_inj.mp q)) rfl
  have b2 : (3 : Int) ≤ x.toInt := stepI b1 (fun q => h1 (Int32.toInt_inj.mp q)) rfl
  have b3 : (4 : Int) ≤ x.toInt := stepI b2 (fun q => h2 (Int32.toInt_inj.mp q)) rfl
  have b4 : (5 : Int) ≤ x.toInt := stepI b3 (fun q => h3 (Int32.toInt_inj.mp q)) rfl
  have b5 : (6 : Int) ≤ x.toInt := stepI b4 (fun q => h4 (Int32.toInt_inj.mp q)) rfl
  exact b5
theorem swo_2_4 {x : Int32} (h0 : ¬ x = 2) (h1 : ¬ x = 3) (h2 : ¬ x = 4) : x.toInt < 2 ∨ 4 < x.toInt := by
  by_cases a : x.toInt < 2
  · exact Or.inl a
  refine Or.inr ?_
  have b0 : (2 : Int) ≤ x.toInt := Int.not_lt.mp a
  have b1 : (3 : Int) ≤ x.toInt := stepI b0 (fun q => h0 (Int32.toInt_inj.mp q)) rfl
  have b2 : (4 : Int) ≤ x.toInt := stepI b1 (fun q => h1 (Int32.toInt_inj.mp q)) rfl
  have b3 : (5 : Int) ≤ x.toInt := stepI b2 (fun q => h2 (Int32.toInt_inj.mp q)) rfl
  exact b3
theorem swo_10_61 {x : Int32} (h0 : ¬ x = 10) (h1 : ¬ x = 11) (h2 : ¬ x = 12) (h3 : ¬ x = 13) (h4 : ¬ x = 14) (h5 : ¬ x = 15) (h6 : ¬ x = 16) (h7 : ¬ x = 17) (h8 : ¬ x = 18) (h9 : ¬ x = 19) (h10 : ¬ x = 20) (h11 : ¬ x = 21) (h12 : ¬ x = 22) (h13 : ¬ x = 23) (h14 : ¬ x = 24) (h15 : ¬ x = 25) (h16 : ¬ x = 26) (h17 : ¬ x = 27) (h18 : ¬ x = 28) (h19 : ¬ x = 29) (h20 : ¬ x = 30) (h21 : ¬ x = 31) (h22 : ¬ x = 32) (h23 : ¬ x = 33) (h24 : ¬ x = 34) (h25 : ¬ x = 35) (h26 : ¬ x = 36) (h27 : ¬ x = 37) (h28 : ¬ x = 38) (h29 : ¬ x = 39) (h30 : ¬ x = 40) (h31 : ¬ x = 41) (h32 : ¬ x = 42) (h33 : ¬ x = 43) (h34 : ¬ x = 44) (h35 : ¬ x = 45) (h36 : ¬ x = 46) (h37 : ¬ x = 47) (h38 : ¬ x = 48) (h39 : ¬ x = 49) (h40 : ¬ x = 50) (h41 : ¬ x = 51) (h42 : ¬ x = 52) (h43 : ¬ x = 53) (h44 : ¬ x = 54) (h45 : ¬ x = 55) (h46 : ¬ x = 56) (h47 : ¬ x = 57) (h48 : ¬ x = 58) (h49 : ¬ x = 59) (h50 : ¬ x = 60) (h51 : ¬ x = 61) : x.toInt < 10 ∨ 61 < x.toInt := by
  by_cases a : x.toInt < 10
  · exact Or.inl a
  refine Or.inr ?_
  have b0 : (10 : Int) ≤ x.toInt := Int.not_lt.mp a
  have b1 : (11 : Int) ≤ x.toInt := stepI b0 (fun q => h0 (Int32.toInt_inj.mp q)) rfl
  have b2 : (12 : Int) ≤ x.toInt := stepI b1 (fun q => h1 (Int32.toInt_inj.mp q)) rfl
  have b3 : (13 : Int) ≤ x.toInt := stepI b2 (fun q => h2 (Int32.toInt_inj.mp q)) rfl
  have b4 : (14 : Int) ≤ x.toInt := stepI b3 (fun q => h3 (Int32.toInt_inj.mp q)) rfl
  have b5 : (15 : Int) ≤ x.toInt := stepI b4 (fun q => h4 (Int32.toInt_inj.mp q)) rfl
  have b6 : (16 : Int) ≤ x.toInt := stepI b5 (fun q => h5 (Int32.toInt_inj.mp q)) rfl
  have b7 : (17 : Int) ≤ x.toInt := stepI b6 (fun q => h6 (Int32.toInt_inj.mp q)) rfl
  have b8 : (18 : Int) ≤ x.toInt := stepI b7 (fun q => h7 (Int32.toInt_inj.mp q)) rfl
  have b9 : (19 : Int) ≤ x.toInt := stepI b8 (fun q => h8 (Int32.toInt_inj.mp q)) rfl
  have b10 : (20 : Int) ≤ x.toInt := stepI b9 (fun q => h9 (Int32.toInt_inj.mp q)) rfl
  have b11 : (21 : Int) ≤ x.toInt := stepI b10 (fun q => h10 (Int32.toInt_inj.mp q)) rfl
  have b12 : (22 : Int) ≤ x.toInt := stepI b11 (fun q => h11 (Int32.toInt_inj.mp q)) rfl
  have b13 : (23 : Int) ≤ x.toInt := stepI b12 (fun q => h12 (Int32.toInt_inj.mp q)) rfl
  have b14 : (24 : Int) ≤ x.toInt := stepI b13 (fun q => h13 (Int32.toInt_inj.mp q)) rfl
  have b15 : (25 : Int) ≤ x.toInt := stepI b14 (fun q => h14 (Int32.toInt_inj.mp q)) rfl
  have b16 : (26 : Int) ≤ x.toInt := stepI b15 (fun q => h15 (Int32.toInt_inj.mp q)) rfl
  have b17 : (27 : Int) ≤ x.toInt := stepI b16 (fun q => h16 (Int32.toInt_inj.mp q)) rfl
  have b18 : (28 : Int) ≤ x.toInt := stepI b17 (fun q => h17 (Int32.toInt_inj.mp q)) rfl
  have b19 : (29 : Int) ≤ x.toInt := stepI b18 (fun q => h18 (Int32.toInt_inj.mp q)) rfl
  have b20 : (30 : Int) ≤ x.toInt := stepI b19 (fun q => h19 (Int32.toInt_inj.mp q)) rfl
  have b21 : (31 : Int) ≤ x.toInt := stepI b20 (fun q => h20 (Int32.toInt_inj.mp q)) rfl
  have b22 : (32 : Int) ≤ x.toInt := stepI b21 (fun q => h21 (Int32.toInt_inj.mp q)) rfl
  have b23 : (33 : Int) ≤ x.toInt := stepI b22 (fun q => h22 (Int32.toInt_inj.mp q)) rfl
  have b24 : (34 : Int) ≤ x.toInt := stepI b23 (fun q => h23 (Int32.toInt_inj.mp q)) rfl
  have b25 : (35 : Int) ≤ x.toInt := stepI b24 (fun q => h24 (Int32.toInt_inj.mp q)) rfl
  have b26 : (36 : Int) ≤ x.toInt := stepI b25 (fun q => h25 (Int32.toInt_inj.mp q)) rfl
  have b27 : (37 : Int) ≤ x.toInt := stepI b26 (fun q => h26 (Int32.toInt_inj.mp q)) rfl
  have b28 : (38 : Int) ≤ x.toInt := stepI b27 (fun q => h27 (Int32.toInt_inj.mp q)) rfl
  have b29 : (39 : Int) ≤ x.toInt := stepI b28 (fun q => h28 (Int32.toInt_inj.mp q)) rfl
  have b30 : (40 : Int) ≤ x.toInt := stepI b29 (fun q => h29 (Int32.toInt_inj.mp q)) rfl
  have b31 : (41 : Int) ≤ x.toInt := stepI b30 (fun q => h30 (Int32.toInt_inj.mp q)) rfl
  have b32 : (42 : Int) ≤ x.toInt := stepI b31 (fun q => h31 (Int32.toInt_inj.mp q)) rfl
  have b33 : (43 : Int) ≤ x.toInt := stepI b32 (fun q => h32 (Int32.toInt_inj.mp q)) rfl
  have b34 : (44 : Int) ≤ x.toInt := stepI b33 (fun q => h33 (Int32.toInt_inj.mp q)) rfl
  have b35 : (45 : Int) ≤ x.toInt := stepI b34 (fun q => h34 (Int32.toInt_inj.mp q)) rfl
  have b36 : (46 : Int) ≤ x.toInt := stepI b35 (fun q => h35 (Int32.toInt_inj.mp q)) rfl
  have b37 : (47 : Int) ≤ x.toInt := stepI b36 (fun q => h36 (Int32.toInt_inj.mp q)) rfl
  have b38 : (48 : Int) ≤ x.toInt := stepI b37 (fun q => h37 (Int32.toInt_inj.mp q)) rfl
  have b39 : (49 : Int) ≤ x.toInt := stepI b38 (fun q => h38 (Int32.toInt_inj.mp q)) rfl
  have b40 : (50 : Int) ≤ x.toInt := stepI b39 (fun q => h39 (Int32.toInt_inj.mp q)) rfl
  have b41 : (51 : Int) ≤ x.toInt := stepI b40 (fun q => h40 (Int32.toInt_inj.mp q)) rfl
  have b42 : (52 : Int) ≤ x.toInt := stepI b41 (fun q => h41 (Int32.toInt_inj.mp q)) rfl
  have b43 : (53 : Int) ≤ x.toInt := stepI b42 (fun q => h42 (Int32.toInt_inj.mp q)) rfl
  have b44 : (54 : Int) ≤ x.toInt := stepI b43 (fun q => h43 (Int32.toInt_inj.mp q)) rfl
  have b45 : (55 : Int) ≤ x.toInt := stepI b44 (fun q => h44 (Int32.toInt_inj.mp q)) rfl
  have b46 : (56 : Int) ≤ x.toInt := stepI b45 (fun q => h45 (Int32.toInt_inj.mp q)) rfl
  have b47 : (57 : Int) ≤ x.toInt := stepI b46 (fun q => h46 (Int32.toInt_inj.mp q)) rfl
  have b48 : (58 : Int) ≤ x.toInt := stepI b47 (fun q => h47 (Int32.toInt_inj.mp q)) rfl
  have b49 : (59 : Int) ≤ x.toInt := stepI b48 (fun q => h48 (Int32.toInt_inj.mp q)) rfl
  have b50 : (60 : Int) ≤ x.toInt := stepI b49 (fun q => h49 (Int32.toInt_inj.mp q)) rfl
  have b51 : (61 : Int) ≤ x.toInt := stepI b50 (fun q => h50 (Int32.toInt_inj.mp q)) rfl
  have b52 : (62 : Int) ≤ x.toInt := stepI b51 (fun q => h51 (Int32.toInt_inj.mp q)) rfl
  exact b52
