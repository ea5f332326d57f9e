/-! PURE 29: kinds and laws named -/
theorem wd_4 {b : Nat → Nat} {n p : Nat} (c1 c2 c3 c4 : Nat) : (decide (tT b n p = 1) && (decide (tE b n p - tS b n p = 4) && (decide (b (tS b n p) = c1) && (decide (b (tS b n p + 1) = c2) && (decide (b (tS b n p + 2) = c3) && decide (b (tS b n p + (4 - 1)) = c4)))))) = (decide (tT b n p = 1) && (decide (tE b n p - tS b n p = ([c1, c2, c3, c4] : List Nat).length) && wdm b (tS b n p) [c1, c2, c3, c4] 0)) := by
  simp [wdm]
section WORDS
variable {b : Nat → Nat} {n p : Nat} {tm : Nat → Int32} {l : Int32}
theorem M_4 (hp : p ≤ n) (h : TM b n tm l) {c1 c2 c3 c4 : Nat} (k1 : c1 < 128) (k2 : c2 < 128) (k3 : c3 < 128) (k4 : c4 < 128) : f_X6_isFour tm l (nI (tT b n p)) (nI (tS b n p)) (nI (tE b n p)) (nI c1) (nI c2) (nI c3) (nI c4) = some (bI (decide (tT b n p = 1) && (decide (tE b n p - tS b n p = ([c1, c2, c3, c4] : List Nat).length) && wdm b (tS b n p) [c1, c2, c3, c4] 0))) := by
  have e := M_name hp h (L := 4) (by decide) (by decide) k1 k2 k3 k4
  rw [wd_4] at e
  have e : f_X6_isName tm l (nI (tT b n p)) (nI (tS b n p)) (nI (tE b n p)) 4 (nI c1) (nI c2) (nI c3) (nI c4) = _ := e
  unfold f_X6_isFour
  rw [e, ob1_s]
theorem M_w0 (hp : p ≤ n) (h : TM b n tm l) : f_X6_isFour tm l (nI (tT b n p)) (nI (tS b n p)) (nI (tE b n p)) 109 97 114 107 = some (bI (wd b n p 0)) := M_4 hp h (c1 := 109) (c2 := 97) (c3 := 114) (c4 := 107) (by decide) (by decide) (by decide) (by decide)
theorem M_w1 (hp : p ≤ n) (h : TM b n tm l) : f_X6_isFour tm l (nI (tT b n p)) (nI (tS b n p)) (nI (tE b n p)) 115 104 105 112 = some (bI (wd b n p 1)) := M_4 hp h (c1 := 115) (c2 := 104) (c3 := 105) (c4 := 112) (by decide) (by decide) (by decide) (by decide)
theorem M_w5 (hp : p ≤ n) (h : TM b n tm l) : f_X6_isFour tm l (nI (tT b n p)) (nI (tS b n p)) (nI (tE b n p)) 110 97 109 101 = some (bI (wd b n p 5)) := M_4 hp h (c1 := 110) (c2 := 97) (c3 := 109) (c4 := 101) (by decide) (by decide) (by decide) (by decide)
theorem M_w9 (hp : p ≤ n) (h : TM b n tm l) : f_X6_isFour tm l (nI (tT b n p)) (nI (tS b n p)) (nI (tE b n p)) 119 105 116 104 = some (bI (wd b n p 9)) := M_4 hp h (c1 := 119) (c2 := 105) (c3 := 116) (c4 := 104) (by decide) (by decide) (by decide) (by decide)
theorem M_w10 (hp : p ≤ n) (h : TM b n tm l) : f_X6_isFour tm l (nI (tT b n p)) (nI (tS b n p)) (nI (tE b n p)) 108 111 97 100 = some (bI (wd b n p 10)) := M_4 hp h (c1 := 108) (c2 := 111) (c3 := 97) (c4 := 100) (by decide) (by decide) (by decide) (by decide)
theorem M_w11 (hp : p ≤ n) (h : TM b n tm l) : f_X6_isFour tm l (nI (tT b n p)) (nI (tS b n p)) (nI (tE b n p)) 102 97 100 101 = some (bI (wd b n p 11)) := M_4 hp h (c1 := 102) (c2 := 97) (c3 := 100) (c4 := 101) (by decide) (by decide) (by decide) (by decide)
theorem M_w12 (hp : p ≤ n) (h : TM b n tm l) : f_X6_isFour tm l (nI (tT b n p)) (nI (tS b n p)) (nI (tE b n p)) 116 105 100 101 = some (bI (wd b n p 12)) := M_4 hp h (c1 := 116) (c2 := 105) (c3 := 100) (c4 := 101) (by decide) (by decide) (by decide) (by decide)
theorem M_5 (hp : p ≤ n) (h : TM b n tm l) {c1 c2 c3 c4 c5 : Nat} (k1 : c1 < 128) (k2 : c2 < 128) (k3 : c3 < 128) (k4 : c4 < 128) (k5 : c5 < 128) : f_X6_isFive tm l (nI (tT b n p)) (nI (tS b n p)) (nI (tE b n p)) (nI c1) (nI c2) (nI c3) (nI c4) (nI c5) = some (bI (decide (tT b n p = 1) && (decide (tE b n p - tS b n p = ([c1, c2, c3, c4, c5] : List Nat).length) && wdm b (tS b n p) [c1, c2, c3, c4, c5] 0))) := by
  have e := M_name hp h (L := 5) (c1 := c1) (c2 := c2) (c3 := c3) (c4 := c5) (by decide) (by decide) k1 k2 k3 k5
  have e : f_X6_isName tm l (nI (tT b n p)) (nI (tS b n p)) (nI (tE b n p)) 5 (nI c1) (nI c2) (nI c3) (nI c5) = _ := e
  obtain ⟨b1, b2, b3⟩ := tE_b b hp
  have hn := h.1
  have hs := tS_le b hp
  unfold f_X6_isFive
  rw [e, ob1_s, bI_if, show nI (tS b n p) + 3 = nI (tS b n p + 3) from nI_add _ 3, m_at h (by omega), ob1_s]
  by_cases z : tE b n p - tS b n p = 5
  · rw [bt_in (by omega)]
    have g1 := (h.2.2 (tS b n p + 3) (by omega)).1
    rw [ite_eq (by omega) (by omega)]
    by_cases w4 : b (tS b n p + 3) = c4
    · rw [if_pos w4]
      simp [wdm, z, w4, bI]
      split <;> rfl
    · rw [if_neg w4]
      simp [wdm, z, w4, bI]
  · rw [if_neg (by simp [z])]
    simp [wdm, z, bI]
theorem M_w2 (hp : p ≤ n) (h : TM b n tm l) : f_X6_isFive tm l (nI (tT b n p)) (nI (tS b n p)) (nI (tE b n p)) 115 110 97 107 101 = some (bI (wd b n p 2)) := M_5 hp h (c1 := 115) (c2 := 110) (c3 := 97) (c4 := 107) (c5 := 101) (by decide) (by decide) (by decide) (by decide) (by decide)
theorem M_w8 (hp : p ≤ n) (h : TM b n tm l) : f_X6_isFive tm l (nI (tT b n p)) (nI (tS b n p)) (nI (tE b n p)) 116 111 117 99 104 = some (bI (wd b n p 8)) := M_5 hp h (c1 := 116) (c2 := 111) (c3 := 117) (c4 := 99) (c5 := 104) (by decide) (by decide) (by decide) (by decide) (by decide)
theorem M_6 (hp : p ≤ n) (h : TM b n tm l) {c1 c2 c3 c4 c5 c6 : Nat} (k1 : c1 < 128) (k2 : c2 < 128) (k3 : c3 < 128) (k4 : c4 < 128) (k5 : c5 < 128) (k6 : c6 < 128) {β : Type} (J K : Option β) : ob1 (f_X6_isName tm l (nI (tT b n p)) (nI (tS b n p)) (nI (tE b n p)) 6 (nI c1) (nI c2) (nI c3) (nI c6)) (fun (r13 : Int32) => lj J (fun j16 => if r13 = 0 then j16 else ob1 (f_X6_isSame tm l (nI (tS b n p)) 2 (nI c3) (nI c4) (nI c5)) (fun (r31 : Int32) => if r31 = 0 then j16 else K))) = if (decide (tT b n p = 1) && (decide (tE b n p - tS b n p = ([c1, c2, c3, c4, c5, c6] : List Nat).length) && wdm b (tS b n p) [c1, c2, c3, c4, c5, c6] 0)) = true then K else J := by
  have e := M_name hp h (L := 6) (c1 := c1) (c2 := c2) (c3 := c3) (c4 := c6) (by decide) (by decide) k1 k2 k3 k6
  have e : f_X6_isName tm l (nI (tT b n p)) (nI (tS b n p)) (nI (tE b n p)) 6 (nI c1) (nI c2) (nI c3) (nI c6) = _ := e
  obtain ⟨b1, b2, b3⟩ := tE_b b hp
  have hn := h.1
  have hs := tS_le b hp
  rw [e, ob1_s, lj_s, bI_if]
  unfold f_X6_isSame
  rw [show nI (tS b n p) + 2 = nI (tS b n p + 2) from nI_add _ 2, nI_1, nI_2, m_at h (by omega), m_at h (by omega), m_at h (by omega), ob1_s, ob1_s, ob1_s]
  by_cases z : tE b n p - tS b n p = 6
  · rw [bt_in (by omega), bt_in (by omega), bt_in (by omega)]
    have g1 := (h.2.2 (tS b n p + 2) (by omega)).1
    have g2 := (h.2.2 (tS b n p + 2 + 1) (by omega)).1
    have g3 := (h.2.2 (tS b n p + 2 + 2) (by omega)).1
    rw [ite_eq (by omega) (by omega), ite_eq (by omega) (by omega), ite_eq (by omega) (by omega)]
    by_cases w3 : b (tS b n p + 2) = c3
    · rw [if_pos w3]
      by_cases w4 : b (tS b n p + 2 + 1) = c4
      · rw [if_pos w4]
        by_cases w5 : b (tS b n p + 2 + 2) = c5
        · rw [if_pos w5, ob1_s, if_neg n10]
          simp [wdm, z, w3, show b (tS b n p + 3) = c4 from w4, show b (tS b n p + 4) = c5 from w5]
        · rw [if_neg w5, ob1_s, if_pos rfl]
          simp [wdm, z, show ¬ b (tS b n p + 4) = c5 from w5]
      · rw [if_neg w4, ob1_s, if_pos rfl]
        simp [wdm, z, show ¬ b (tS b n p + 3) = c4 from w4]
    · rw [if_neg w3, ob1_s, if_pos rfl]
      simp [wdm, z, w3]
  · rw [if_neg (by simp [z])]
    simp [z]
theorem M_w3 (hp : p ≤ n) (h : TM b n tm l) {β : Type} (J K : Option β) : ob1 (f_X6_isName tm l (nI (tT b n p)) (nI (tS b n p)) (nI (tE b n p)) 6 97 110 99 114) (fun (r13 : Int32) => lj J (fun j16 => if r13 = 0 then j16 else ob1 (f_X6_isSame tm l (nI (tS b n p)) 2 99 104 111) (fun (r31 : Int32) => if r31 = 0 then j16 else K))) = if wd b n p 3 = true then K else J := M_6 hp h (c1 := 97) (c2 := 110) (c3 := 99) (c4 := 104) (c5 := 111) (c6 := 114) (by decide) (by decide) (by decide) (by decide) (by decide) (by decide) J K
theorem M_w4 (hp : p ≤ n) (h : TM b n tm l) {β : Type} (J K : Option β) : ob1 (f_X6_isName tm l (nI (tT b n p)) (nI (tS b n p)) (nI (tE b n p)) 6 100 114 97 110) (fun (r13 : Int32) => lj J (fun j16 => if r13 = 0 then j16 else ob1 (f_X6_isSame tm l (nI (tS b n p)) 2 97 103 111) (fun (r31 : Int32) => if r31 = 0 then j16 else K))) = if wd b n p 4 = true then K else J := M_6 hp h (c1 := 100) (c2 := 114) (c3 := 97) (c4 := 103) (c5 := 111) (c6 := 110) (by decide) (by decide) (by decide) (by decide) (by decide) (by decide) J K
theorem M_w13 (hp : p ≤ n) (h : TM b n tm l) {β : Type} (J K : Option β) : ob1 (f_X6_isName tm l (nI (tT b n p)) (nI (tS b n p)) (nI (tE b n p)) 6 99 104 97 101) (fun (r13 : Int32) => if r13 = 0 then J else ob1 (f_X6_isSame tm l (nI (tS b n p)) 2 97 110 99) (fun (r31 : Int32) => if r31 = 0 then J else K)) = if wd b n p 13 = true then K else J := M_6 hp h (c1 := 99) (c2 := 104) (c3 := 97) (c4 := 110) (c5 := 99) (c6 := 101) (by decide) (by decide) (by decide) (by decide) (by decide) (by decide) J K
def kdN (b : Nat → Nat) (n p : Nat) : Int32 := if wd b n p 0 = true then 0 else if wd b n p 1 = true then 1 else if wd b n p 2 = true then 2 else if wd b n p 3 = true then 3 else if wd b n p 4 = true then 4 else if wd b n p 5 = true then 5 else -1
def lwN (b : Nat → Nat) (n p : Nat) : Int32 := if wd b n p 10 = true then 0 else if wd b n p 11 = true then 1 else if wd b n p 12 = true then 2 else if wd b n p 13 = true then 3 else -1
theorem sm_if {α : Type} {c : Prop} [Decidable c] (x y : α) : (if c then some x else some y) = some (if c then x else y) := by
  by_cases h : c
  · rw [if_pos h, if_pos h]
  · rw [if_neg h, if_neg h]
theorem C_kindNamed {N : Nat} (hN : 500 ≤ N) {v : TV} (h : CT b n p v) : f_X4_kindNamed N v = some (kdN b n p) := by
  unfold f_X4_kindNamed kdN
  rw [C_isWord hN (by decide) h, C_isWord hN (by decide) h, C_isWord hN (by decide) h, C_isWord hN (by decide) h, C_isWord hN (by decide) h, C_isWord hN (by decide) h]
  rw [ob1_s, bI_if, ob1_s, bI_if, ob1_s, bI_if, ob1_s, bI_if, ob1_s, bI_if, ob1_s, bI_if]
  rw [sm_if, sm_if, sm_if, sm_if, sm_if, sm_if]
theorem C_lawNamed {N : Nat} (hN : 500 ≤ N) {v : TV} (h : CT b n p v) : f_X4_lawNamed N v = some (lwN b n p) := by
  unfold f_X4_lawNamed lwN
  rw [C_isWord hN (by decide) h, C_isWord hN (by decide) h, C_isWord hN (by decide) h, C_isWord hN (by decide) h]
  rw [ob1_s, bI_if, ob1_s, bI_if, ob1_s, bI_if, ob1_s, bI_if]
  rw [sm_if, sm_if, sm_if, sm_if]
theorem M_kindHere (hp : p ≤ n) (h : TM b n tm l) : f_X6_kindHere tm l (nI (tT b n p)) (nI (tS b n p)) (nI (tE b n p)) = some (kdN b n p) := by
  unfold f_X6_kindHere kdN
  rw [M_w0 hp h, M_w1 hp h, M_w2 hp h, M_w5 hp h]
  rw [ob1_s, bI_if, ob1_s, bI_if, ob1_s, bI_if]
  rw [M_w4 hp h, M_w3 hp h, ob1_s, bI_if]
  rw [sm_if, sm_if, sm_if, sm_if, sm_if, sm_if]
theorem M_lawHere (hp : p ≤ n) (h : TM b n tm l) : f_X6_lawHere tm l (nI (tT b n p)) (nI (tS b n p)) (nI (tE b n p)) = some (if lwN b n p < 0 then -1 else lwN b n p + 3) := by
  unfold f_X6_lawHere lwN
  rw [M_w10 hp h, M_w11 hp h, M_w12 hp h]
  rw [ob1_s, bI_if, ob1_s, bI_if, ob1_s, bI_if]
  rw [M_w13 hp h]
  by_cases q0 : wd b n p 10 = true
  · rw [if_pos q0, if_pos q0]; rfl
  · rw [if_neg q0, if_neg q0]
    by_cases q1 : wd b n p 11 = true
    · rw [if_pos q1, if_pos q1]; rfl
    · rw [if_neg q1, if_neg q1]
      by_cases q2 : wd b n p 12 = true
      · rw [if_pos q2, if_pos q2]; rfl
      · rw [if_neg q2, if_neg q2]
        by_cases q3 : wd b n p 13 = true
        · rw [if_pos q3, if_pos q3]; rfl
        · rw [if_neg q3, if_neg q3]; rfl
theorem kd_c (b : Nat → Nat) (n p : Nat) : kdN b n p = -1 ∨ ∃ k : Nat, k < 6 ∧ kdN b n p = nI k := by
  unfold kdN
  by_cases q0 : wd b n p 0 = true
  · rw [if_pos q0]; exact Or.inr ⟨0, by decide, rfl⟩
  rw [if_neg q0]
  by_cases q1 : wd b n p 1 = true
  · rw [if_pos q1]; exact Or.inr ⟨1, by decide, rfl⟩
  rw [if_neg q1]
  by_cases q2 : wd b n p 2 = true
  · rw [if_pos q2]; exact Or.inr ⟨2, by decide, rfl⟩
  rw [if_neg q2]
  by_cases q3 : wd b n p 3 = true
  · rw [if_pos q3]; exact Or.inr ⟨3, by decide, rfl⟩
  rw [if_neg q3]
  by_cases q4 : wd b n p 4 = true
  · rw [if_pos q4]; exact Or.inr ⟨4, by decide, rfl⟩
  rw [if_neg q4]
  by_cases q5 : wd b n p 5 = true
  · rw [if_pos q5]; exact Or.inr ⟨5, by decide, rfl⟩
  rw [if_neg q5]
  exact Or.inl rfl
theorem lw_c (b : Nat → Nat) (n p : Nat) : lwN b n p = -1 ∨ ∃ k : Nat, k < 4 ∧ lwN b n p = nI k := by
  unfold lwN
  by_cases q0 : wd b n p 10 = true
  · rw [if_pos q0]; exact Or.inr ⟨0, by decide, rfl⟩
  rw [if_neg q0]
  by_cases q1 : wd b n p 11 = true
  · rw [if_pos q1]; exact Or.inr ⟨1, by decide, rfl⟩
  rw [if_neg q1]
  by_cases q2 : wd b n p 12 = true
  · rw [if_pos q2]; exact Or.inr ⟨2, by decide, rfl⟩
  rw [if_neg q2]
  by_cases q3 : wd b n p 13 = true
  · rw [if_pos q3]; exact Or.inr ⟨3, by decide, rfl⟩
  rw [if_neg q3]
  exact Or.inl rfl
theorem wd_len {b : Nat → Nat} {n p w : Nat} (h : wd b n p w = true) : tT b n p = 1 ∧ tE b n p - tS b n p = (stN w).length := by
  unfold wd at h
  simp only [Bool.and_eq_true, decide_eq_true_eq] at h
  exact ⟨h.1, h.2.1⟩
theorem wd_tl {b : Nat → Nat} {n p : Nat} (h : wd b n p 8 = true) : lwN b n p = -1 := by
  have e : tE b n p - tS b n p = 5 := (wd_len h).2
  have f : ∀ w, ¬ (stN w).length = 5 → ¬ wd b n p w = true := fun w g z => g ((wd_len z).2.symm.trans e)
  unfold lwN
  rw [if_neg (f 10 (by decide)), if_neg (f 11 (by decide)), if_neg (f 12 (by decide)), if_neg (f 13 (by decide))]
/-- a kind, a law or the word touch: the token is a name -/
theorem kd_T {b : Nat → Nat} {n p : Nat} (h : ¬ kdN b n p = -1) : tT b n p = 1 := by
  by_cases q : tT b n p = 1
  · exact q
  · have f : ∀ w, ¬ wd b n p w = true := fun w z => q (wd_len z).1
    exfalso
    apply h
    unfold kdN
    rw [if_neg (f 0), if_neg (f 1), if_neg (f 2), if_neg (f 3), if_neg (f 4), if_neg (f 5)]
theorem lw_T {b : Nat → Nat} {n p : Nat} (h : ¬ lwN b n p = -1) : tT b n p = 1 := by
  by_cases q : tT b n p = 1
  · exact q
  · have f : ∀ w, ¬ wd b n p w = true := fun w z => q (wd_len z).1
    exfalso
    apply h
    unfold lwN
    rw [if_neg (f 10), if_neg (f 11), if_neg (f 12), if_neg (f 13)]
end WORDS
