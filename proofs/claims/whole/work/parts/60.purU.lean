/-! PURE 21: Euclid's steps -/
def eS : Nat → Nat → Nat → Nat × Nat
  | 0, a, b => (a, b)
  | s + 1, a, b => if b = 0 then (a, b) else eS s b (a % b)
def fbp : Nat → Nat × Nat
  | 0 => (1, 1)
  | s + 1 => ((fbp s).2, (fbp s).1 + (fbp s).2)
theorem fbp_s (s : Nat) : (fbp (s + 1)).1 = (fbp s).2 ∧ (fbp (s + 1)).2 = (fbp s).1 + (fbp s).2 := ⟨rfl, rfl⟩
theorem eS_nz {s a b : Nat} (h : ¬ (eS (s + 1) a b).2 = 0) : ¬ b = 0 ∧ ¬ (eS s b (a % b)).2 = 0 := by
  unfold eS at h
  by_cases c : b = 0
  · rw [if_pos c] at h; exact absurd c h
  · rw [if_neg c] at h; exact ⟨c, h⟩
theorem eS_fb : ∀ (s a b : Nat), ¬ (eS s a b).2 = 0 → (fbp s).1 ≤ b ∧ (b < a → (fbp s).2 ≤ a) := by
  intro s
  induction s with
  | zero =>
    intro a b h
    have h : ¬ b = 0 := h
    show 1 ≤ b ∧ (b < a → 1 ≤ a)
    omega
  | succ s ih =>
    intro a b h
    obtain ⟨hb, h2⟩ := eS_nz h
    have hr : a % b < b := Nat.mod_lt _ (by omega)
    obtain ⟨g1, g2⟩ := ih b (a % b) h2
    have g2 := g2 hr
    rw [(fbp_s s).1, (fbp_s s).2]
    refine ⟨g2, fun hab => ?_⟩
    have hd := Nat.div_add_mod a b
    have hq : 1 ≤ a / b := Nat.div_pos (by omega) (by omega)
    have hm : b ≤ b * (a / b) := Nat.le_mul_of_pos_right b hq
    omega
theorem eS_gcd : ∀ (s a b : Nat), Nat.gcd (eS s a b).2 (eS s a b).1 = Nat.gcd b a := by
  intro s
  induction s with
  | zero => intro a b; rfl
  | succ s ih =>
    intro a b
    unfold eS
    by_cases c : b = 0
    · rw [if_pos c]
    · rw [if_neg c, ih, ← Nat.gcd_rec]
theorem eS_end {s a b : Nat} (h : b < (fbp s).1) : eS s a b = (Nat.gcd b a, 0) := by
  have h0 : (eS s a b).2 = 0 := by
    by_cases c : (eS s a b).2 = 0
    · exact c
    · have := (eS_fb s a b c).1
      omega
  have g := eS_gcd s a b
  rw [h0, Nat.gcd_zero_left] at g
  exact Prod.ext g h0
theorem fb90 : (fbp 90).1 = 4660046610375530309 := by decide +kernel
