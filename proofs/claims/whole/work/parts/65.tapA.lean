/-! PURE 26: feed -/
def byN (x : Int64) (j : Nat) : Nat := (x.toBitVec >>> (8 * j)).toNat % 256
theorem byN_lt (x : Int64) (j : Nat) : byN x j < 256 := Nat.mod_lt _ (by decide)
theorem byN_bit (x : Int64) (j i : Nat) : (byN x j).testBit i = (decide (i < 8) && x.toBitVec.getLsbD (8 * j + i)) := by
  unfold byN
  rw [show (256 : Nat) = 2 ^ 8 from rfl, Nat.testBit_mod_two_pow, BitVec.toNat_ushiftRight, Nat.testBit_shiftRight]
  rfl
theorem by_s1 : ∀ j, j < 8 → ((lN (8 * j)).toBitVec.smod 64).toNat = 8 * j := by decide +kernel
theorem by_s2 : ∀ j, j < 8 → ((UInt64.mod (UInt64.ofNat (8 * j)) 64).toBitVec).toNat = 8 * j := by decide +kernel
theorem by_255 : ∀ i, i < 32 → (255#64).getLsbD i = decide (i < 8) := by decide +kernel
theorem by_m (x : Int64) {j : Nat} (hj : j < 8) : Int64.toInt32 ((x >>> (Int32.toInt64 (8 * nI j) &&& 63)) &&& 255) = nI (byN x j) := by
  rw [(sh_c j hj).1]
  apply Int32.toBitVec_inj.mp
  show ((x.toBitVec.sshiftRight ((lN (8 * j)).toBitVec.smod 64).toNat) &&& 255#64).signExtend 32 = BitVec.ofNat 32 (byN x j)
  rw [by_s1 j hj]
  apply BitVec.eq_of_getLsbD_eq
  intro i hi
  rw [BitVec.getLsbD_ofNat, byN_bit, BitVec.getLsbD_signExtend, if_pos (by omega), BitVec.getLsbD_and, by_255 i hi, BitVec.getLsbD_sshiftRight]
  by_cases q : i < 8
  · simp [q, hi, show 8 * j + i < 64 by omega, show ¬ 64 ≤ i by omega]
  · simp [q]
theorem by_c (x : Int64) {j : Nat} (hj : j < 8) : (Int32.toInt8 (Int64.toInt32 ((Int64.toUInt64 x >>> ((Int32.toInt64 (8 * nI j)).toUInt64 &&& Int64.toUInt64 63)).toInt64))).toInt32 = sgn (byN x j) := by
  rw [(sh_c j hj).2]
  unfold sgn
  refine congrArg Int8.toInt32 ?_
  apply Int8.toBitVec_inj.mp
  show ((x.toBitVec >>> ((UInt64.mod (UInt64.ofNat (8 * j)) 64).toBitVec).toNat).signExtend 32).signExtend 8 = (BitVec.ofNat 32 (byN x j)).signExtend 8
  rw [by_s2 j hj]
  apply BitVec.eq_of_getLsbD_eq
  intro i hi
  rw [BitVec.getLsbD_signExtend, BitVec.getLsbD_signExtend, if_pos (by omega), if_pos (by omega), BitVec.getLsbD_signExtend, if_pos (by omega), BitVec.getLsbD_ofNat, byN_bit, BitVec.getLsbD_ushiftRight]
  simp [hi, show i < 32 by omega]
def TC (b : Nat → Nat) (n : Nat) (v : TV) : Prop := n ≤ 200 ∧ tpLength v = nI n ∧ ∀ j, j < n → b j < 256 ∧ tpBytes v j = sgn (b j)
def TM (b : Nat → Nat) (n : Nat) (tm : Nat → Int32) (l : Int32) : Prop := n ≤ 200 ∧ l = nI n ∧ ∀ j, j < n → b j < 256 ∧ tm j = nI (b j)
def RT (v : TV) (tm : Nat → Int32) (l : Int32) : Prop := ∃ b n, TC b n v ∧ TM b n tm l
theorem C_take {n m : Nat} (x : Int64) (hm : m ≤ 8) (hn : n + m ≤ 200) (k : TV → Option (Int32 × TV)) : ∀ (d j f : Nat) (v : TV), j + d = m → d < f → tpLength v = nI n → ∃ v', f_X4_take_L18 x (nI m) k f (nI j) v = k v' ∧ tpLength v' = nI n ∧ (∀ p, p < n + j → tpBytes v' p = tpBytes v p) ∧ ∀ p, j ≤ p → p < m → tpBytes v' (n + p) = sgn (byN x p) := by
  intro d
  induction d with
  | zero =>
    intro j f v hj hf hl
    obtain ⟨f, rfl⟩ : ∃ f', f = f' + 1 := ⟨f - 1, by omega⟩
    refine ⟨v, ?_, hl, fun _ _ => rfl, fun p h1 h2 => absurd h2 (by omega)⟩
    rw [f_X4_take_L18, if_pos (nI_le (by omega) (by omega))]
  | succ d ih =>
    intro j f v hj hf hl
    obtain ⟨f, rfl⟩ : ∃ f', f = f' + 1 := ⟨f - 1, by omega⟩
    obtain ⟨v', e1, e2, e3, e4⟩ := ih (j + 1) f (tpSetBytes v (upd (tpBytes v) (n + j) (sgn (byN x j)))) (by omega) (by omega) hl
    refine ⟨v', ?_, e2, fun p hp => ?_, fun p h1 h2 => ?_⟩
    · rw [f_X4_take_L18, if_neg (nI_ge (by omega) (by omega)), lj_s, by_c x (by omega), hl, nI_add, ckA_nI (by omega) (by decide), lj_s, lj_s, nI_clamp (by omega), sgn_nar, nI_1]
      exact e1
    · rw [e3 p (by omega)]
      exact upd_n (by omega)
    · by_cases q : p = j
      · rw [q, e3 (n + j) (by omega)]
        exact upd_s
      · exact e4 p (by omega) h2
theorem M_take {n m : Nat} (x : Int64) (hm : m ≤ 8) (hn : n + m ≤ 200) : ∀ (d j f : Nat) (t : Nat → Int32), j + d = m → d < f → ∃ t', f_X6_feed_L32 x (nI m) f (nI j) t (nI (n + j)) = some (nI (n + m), t', nI (n + m)) ∧ (∀ p, p < n + j → t' p = t p) ∧ ∀ p, j ≤ p → p < m → t' (n + p) = nI (byN x p) := by
  intro d
  induction d with
  | zero =>
    intro j f t hj hf
    obtain ⟨f, rfl⟩ : ∃ f', f = f' + 1 := ⟨f - 1, by omega⟩
    refine ⟨t, ?_, fun _ _ => rfl, fun p h1 h2 => absurd h2 (by omega)⟩
    rw [f_X6_feed_L32, if_pos (nI_le (by omega) (by omega)), show n + j = n + m by omega]
  | succ d ih =>
    intro j f t hj hf
    obtain ⟨f, rfl⟩ : ∃ f', f = f' + 1 := ⟨f - 1, by omega⟩
    obtain ⟨t', e1, e3, e4⟩ := ih (j + 1) f (upd t (n + j) (nI (byN x j))) (by omega) (by omega)
    refine ⟨t', ?_, fun p hp => ?_, fun p h1 h2 => ?_⟩
    · rw [f_X6_feed_L32, if_neg (nI_ge (by omega) (by omega)), lj_s, by_m x (by omega), ckA_nI (by omega) (by decide), lj_s, lj_s, lj_s, nI_clamp (by omega), nI_1, nI_1]
      exact e1
    · rw [e3 p (by omega)]
      exact upd_n (by omega)
    · by_cases q : p = j
      · rw [q, e3 (n + j) (by omega)]
        exact upd_s
      · exact e4 p (by omega) h2
def YFd (c : Option (Int32 × TV)) (m : Option (Int32 × (Nat → Int32) × Int32)) : Prop := ∃ (r : Int32) (v' : TV) (t' : Nat → Int32) (l' : Int32), c = some (r, v') ∧ m = some (r, t', l') ∧ RT v' t' l'
theorem Y_feed {N : Nat} (hN : 500 ≤ N) {v : TV} {tm : Nat → Int32} {l : Int32} (h : RT v tm l) (x : Int64) (x1 : Int32) : YFd (f_X5_feed N v x x1) (f_X6_feed N tm l x x1) := by
  obtain ⟨b, n, ⟨hn, hl, hb⟩, -, hl2, hb2⟩ := id h
  unfold f_X5_feed f_X6_feed
  rw [i18]
  rcases wl_c x1 1 (hi := 8) (by decide) (by decide) with q | ⟨m, m1, m8, rfl, q⟩
  · have q : f_X5_within x1 1 8 = 0 := q
    rw [if_pos q, if_pos q]
    exact ⟨_, _, _, _, rfl, rfl, h⟩
  · have q : f_X5_within (nI m) 1 8 = 1 := q
    rw [q, if_neg n10, if_neg n10]
    unfold f_X4_take
    rw [hl, hl2, nI_add]
    by_cases c : n + m ≤ 200
    · have c1 : nI (n + m) ≤ 200 := nI_le (b := 200) c (by decide)
      rw [if_pos c1, if_pos c1, lj_s]
      obtain ⟨v', e1, e2, e3, e4⟩ := C_take (n := n) (m := m) x m8 c (fun (v2 : TV) => lj ((tpLength v2) + nI m) (fun (t4 : Int32) => lj (tpSetLength v2 t4) (fun (v5 : TV) => lj (tpLength v5) (fun (t6 : Int32) => some (t6, v5))))) m 0 N v (by omega) (by omega) hl
      obtain ⟨t', g1, g3, g4⟩ := M_take (n := n) (m := m) x m8 c m 0 N tm (by omega) (by omega)
      have e1 : f_X4_take_L18 x (nI m) (fun (v2 : TV) => lj ((tpLength v2) + nI m) (fun (t4 : Int32) => lj (tpSetLength v2 t4) (fun (v5 : TV) => lj (tpLength v5) (fun (t6 : Int32) => some (t6, v5))))) N 0 v = lj ((tpLength v') + nI m) (fun (t4 : Int32) => lj (tpSetLength v' t4) (fun (v5 : TV) => lj (tpLength v5) (fun (t6 : Int32) => some (t6, v5)))) := e1
      have g1 : f_X6_feed_L32 x (nI m) N 0 tm (nI n) = some (nI (n + m), t', nI (n + m)) := g1
      rw [e1, g1, e2, nI_add, lj_s, lj_s, lj_s, ob2_s]
      refine ⟨_, _, _, _, rfl, rfl, (fun p => if p < n then b p else byN x (p - n)), n + m, ⟨c, rfl, fun j hj => ?_⟩, c, rfl, fun j hj => ?_⟩
      · show (if j < n then b j else byN x (j - n)) < 256 ∧ tpBytes v' j = sgn (if j < n then b j else byN x (j - n))
        by_cases z : j < n
        · rw [if_pos z, e3 j (by omega)]
          exact hb j z
        · have := e4 (j - n) (by omega) (by omega)
          rw [show n + (j - n) = j by omega] at this
          rw [if_neg z, this]
          exact ⟨byN_lt _ _, rfl⟩
      · show (if j < n then b j else byN x (j - n)) < 256 ∧ t' j = nI (if j < n then b j else byN x (j - n))
        by_cases z : j < n
        · rw [if_pos z, g3 j (by omega)]
          exact hb2 j z
        · have := g4 (j - n) (by omega) (by omega)
          rw [show n + (j - n) = j by omega] at this
          rw [if_neg z, this]
          exact ⟨byN_lt _ _, rfl⟩
    · have c1 : ¬ nI (n + m) ≤ 200 := nI_ge (a := 200) (by omega) (by omega)
      rw [if_neg c1, if_neg c1, ob2_s]
      exact ⟨_, _, _, _, rfl, rfl, by rw [← hl2]; exact h⟩
