/-! Bits of the words that the class keeps. -/
def tN (x : Int32) : Nat := x.toNatClampNeg
def lb (x : Int32) : Int32 := ((1 : Int32) <<< (x &&& 31)) - 1
/-- b's bits at the place of variable n in its word -/
def mkw (n b : Nat) : Int64 := lN (b * 2 ^ (n % 8 * 8))
theorem mkw_of {n b : Nat} (hb : b < 2 ^ 31) : (nI b).toInt64 <<< ((nI (n % 8 * 8)).toInt64 &&& 63) = mkw n b := by
  rw [nI_l hb, wb_shl b (by omega)]
  rfl
theorem bl_lN (n : Nat) {i : Nat} (hi : i < 64) : bl (lN n) i = n.testBit i := by
  unfold bl
  rw [wb_tb, BitVec.getLsbD_ofNat]
  simp [hi]
theorem bl_mkw (n b : Nat) {i : Nat} (hi : i < 64) : bl (mkw n b) i = (decide (n % 8 * 8 ≤ i) && b.testBit (i - n % 8 * 8)) := by
  unfold mkw
  rw [bl_lN _ hi, ← Nat.shiftLeft_eq, Nat.testBit_shiftLeft]
/-- variable v's eight bits of a word -/
def sb (x : Int64) (v : Nat) : Int32 := (((x).toUInt64 >>> ((nI (v % 8 * 8)).toInt64.toUInt64 &&& Int64.toUInt64 63)).toInt64).toInt32 &&& lb 8
theorem lb_n : ∀ a, a < 9 → lb (nI a) = nI (2 ^ a - 1) := by decide +kernel
theorem lb_sh : ∀ a, a < 9 → ∀ b, b < 9 → lb (nI a) <<< (nI b &&& 31) = nI ((2 ^ a - 1) * 2 ^ b) := by decide +kernel
theorem lb_8 : lb 8 = 255 := by decide +kernel
theorem sb_bits (x : Int64) (v : Nat) : ∃ X, X < 256 ∧ sb x v = nI X ∧ ∀ j, j < 8 → X.testBit j = bl x (v % 8 * 8 + j) := by
  obtain ⟨n, hn, rfl⟩ := wb_of x
  refine ⟨n / 2 ^ (v % 8 * 8) % 256, Nat.mod_lt _ (by decide), ?_, fun j hj => ?_⟩
  · unfold sb
    rw [wb_shr hn (by omega), lN_i, lb_8, pk_and _ 8 (by decide)]
    have e : (nI (n / 2 ^ (v % 8 * 8))).toBitVec.toNat = n / 2 ^ (v % 8 * 8) % 2 ^ 32 := by
      show (BitVec.ofNat 32 (n / 2 ^ (v % 8 * 8))).toNat = _
      rw [BitVec.toNat_ofNat]
    rw [e]
    congr 1
    generalize n / 2 ^ (v % 8 * 8) = N
    omega
  · rw [bl_lN n (by omega), show (256 : Nat) = 2 ^ 8 from rfl, Nat.testBit_mod_two_pow, Nat.testBit_div_two_pow, show j + v % 8 * 8 = v % 8 * 8 + j from Nat.add_comm _ _]
    simp [hj]
theorem nat8 {X Y : Nat} (hX : X < 256) (hY : Y < 256) (h : ∀ j, j < 8 → X.testBit j = Y.testBit j) : X = Y := by
  apply Nat.eq_of_testBit_eq
  intro j
  by_cases hj : j < 8
  · exact h j hj
  · have p8 : 256 ≤ 2 ^ j := by
      have := Nat.pow_le_pow_right (show 0 < 2 by decide) (show 8 ≤ j by omega)
      exact this
    rw [Nat.testBit_lt_two_pow (Nat.lt_of_lt_of_le hX p8), Nat.testBit_lt_two_pow (Nat.lt_of_lt_of_le hY p8)]
/-- passThrough: what lies behind a point, a word -/
def Tw (d : Int32) (v b : Nat) (w : Nat) (x : Int64) : Int64 :=
  if d = 0 ∨ d = 3 then x else if w = (if d = 1 then 3 else 0) + v / 8 then x ||| mkw v b else if w = (if d = 1 then 0 else 3) + v / 8 then x &&& (mkw v b ^^^ (-1)) else x
def gnP (pD pV pB : Nat → Int32) (q w i : Nat) : Prop := ¬ (pD q = 0 ∨ pD q = 3) ∧ w = (if pD q = 1 then 3 else 0) + tN (pV q) / 8 ∧ bl (mkw (tN (pV q)) (tN (pB q))) i = true
def klP (pD pV pB : Nat → Int32) (q w i : Nat) : Prop := ¬ (pD q = 0 ∨ pD q = 3) ∧ w = (if pD q = 1 then 0 else 3) + tN (pV q) / 8 ∧ bl (mkw (tN (pV q)) (tN (pB q))) i = true
theorem Tw_bits {pD pV pB : Nat → Int32} {q w i : Nat} {x : Int64} (hv : tN (pV q) < 20) (hi : i < 64) : bl (Tw (pD q) (tN (pV q)) (tN (pB q)) w x) i = true ↔ (gnP pD pV pB q w i ∨ (¬ klP pD pV pB q w i ∧ bl x i = true)) := by
  unfold Tw gnP klP
  by_cases h0 : pD q = 0 ∨ pD q = 3
  · simp [h0]
  · rw [if_neg h0]
    by_cases h1 : pD q = 1
    · simp only [h1, if_true]
      by_cases g : w = 3 + tN (pV q) / 8
      · have g2 : ¬ w = 0 + tN (pV q) / 8 := by omega
        rw [if_pos g, bl_or]
        simp only [h1] at h0
        simp [g, h0]
        cases bl (mkw (tN (pV q)) (tN (pB q))) i <;> simp
      · rw [if_neg g]
        simp only [h1] at h0
        by_cases g2 : w = 0 + tN (pV q) / 8
        · rw [if_pos g2, bl_and, bl_not _ hi]
          cases e1 : bl (mkw (tN (pV q)) (tN (pB q))) i <;> cases e2 : bl x i <;> simp [g, g2, h0]
        · rw [if_neg g2]
          rw [Nat.zero_add] at g2
          simp [g, g2]
    · simp only [h1, if_false]
      by_cases g : w = 0 + tN (pV q) / 8
      · have g2 : ¬ w = 3 + tN (pV q) / 8 := by omega
        rw [if_pos g, bl_or]
        cases e1 : bl (mkw (tN (pV q)) (tN (pB q))) i <;> cases e2 : bl x i <;> simp [g, h0]
      · rw [if_neg g]
        by_cases g2 : w = 3 + tN (pV q) / 8
        · rw [if_pos g2, bl_and, bl_not _ hi]
          cases e1 : bl (mkw (tN (pV q)) (tN (pB q))) i <;> cases e2 : bl x i <;> simp [g, g2, h0]
        · rw [if_neg g2]
          rw [Nat.zero_add] at g
          simp [g, g2]
