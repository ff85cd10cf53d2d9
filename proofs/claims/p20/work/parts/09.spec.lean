/-! the mathematical words: a tile is sixteen cells of four bits in one long -/
def cel (x : Int64) (k : Nat) : Nat := x.toBitVec.toNat / 16 ^ k % 16
theorem cel_lt (x : Int64) (k : Nat) : cel x k < 16 := Nat.mod_lt _ (by decide)
theorem p16 (k : Nat) : 16 ^ k = 2 ^ (4 * k) := by rw [show (16 : Nat) = 2 ^ 4 from rfl, ← Nat.pow_mul]
theorem cel_bit (x : Int64) (k i : Nat) : (cel x k).testBit i = (decide (i < 4) && x.toBitVec.toNat.testBit (4 * k + i)) := by
  unfold cel
  rw [p16, show (16 : Nat) = 2 ^ 4 from rfl, Nat.testBit_mod_two_pow, Nat.testBit_div_two_pow, Nat.add_comm]
theorem cel_ext {x y : Int64} (h : ∀ k, k < 16 → cel x k = cel y k) : x = y := by
  apply wb_inj
  apply BitVec.eq_of_toNat_eq
  apply Nat.eq_of_testBit_eq
  intro i
  by_cases hi : i < 64
  · have h1 := congrArg (fun n => Nat.testBit n (i % 4)) (h (i / 4) (by omega))
    simp only [cel_bit] at h1
    have h2 : i % 4 < 4 := Nat.mod_lt _ (by decide)
    rw [Nat.div_add_mod] at h1
    simpa [h2] using h1
  · have e1 : x.toBitVec.toNat.testBit i = false := Nat.testBit_lt_two_pow (Nat.lt_of_lt_of_le x.toBitVec.isLt (Nat.pow_le_pow_right (by decide) (by omega)))
    have e2 : y.toBitVec.toNat.testBit i = false := Nat.testBit_lt_two_pow (Nat.lt_of_lt_of_le y.toBitVec.isLt (Nat.pow_le_pow_right (by decide) (by omega)))
    rw [e1, e2]
theorem cel_0 (k : Nat) : cel 0 k = 0 := by
  unfold cel
  have : (0 : Int64).toBitVec.toNat = 0 := rfl
  rw [this, Nat.zero_div]
theorem cel_at {x : Int64} {k : Nat} (hk : k < 16) : ((x.toUInt64 >>> ((nI (4 * k)).toInt64.toUInt64 &&& Int64.toUInt64 63)).toInt64 &&& 15).toInt32 = nI (cel x k) := by
  obtain ⟨n, hn, rfl⟩ := wb_of x
  rw [wb_shr hn (by omega), show (15 : Int64) = lN (2 ^ 4 - 1) from rfl, wb_mask (Nat.lt_of_le_of_lt (Nat.div_le_self _ _) hn) (by decide), lN_i]
  unfold cel
  rw [wb_tn hn, p16]
/-- one cell of a tile painted, as the class writes it -/
def gput (x : Int64) (k v : Nat) : Int64 := (x &&& (((15 : Int64) <<< ((nI (4 * k)).toInt64 &&& 63)) ^^^ (-1))) ||| ((nI v).toInt64 <<< ((nI (4 * k)).toInt64 &&& 63))
theorem cel_put {x : Int64} {k v j : Nat} (hk : k < 16) (hv : v < 16) (hj : j < 16) : cel (gput x k v) j = if j = k then v else cel x j := by
  have e15 : (15 : Int64) <<< ((nI (4 * k)).toInt64 &&& 63) = lN (15 * 2 ^ (4 * k)) := wb_shl 15 (by omega)
  have ev : (nI v).toInt64 <<< ((nI (4 * k)).toInt64 &&& 63) = lN (v * 2 ^ (4 * k)) := by rw [nI_l (by omega)]; exact wb_shl v (by omega)
  have hp : 2 ^ (4 * k) * 16 ≤ 2 ^ 64 := by
    rw [show (16 : Nat) = 2 ^ 4 from rfl, ← Nat.pow_add]
    exact Nat.pow_le_pow_right (by decide) (by omega)
  have h15 : 15 * 2 ^ (4 * k) < 2 ^ 64 := by omega
  have hvb : v * 2 ^ (4 * k) < 2 ^ 64 := Nat.lt_of_le_of_lt (Nat.mul_le_mul_right _ (show v ≤ 15 by omega)) h15
  apply Nat.eq_of_testBit_eq
  intro i
  rw [cel_bit]
  by_cases hi : i < 4
  · have hb : (gput x k v).toBitVec.toNat.testBit (4 * j + i) = ((x.toBitVec.toNat.testBit (4 * j + i) && !((15 * 2 ^ (4 * k)).testBit (4 * j + i))) || (v * 2 ^ (4 * k)).testBit (4 * j + i)) := by
      have hlt : 4 * j + i < 64 := by omega
      unfold gput
      rw [e15, ev]
      have : ((x &&& (lN (15 * 2 ^ (4 * k)) ^^^ (-1))) ||| lN (v * 2 ^ (4 * k))).toBitVec = (x.toBitVec &&& (BitVec.ofNat 64 (15 * 2 ^ (4 * k)) ^^^ BitVec.allOnes 64)) ||| BitVec.ofNat 64 (v * 2 ^ (4 * k)) := by
        rw [Int64.toBitVec_or, Int64.toBitVec_and, Int64.toBitVec_xor, wb_tb, wb_tb]; rfl
      rw [this, BitVec.testBit_toNat, BitVec.getLsbD_or, BitVec.getLsbD_and, BitVec.getLsbD_xor, BitVec.getLsbD_allOnes, ← BitVec.testBit_toNat, ← BitVec.testBit_toNat, ← BitVec.testBit_toNat, BitVec.toNat_ofNat, BitVec.toNat_ofNat, Nat.mod_eq_of_lt h15, Nat.mod_eq_of_lt hvb]
      simp [hlt]
    rw [hb, Nat.testBit_mul_two_pow, Nat.testBit_mul_two_pow]
    by_cases hjk : j = k
    · subst hjk
      have e1 : 4 * j + i - 4 * j = i := by omega
      have e3 : Nat.testBit 15 i = true := by
        rcases (show i = 0 ∨ i = 1 ∨ i = 2 ∨ i = 3 by omega) with rfl | rfl | rfl | rfl <;> rfl
      rw [e1, e3]
      simp [hi]
    · rw [if_neg hjk, cel_bit]
      by_cases hlt : j < k
      · have e1 : ¬ 4 * k ≤ 4 * j + i := by omega
        simp [hi, e1]
      · have e1 : 4 * k ≤ 4 * j + i := by omega
        have e2 : 4 ≤ 4 * j + i - 4 * k := by omega
        have f1 : Nat.testBit 15 (4 * j + i - 4 * k) = false := Nat.testBit_lt_two_pow (Nat.lt_of_lt_of_le (by decide : 15 < 2 ^ 4) (Nat.pow_le_pow_right (by decide) e2))
        have f2 : Nat.testBit v (4 * j + i - 4 * k) = false := Nat.testBit_lt_two_pow (Nat.lt_of_lt_of_le (by omega : v < 2 ^ 4) (Nat.pow_le_pow_right (by decide) e2))
        simp [hi, e1, f1, f2]
  · have e2 : (if j = k then v else cel x j).testBit i = false := by
      apply Nat.testBit_lt_two_pow
      have h1 : (if j = k then v else cel x j) < 2 ^ 4 := by
        split
        · exact hv
        · exact cel_lt x j
      exact Nat.lt_of_lt_of_le h1 (Nat.pow_le_pow_right (by decide) (by omega))
    rw [e2]
    simp [hi]
/-- the tile of a cell, and its place there -/
abbrev tl (c r : Nat) : Nat := 4 * (r / 4) + c / 4
abbrev plc (c r : Nat) : Nat := 4 * (r % 4) + c % 4
theorem tl_lt {c r : Nat} (hc : c < 16) (hr : r < 12) : tl c r < 12 := by show 4 * (r / 4) + c / 4 < 12; omega
theorem plc_lt (c r : Nat) : plc c r < 16 := by show 4 * (r % 4) + c % 4 < 16; omega
theorem g_cmp0 {x y : Int64} : lg_cmp x y = 0 ↔ x = y := by
  unfold lg_cmp
  constructor
  · intro h
    by_cases h1 : x > y
    · rw [if_pos h1] at h; exact absurd h (by decide)
    · rw [if_neg h1] at h
      by_cases h2 : x = y
      · exact h2
      · rw [if_neg h2] at h; exact absurd h (by decide)
  · intro h
    subst h
    rw [if_neg (by rw [gt_iff_lt, Int64.lt_iff_toInt_lt]; omega), if_pos rfl]
