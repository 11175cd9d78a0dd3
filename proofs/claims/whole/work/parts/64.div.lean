/-! division of small ints -/
theorem i_div {a b : Nat} (ha : a < 2147483648) (hb : b < 2147483648) : Int32.ofNat a / Int32.ofNat b = Int32.ofNat (a / b) := by
  have hq : a / b < 2147483648 := Nat.lt_of_le_of_lt (Nat.div_le_self a b) ha
  apply Int32.toInt_inj.mp
  rw [Int32.toInt_div, i_of ha, i_of hb, i_of hq, ← Int.ofNat_tdiv, Int.bmod_def]
  generalize a / b = q at hq
  split <;> omega
theorem i_sub {a b : Nat} (h : b ≤ a) (ha : a < 2147483648) : Int32.ofNat a - Int32.ofNat b = Int32.ofNat (a - b) := by
  apply Int32.toInt_inj.mp
  rw [Int32.toInt_sub, i_of ha, i_of (by omega), i_of (by omega), Int.bmod_def]
  split <;> omega
theorem i_rem {a b : Nat} (ha : a < 2147483648) (hb : b < 2147483648) : Int32.ofNat a - Int32.ofNat a / Int32.ofNat b * Int32.ofNat b = Int32.ofNat (a % b) := by
  have hl : a / b * b ≤ a := Nat.div_mul_le_self a b
  rw [i_div ha hb, i_mul, i_sub hl ha]
  congr 1
  have := Nat.div_add_mod a b
  rw [Nat.mul_comm] at this
  omega
theorem hou_n {m : Nat} (h : m < 2147483648) : hou (Int32.ofNat m) = Int32.ofNat (m / 60 % 24) := by
  have e : Int32.ofNat m / 60 = Int32.ofNat (m / 60) := i_div (b := 60) h (by decide)
  have e2 := i_rem (a := m / 60) (b := 24) (Nat.lt_of_le_of_lt (Nat.div_le_self m 60) h) (by decide)
  unfold hou
  rw [e]
  exact e2
