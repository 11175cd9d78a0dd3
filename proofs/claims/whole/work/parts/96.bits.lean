/-! bits of a small int -/
theorem and_1 (y : Int32) : y &&& 1 = if y.toBitVec.getLsbD 0 then 1 else 0 := by
  apply Int32.toBitVec_inj.mp
  rw [Int32.toBitVec_and]
  apply BitVec.eq_of_getLsbD_eq
  intro i hi
  rw [BitVec.getLsbD_and]
  have o : (1 : Int32).toBitVec = 1#32 := by decide
  have z : (0 : Int32).toBitVec = 0#32 := by decide
  rw [o, BitVec.getLsbD_one]
  by_cases c : y.toBitVec.getLsbD 0 = true
  · rw [if_pos c, o, BitVec.getLsbD_one]
    by_cases q : i = 0
    · rw [q, c]; rfl
    · simp [q]
  · rw [if_neg c, z]
    by_cases q : i = 0
    · rw [q, eq_false_of_ne_true c]; rfl
    · simp [q]
theorem shr_b0 (x c : Int32) (k : Nat) (hk : k < 8) (hc : c.toBitVec.smod 32 = BitVec.ofNat 32 k) : (x >>> c).toBitVec.getLsbD 0 = x.toBitVec.getLsbD k := by
  rw [Int32.toBitVec_shiftRight, hc]
  have e : (BitVec.ofNat 32 k).toNat = k := by
    rw [BitVec.toNat_ofNat]
    exact Nat.mod_eq_of_lt (by omega)
  show (x.toBitVec.sshiftRight (BitVec.ofNat 32 k).toNat).getLsbD 0 = _
  rw [e, BitVec.getLsbD_sshiftRight]
  simp [show k < 32 by omega]
theorem btv_b (x : Int32) {k : Nat} (hk : k < 8) : btv x k = if x.toBitVec.getLsbD k then 1 else 0 := by
  have hc : ∀ k, k < 8 → (Int32.ofNat k &&& 31).toBitVec.smod 32 = BitVec.ofNat 32 k := by decide
  unfold btv
  rw [and_1, shr_b0 x _ k hk (hc k hk)]
def msk (k : Nat) : Int32 := 1 <<< (Int32.ofNat k &&& 31)
theorem msk_b : ∀ k, k < 8 → ∀ j, j < 32 → (msk k).toBitVec.getLsbD j = decide (j = k) := by decide
theorem wbt_b {x b : Int32} {k j : Nat} (hk : k < 8) (hj : j < 32) : (wbt x (Int32.ofNat k) b).toBitVec.getLsbD j = if j = k then decide (¬ b = 0) else x.toBitVec.getLsbD j := by
  unfold wbt
  show (if b = 0 then x &&& (msk k ^^^ (-1)) else x ||| msk k).toBitVec.getLsbD j = _
  have o : (-1 : Int32).toBitVec = BitVec.allOnes 32 := by decide
  by_cases c : b = 0
  · rw [if_pos c, Int32.toBitVec_and, Int32.toBitVec_xor, BitVec.getLsbD_and, BitVec.getLsbD_xor, msk_b k hk j hj, o, BitVec.getLsbD_allOnes]
    by_cases q : j = k
    · simp [q, c, show k < 32 by omega]
    · simp [q, hj]
  · rw [if_neg c, Int32.toBitVec_or, BitVec.getLsbD_or, msk_b k hk j hj]
    by_cases q : j = k
    · simp [q, c]
    · simp [q]
theorem wbt_v {x b : Int32} {k j : Nat} (hk : k < 8) (hj : j < 8) : btv (wbt x (Int32.ofNat k) b) j = if j = k then (if b = 0 then 0 else 1) else btv x j := by
  rw [btv_b _ hj, btv_b _ hj, wbt_b hk (by omega)]
  by_cases q : j = k
  · rw [if_pos q, if_pos q]
    by_cases c : b = 0
    · simp [c]
    · simp [c]
  · rw [if_neg q, if_neg q]
/-- an int between 0 and 2^s - 1, by its bits -/
theorem rng_b {x : Int32} {s : Nat} (hs : s ≤ 8) : irng x 0 (2 ^ s - 1) ↔ ∀ j, s ≤ j → j < 32 → x.toBitVec.getLsbD j = false := by
  have tn : x.toBitVec.toNat < 2 ^ 32 := x.toBitVec.isLt
  have ti : x.toInt = x.toBitVec.toInt := rfl
  have p2 : 2 ^ s ≤ 2 ^ 8 := Nat.pow_le_pow_right (by decide) hs
  have cast : ((2 : Int) ^ s) = ((2 ^ s : Nat) : Int) := by rw [Int.natCast_pow]; rfl
  unfold irng
  rw [ti, BitVec.toInt_eq_toNat_cond, cast]
  constructor
  · intro h j h1 h2
    have hx : x.toBitVec.toNat < 2 ^ s := by
      split at h <;> omega
    show x.toBitVec.toNat.testBit j = false
    exact Nat.testBit_lt_two_pow (Nat.lt_of_lt_of_le hx (Nat.pow_le_pow_right (by decide) h1))
  · intro h
    have hx : x.toBitVec.toNat < 2 ^ s := by
      apply Nat.lt_pow_two_of_testBit
      intro j hj
      by_cases q : j < 32
      · exact h j hj q
      · exact Nat.testBit_lt_two_pow (Nat.lt_of_lt_of_le tn (Nat.pow_le_pow_right (by decide) (by omega)))
    rw [if_pos (by omega)]
    omega
theorem wbt_r {x b : Int32} {k s : Nat} (hs : s ≤ 8) (hk : k < s) (h : irng x 0 (2 ^ s - 1)) : irng (wbt x (Int32.ofNat k) b) 0 (2 ^ s - 1) := by
  rw [rng_b hs] at h ⊢
  intro j h1 h2
  rw [wbt_b (by omega) h2, if_neg (by omega)]
  exact h j h1 h2
theorem bit_v {x : Int32} {k : Nat} : bit x (Int32.ofNat k) = btv x k := by
  unfold bit
  show (if btv x k = 0 then 0 else 1) = btv x k
  rcases btv_0 (x := x) (k := k) with q | q
  · rw [q]; rfl
  · rw [q]; rfl
