/-! Long.bitCount, Integer.bitCount, and the reference's count -/
def nv (x : Int64) : Nat := x.toBitVec.toNat
def shu (x : Int64) (k : Int32) : Int64 := (Int64.toUInt64 x >>> ((Int32.toInt64 k).toUInt64 &&& Int64.toUInt64 63)).toInt64
theorem nv_sh {x : Int64} {k : Int32} (m : Nat) (hm : m < 64) (h : ((Int32.toInt64 k).toUInt64 &&& Int64.toUInt64 63).toBitVec % 64 = BitVec.ofNat 64 m) : nv (shu x k) = nv x / 2 ^ m := by
  unfold nv shu
  show ((Int64.toUInt64 x >>> ((Int32.toInt64 k).toUInt64 &&& Int64.toUInt64 63)).toBitVec).toNat = _
  rw [UInt64.toBitVec_shiftRight, h, BitVec.ushiftRight_eq', BitVec.toNat_ushiftRight, BitVec.toNat_ofNat, Nat.mod_eq_of_lt (show m < 2 ^ 64 by omega), Nat.shiftRight_eq_div_pow]
  rfl
theorem nv_and (x c : Int64) : nv (x &&& c) = nv x &&& nv c := by
  unfold nv
  rw [Int64.toBitVec_and, BitVec.toNat_and]
theorem nv_add {x y : Int64} (h : nv x + nv y < 18446744073709551616) : nv (x + y) = nv x + nv y := by
  unfold nv at h ⊢
  rw [Int64.toBitVec_add, BitVec.toNat_add]
  exact Nat.mod_eq_of_lt h
theorem nv_sub {x y : Int64} (h : nv y ≤ nv x) : nv (x - y) = nv x - nv y := by
  have hx : nv x < 18446744073709551616 := x.toBitVec.isLt
  unfold nv at h hx ⊢
  rw [Int64.toBitVec_sub, BitVec.toNat_sub]
  rw [show 2 ^ 64 - y.toBitVec.toNat + x.toBitVec.toNat = (x.toBitVec.toNat - y.toBitVec.toNat) + 18446744073709551616 by have := y.toBitVec.isLt; omega]
  rw [show (2 : Nat) ^ 64 = 18446744073709551616 by decide, Nat.add_mod_right]
  exact Nat.mod_eq_of_lt (by omega)
theorem nv_32 (x : Int64) : (Int64.toInt32 x).toBitVec.toNat = nv x % 4294967296 := by
  unfold nv
  show (x.toBitVec.signExtend 32).toNat = _
  rw [BitVec.signExtend_eq_setWidth_of_le _ (by decide), BitVec.toNat_setWidth]
def lb1 (x : Int64) : Int64 := x - (shu x 1 &&& 6148914691236517205)
def lb2 (x : Int64) : Int64 := (x &&& 3689348814741910323) + (shu x 2 &&& 3689348814741910323)
def lb3 (x : Int64) : Int64 := (x + shu x 4) &&& 1085102592571150095
def lb4 (x : Int64) : Int64 := x + shu x 8
def lb5 (x : Int64) : Int64 := x + shu x 16
def lb6 (x : Int64) : Int64 := x + shu x 32
theorem c_lbc (d : Nat) (x : Int64) (G : mG) (I : Nat → Nat → Int32) (L : Nat → Nat → Int64) : mcal mT (d + 1) 291 [.long x] (G, I, L) = some (.inl (some (.int (Int64.toInt32 (lb6 (lb5 (lb4 (lb3 (lb2 (lb1 x)))))) &&& 127))), (G, I, L)) := by
  rw [q_J13_bitCount_95d88_, e_J13_bitCount_95d88_0]
  rfl
theorem lbc_e (x : Int64) : Int64.toInt32 (lb6 (lb5 (lb4 (lb3 (lb2 (lb1 x)))))) &&& 127 = Int32.ofNat (bsum (nv x) 64) := by
  have hx : nv x < 2 ^ 64 := x.toBitVec.isLt
  have s1 : ∀ x, nv (shu x 1) = nv x / 2 ^ 1 := fun x => nv_sh 1 (by decide) (by decide)
  have s2 : ∀ x, nv (shu x 2) = nv x / 2 ^ 2 := fun x => nv_sh 2 (by decide) (by decide)
  have s4 : ∀ x, nv (shu x 4) = nv x / 2 ^ 4 := fun x => nv_sh 4 (by decide) (by decide)
  have s8 : ∀ x, nv (shu x 8) = nv x / 2 ^ 8 := fun x => nv_sh 8 (by decide) (by decide)
  have s16 : ∀ x, nv (shu x 16) = nv x / 2 ^ 16 := fun x => nv_sh 16 (by decide) (by decide)
  have s32 : ∀ x, nv (shu x 32) = nv x / 2 ^ 32 := fun x => nv_sh 32 (by decide) (by decide)
  have c5 : nv 6148914691236517205 = mkw 85 8 := by decide
  have c3 : nv 3689348814741910323 = mkw 51 8 := by decide
  have cF : nv 1085102592571150095 = mkw 15 8 := by decide
  have n3 : mkw 51 8 = 3689348814741910323 := by decide
  have nF : mkw 15 8 = 1085102592571150095 := by decide
  have e1 : nv (lb1 x) = zs1 (mkw 85 8) (nv x) := by
    unfold lb1
    have l : nv (shu x 1 &&& 6148914691236517205) ≤ nv x := by
      rw [nv_and, s1]
      exact Nat.le_trans Nat.and_le_left (Nat.div_le_self _ _)
    rw [nv_sub l, nv_and, s1, c5]
    rfl
  have e2 : nv (lb2 (lb1 x)) = zs2 (mkw 51 8) (zs1 (mkw 85 8) (nv x)) := by
    unfold lb2
    have l1 : nv (lb1 x &&& 3689348814741910323) ≤ mkw 51 8 := by rw [nv_and, c3]; exact Nat.and_le_right
    have l2 : nv (shu (lb1 x) 2 &&& 3689348814741910323) ≤ mkw 51 8 := by rw [nv_and, c3]; exact Nat.and_le_right
    rw [nv_add (by omega), nv_and, nv_and, s2, c3, e1]
    rfl
  have b2 : nv (lb2 (lb1 x)) ≤ 2 * mkw 51 8 := by
    rw [e2]
    unfold zs2
    have a := Nat.and_le_right (n := zs1 (mkw 85 8) (nv x)) (m := mkw 51 8)
    have b := Nat.and_le_right (n := zs1 (mkw 85 8) (nv x) / 4) (m := mkw 51 8)
    omega
  have e3 : nv (lb3 (lb2 (lb1 x))) = zB 8 (nv x) := by
    unfold lb3
    have l : nv (lb2 (lb1 x)) + nv (shu (lb2 (lb1 x)) 4) < 18446744073709551616 := by
      rw [s4]
      omega
    rw [nv_and, nv_add l, s4, cF, e2]
    rfl
  have b3 : nv (lb3 (lb2 (lb1 x))) ≤ mkw 15 8 := by
    unfold lb3
    rw [nv_and, cF]
    exact Nat.and_le_right
  generalize hy : lb3 (lb2 (lb1 x)) = y at e3 b3
  have e4 : nv (lb4 y) = nv y + nv y / 256 := by
    unfold lb4
    rw [nv_add (by rw [s8]; omega), s8]
  have e5 : nv (lb5 (lb4 y)) = (nv y + nv y / 256) + (nv y + nv y / 256) / 65536 := by
    unfold lb5
    rw [nv_add (by rw [s16, e4]; omega), s16, e4]
  have e6 : nv (lb6 (lb5 (lb4 y))) = zF (nv y) := by
    unfold lb6 zF
    rw [nv_add (by rw [s32, e5]; omega), s32, e5]
  have fin := zB_f hx
  rw [← e3] at fin
  apply Int32.toBitVec_inj.mp
  apply BitVec.eq_of_toNat_eq
  rw [Int32.toBitVec_and, BitVec.toNat_and, nv_32, e6]
  have m7 : ∀ z : Nat, z &&& 127 = z % 128 := fun z => Nat.and_two_pow_sub_one_eq_mod z 7
  show zF (nv y) % 4294967296 &&& 127 = _
  rw [m7, show zF (nv y) % 4294967296 % 128 = zF (nv y) % 128 by omega, fin]
  have bl : bsum (nv x) 64 < 4294967296 := by rw [← fin]; omega
  show _ = (BitVec.ofNat 32 (bsum (nv x) 64)).toNat
  rw [BitVec.toNat_ofNat]
  exact (Nat.mod_eq_of_lt bl).symm
/-- the reference's count of turned bits -/
theorem nv_ar {x : Int64} (h : nv x < 2 ^ 63) {i : Nat} (hi : i < 60) : Int64.toInt32 ((x >>> (Int32.toInt64 (Int32.ofNat i) &&& 63)) &&& 1) = Int32.ofNat (nv x / 2 ^ i % 2) := by
  have hc : ∀ i, i < 60 → (Int32.toInt64 (Int32.ofNat i) &&& 63).toBitVec.smod 64 = BitVec.ofNat 64 i := by decide +kernel
  have hm : x.toBitVec.msb = false := by
    rw [BitVec.msb_eq_false_iff_two_mul_lt]
    unfold nv at h
    omega
  have e : nv (x >>> (Int32.toInt64 (Int32.ofNat i) &&& 63)) = nv x / 2 ^ i := by
    unfold nv
    rw [Int64.toBitVec_shiftRight, hc i hi]
    show (x.toBitVec.sshiftRight (BitVec.ofNat 64 i).toNat).toNat = _
    rw [BitVec.sshiftRight_eq_of_msb_false hm, BitVec.toNat_ushiftRight, BitVec.toNat_ofNat, Nat.mod_eq_of_lt (show i < 2 ^ 64 by omega), Nat.shiftRight_eq_div_pow]
  apply Int32.toBitVec_inj.mp
  apply BitVec.eq_of_toNat_eq
  rw [nv_32, nv_and, e]
  show (nv x / 2 ^ i &&& 1) % 4294967296 = (BitVec.ofNat 32 (nv x / 2 ^ i % 2)).toNat
  rw [Nat.and_one_is_mod, BitVec.toNat_ofNat]
theorem nv_60 {x : Int64} (h : x &&& 1152921504606846975 = x) : nv x < 2 ^ 60 := by
  have e : nv x = nv x % 2 ^ 60 := by
    have := nv_and x 1152921504606846975
    rw [h, show nv 1152921504606846975 = 2 ^ 60 - 1 by decide, Nat.and_two_pow_sub_one_eq_mod] at this
    exact this
  rw [e]
  exact Nat.mod_lt _ (by decide)
theorem r_turned (d : Nat) {G : mG} {I : Nat → Nat → Int32} {L : Nat → Nat → Int64} {k : Nat} (lM : LayM G 219) (hk : k < 8) (h : nv (L 225 k) < 2 ^ 60) : mcal mT (d + 1) 236 [.ref 219, .int (Int32.ofNat k)] (G, I, L) = some (.inl (some (.int (Int32.ofNat (bsum (nv (L 225 k)) 60)))), (G, I, L)) := by
  rw [q_X12_turned_, e_X12_turned_0]
  have A : ∀ j i, j + i = 60 → f_X12_turned d 4 [.ref 219, .int (Int32.ofNat k), .int (Int32.ofNat (bsum (nv (L 225 k)) i)), .int (Int32.ofNat i)] [] (G, I, L) = some (.inl (some (.int (Int32.ofNat (bsum (nv (L 225 k)) 60)))), (G, I, L)) := by
    intro j
    induction j with
    | zero =>
      intro i hi
      rw [show i = 60 by omega, e_X12_turned_4, if_pos (by decide), e_X12_turned_32]
    | succ j ih =>
      intro i hi
      rw [e_X12_turned_4, if_neg (show ¬ (60 : Int32) ≤ Int32.ofNat i from i_ng (a := 60) (by omega) (by decide))]
      simp (disch := omega) only [↓vM lM, ixZ, i_one]
      rw [nv_ar (x := L (219 + 6) k) (show nv (L 225 k) < 2 ^ 63 by omega) (by omega), i_add]
      exact ih (i + 1) (by omega)
  exact A 60 0 (by omega)
