/-! call: feed -/
theorem Rel_tp {z h hs bl bs cl cs nr n nh M hN w lc mc kc ta : Nat} {rm pi mk : Nat → Nat} {G : mG} {I I' : Nat → Nat → Int32} {L L' : Nat → Nat → Int64} (q : Rel z h hs bl bs cl cs nr n nh M hN w lc mc kc ta rm pi mk G I L) (hz : z + 1 ≤ 512) (hI : ∀ a, ¬ (a = 101 ∨ a = 102 ∨ a = 222) → a ≠ 219 → a ≠ 223 → I' a = I a) (h9 : ∀ k, k ≠ 0 → k ≠ 3 → k ≠ 9 → I' 219 k = I 219 k) (h3 : ∀ j, j < 173 → True → I' 223 j = I 223 j) (hL : ∀ a, a ≠ 251 → L' a = L a) {ta' : Nat} (hTp : TpR I' ta') : Rel (z + 1) h hs bl bs cl cs nr n nh M hN w lc mc kc ta' rm pi mk G I' L' := by
  obtain ⟨a1, a2, ⟨a3, a3'⟩, a4, ⟨a5, a5'⟩, a6, a7, a8, a9, a10, a11, a12, ⟨a13, a13'⟩, a14⟩ := q
  obtain ⟨-, -, hnr8, -, -, hn8⟩ := ho_sz a2
  have hm := a1.2.2.2.2.2.2.2.2.2.2.2.2.2.2.2.2.2.2.2.1
  have hh := a1.2.2.2.2.2.2.2.2.2.2.2.2.2.2.1
  have hb := a1.2.2.2.2.2.2.2.2.2.2.2.2.2.2.2.1
  have hc := a1.2.2.2.2.2.2.2.2.2.2.2.2.2.2.2.2.1
  exact ⟨a1, HoR_c a2 (fun a h1 h2 => hI a (by omega) (by omega) (by omega)) (hI 220 (by omega) (by omega) (by omega)), ⟨FlR_c a3 (fun k h1 h2 h3 h4 => h9 k (by omega) (by omega) (by omega)), by rw [h9 23 (by omega) (by omega) (by omega)]; exact a3'⟩, SeR_c a4 hn8 (fun a h1 h2 => hI a (by omega) (by omega) (by omega)) (fun j hj => h3 j (by omega) (by first | trivial | omega)), ⟨StR_c a5 hn8 hnr8 (fun a h1 h2 => hI a (by omega) (by omega) (by omega)) (hL _ (by omega)) (hI 220 (by omega) (by omega) (by omega)) (fun j hj => h3 j (by omega) (by first | trivial | omega)) (fun j _ => by rw [hL 225 (by omega)]), by omega⟩, TaR_c a6 (fun a h1 h2 => hI a (by omega) (by omega) (by omega)) (hI 220 (by omega) (by omega) (by omega)), DiR_c a7 hnr8 (fun a h1 h2 => hI a (by omega) (by omega) (by omega)) (fun j _ => by rw [hI 228 (by omega) (by omega) (by omega)]) (fun j _ => by rw [hI 229 (by omega) (by omega) (by omega)]), hTp, EgR_c a9 (hI 215 (by omega) (by omega) (by omega)) (hI 217 (by omega) (by omega) (by omega)) (hI 230 (by omega) (by omega) (by omega)) (hI 240 (by omega) (by omega) (by omega)), LgR_c a10 (by rw [hI 100 (by omega) (by omega) (by omega)]) (h9 28 (by omega) (by omega) (by omega)) (hI 218 (by omega) (by omega) (by omega)) (hI 231 (by omega) (by omega) (by omega)) (hI 232 (by omega) (by omega) (by omega)) (hI 233 (by omega) (by omega) (by omega)), BiR_c a11 (by rw [hI (bl + 1) (by omega) (by omega) (by omega)]) (h9 36 (by omega) (by omega) (by omega)) (hI (bl + 2) (by omega) (by omega) (by omega)) (hI 235 (by omega) (by omega) (by omega)) (hI 236 (by omega) (by omega) (by omega)), ClR_c a12 (by rw [hI (cl + 1) (by omega) (by omega) (by omega)]) (h9 44 (by omega) (by omega) (by omega)) (hI (cl + 2) (by omega) (by omega) (by omega)) (hI 241 (by omega) (by omega) (by omega)) (hI 242 (by omega) (by omega) (by omega)), ⟨MkR_c a13 hn8 hnr8 (Nat.le_succ z) (by rw [hI 100 (by omega) (by omega) (by omega)]) (h9 51 (by omega) (by omega) (by omega)) (hI 246 (by omega) (by omega) (by omega)) (hI 247 (by omega) (by omega) (by omega)) (hI 248 (by omega) (by omega) (by omega)) (hI 249 (by omega) (by omega) (by omega)) (hL 250 (by omega)) (hI 220 (by omega) (by omega) (by omega)) (fun i a hi h1 h2 => by
    obtain ⟨-, -, m3, m4⟩ := hm i (by omega)
    exact ⟨hI a (by omega) (by omega) (by omega), hL a (by omega)⟩), a13'⟩, hz⟩
def byt (x : Int32) (s : Nat) : Int32 := (x >>> (Int32.ofNat s &&& 31)) &&& 255
theorem b255 : ∀ j, j < 32 → (255 : Int32).toBitVec.getLsbD j = decide (j < 8) := by decide
theorem byt_u {x : Int32} {s : Nat} (hs : s ≤ 24) : ((Int32.toUInt32 x >>> (Int32.toUInt32 (Int32.ofNat s) &&& Int32.toUInt32 31)).toInt32) &&& 255 = byt x s := by
  have hc : ∀ s, s ≤ 24 → (Int32.toUInt32 (Int32.ofNat s) &&& Int32.toUInt32 31).toBitVec % 32 = BitVec.ofNat 32 s := by decide
  have hd : ∀ s, s ≤ 24 → (Int32.ofNat s &&& 31).toBitVec.smod 32 = BitVec.ofNat 32 s := by decide
  have e : (BitVec.ofNat 32 s).toNat = s := by
    rw [BitVec.toNat_ofNat]
    exact Nat.mod_eq_of_lt (by omega)
  unfold byt
  apply Int32.toBitVec_inj.mp
  rw [Int32.toBitVec_and, Int32.toBitVec_and]
  apply BitVec.eq_of_getLsbD_eq
  intro i hi
  rw [BitVec.getLsbD_and, BitVec.getLsbD_and, b255 i hi]
  by_cases c : i < 8
  · have a1 : ((Int32.toUInt32 x >>> (Int32.toUInt32 (Int32.ofNat s) &&& Int32.toUInt32 31)).toInt32).toBitVec = x.toBitVec >>> s := by
      show (Int32.toUInt32 x >>> (Int32.toUInt32 (Int32.ofNat s) &&& Int32.toUInt32 31)).toBitVec = _
      rw [UInt32.toBitVec_shiftRight, hc s hs, BitVec.ushiftRight_eq', e]
      rfl
    have a2 : (x >>> (Int32.ofNat s &&& 31)).toBitVec = x.toBitVec.sshiftRight s := by
      rw [Int32.toBitVec_shiftRight, hd s hs]
      show x.toBitVec.sshiftRight (BitVec.ofNat 32 s).toNat = _
      rw [e]
    rw [a1, a2, BitVec.getLsbD_ushiftRight, BitVec.getLsbD_sshiftRight, if_pos (show s + i < 32 by omega)]
    simp [c, show i < 32 by omega]
  · simp [c]
theorem byt_r {x : Int32} {s : Nat} : irng (byt x s) 0 255 := by
  have := (rng_b (x := byt x s) (s := 8) (by decide)).mpr (by
    intro j h1 h2
    unfold byt
    rw [Int32.toBitVec_and, BitVec.getLsbD_and, b255 j h2]
    simp [show ¬ j < 8 by omega])
  exact this
/-- a row and its size -/
def fdx (a b k : Nat) (I : Nat → Nat → Int32) (t : Nat) (R : Nat → Int32) : Nat → Nat → Int32 := va_up (va_up I a R) b (va_up (I b) k (Int32.ofNat t))
section
variable {a b k t t' : Nat} {I : Nat → Nat → Int32} {R R' : Nat → Int32}
theorem fdx_a (h : a ≠ b) : fdx a b k I t R a = R := by unfold fdx; rw [up_ne h, up_eq]
theorem fdx_b : fdx a b k I t R b k = Int32.ofNat t := by unfold fdx; rw [up_eq, up_eq]
theorem fdx_o {c : Nat} (h1 : c ≠ a) (h2 : c ≠ b) : fdx a b k I t R c = I c := by unfold fdx; rw [up_ne h2, up_ne h1]
theorem fdx_k {j : Nat} (h : j ≠ k) : fdx a b k I t R b j = I b j := by unfold fdx; rw [up_eq, up_ne h]
theorem fdx_w (h : a ≠ b) : va_up (va_up (fdx a b k I t R) a R') b (va_up (fdx a b k I t R b) k (Int32.ofNat t')) = fdx a b k I t' R' := by
  funext c
  by_cases c1 : c = b
  · rw [c1, up_eq]
    unfold fdx
    rw [up_eq, up_eq, up_up]
  · rw [up_ne c1]
    by_cases c2 : c = a
    · rw [c2, up_eq, fdx_a h]
    · rw [up_ne c2, fdx_o c2 c1, fdx_o c2 c1]
theorem fdx_i (h : I b k = Int32.ofNat t) : fdx a b k I t (I a) = I := by
  unfold fdx
  rw [up_id, ← h, up_id, up_id]
def pu4 (R : Nat → Int32) (t : Nat) (x : Int32) : Nat → Int32 := va_up (va_up (va_up (va_up R t (byt x 24)) (t + 1) (byt x 16)) (t + 2) (byt x 8)) (t + 3) (byt x 0)
theorem pu4_lt {R : Nat → Int32} {t j : Nat} {x : Int32} (h : j < t) : pu4 R t x j = R j := by unfold pu4; rw [up_ne (by omega), up_ne (by omega), up_ne (by omega), up_ne (by omega)]
theorem pu4_e {x : Int32} (h : ∀ j, j < t → R j = R' j ∧ irng (R' j) 0 255) : ∀ j, j < t + 4 → pu4 R t x j = pu4 R' t x j ∧ irng (pu4 R' t x j) 0 255 := by
  intro j hj
  by_cases c : j < t
  · rw [pu4_lt c, pu4_lt c]; exact h j c
  unfold pu4
  rcases (show j = t ∨ j = t + 1 ∨ j = t + 2 ∨ j = t + 3 by omega) with e | e | e | e
  · rw [e]
    simp (disch := omega) only [up_ne, up_eq]
    exact ⟨trivial, byt_r⟩
  · rw [e]
    simp (disch := omega) only [up_ne, up_eq]
    exact ⟨trivial, byt_r⟩
  · rw [e]
    simp (disch := omega) only [up_ne, up_eq]
    exact ⟨trivial, byt_r⟩
  · rw [e]
    simp (disch := omega) only [up_ne, up_eq]
    exact ⟨trivial, byt_r⟩
end
section
variable {G : mG} {I : Nat → Nat → Int32} {L : Nat → Nat → Int64} {t : Nat} {R : Nat → Int32}
theorem put_1 (d : Nat) (lX : LayX G 101) {x : Int32} {s : Nat} (hs : s ≤ 24) (ht : t < 500) : f_X10_put d 3 [.ref 101, .int x, .int (Int32.ofNat s)] [] (G, fdx 102 101 1 I t R, L) = f_X10_put d 3 [.ref 101, .int x, .int (Int32.ofNat s + (-8))] [] (G, fdx 102 101 1 I (t + 1) (va_up R t (byt x s)), L) := by
  have c1 : ¬ (500 : Int32) ≤ Int32.ofNat t := i_ng (a := 500) ht (by decide)
  rw [e_X10_put_3, if_neg (i_neg (by omega))]
  simp (disch := omega) only [↓vX lX, fdx_b, if_neg c1, up2_e, up_ne, up_eq, i_one, byt_u hs, e_X10_put_43]
  show f_X10_put d 3 _ [] (G, va_up (va_up (fdx 102 101 1 I t R) 102 (va_up (fdx 102 101 1 I t R 102) t (byt x s))) 101 (va_up (fdx 102 101 1 I t R 101) 1 (Int32.ofNat (t + 1))), L) = _
  rw [fdx_w (by decide), fdx_a (by decide)]
theorem c_put (d : Nat) (lX : LayX G 101) (x : Int32) (ht : t + 4 ≤ 500) : mcal mT (d + 1) 85 [.ref 101, .int x] (G, fdx 102 101 1 I t R, L) = some (.inl none, (G, fdx 102 101 1 I (t + 4) (pu4 R t x), L)) := by
  rw [q_X10_put_, e_X10_put_0]
  show f_X10_put d 3 [.ref 101, .int x, .int (Int32.ofNat 24)] [] _ = _
  rw [put_1 d lX (by decide) (by omega), show Int32.ofNat 24 + (-8) = Int32.ofNat 16 by decide, put_1 d lX (by decide) (by omega), show Int32.ofNat 16 + (-8) = Int32.ofNat 8 by decide, put_1 d lX (by decide) (by omega), show Int32.ofNat 8 + (-8) = Int32.ofNat 0 by decide, put_1 d lX (by decide) (by omega), e_X10_put_3, if_pos (by decide), e_X10_put_49]
  rfl
theorem fed_1 (d : Nat) (lM : LayM G 219) {x1 x2 x3 x4 x5 y x6 : Int32} {s : Nat} (hs : (24 - 8 * (x6 - x6 / 4 * 4)) = Int32.ofNat s) (ht : t < 500) : f_X12_feed d 76 [.ref 219, .int x1, .int x2, .int x3, .int x4, .int x5, .int x6, mU] [.int y] (G, fdx 222 219 3 I t R, L) = f_X12_feed d 23 [.ref 219, .int x1, .int x2, .int x3, .int x4, .int x5, .int (x6 + 1), mU] [] (G, fdx 222 219 3 I (t + 1) (va_up R t (byt y s)), L) := by
  have z4 : ¬ (4 : Nat) = 0 := by decide
  rw [e_X12_feed_76]
  simp (disch := omega) only [↓vM lM, fdx_b, if_neg z4, up2_e, up_ne, up_eq, i_one, hs]
  show f_X12_feed d 23 _ [] (G, va_up (va_up (fdx 222 219 3 I t R) 222 (va_up (fdx 222 219 3 I t R 222) t (byt y s))) 219 (va_up (fdx 222 219 3 I t R 219) 3 (Int32.ofNat (t + 1))), L) = _
  rw [fdx_w (by decide), fdx_a (by decide)]
theorem fed_g0 (d : Nat) (lM : LayM G 219) {x1 x2 x3 x4 x5 : Int32} (ht : t + 4 ≤ 500) : f_X12_feed d 23 [.ref 219, .int x1, .int x2, .int x3, .int x4, .int x5, .int 0, mU] [] (G, fdx 222 219 3 I t R, L) = f_X12_feed d 23 [.ref 219, .int x1, .int x2, .int x3, .int x4, .int x5, .int 4, mU] [] (G, fdx 222 219 3 I (t + 4) (pu4 R t x1), L) := by
  rw [e_X12_feed_23, if_neg (by decide), if_neg (by decide), fed_1 d lM (s := 24) (by decide) (by omega), show (0 : Int32) + 1 = 1 by decide]
  rw [e_X12_feed_23, if_neg (by decide), if_neg (by decide), fed_1 d lM (s := 16) (by decide) (by omega), show (1 : Int32) + 1 = 2 by decide]
  rw [e_X12_feed_23, if_neg (by decide), if_neg (by decide), fed_1 d lM (s := 8) (by decide) (by omega), show (2 : Int32) + 1 = 3 by decide]
  rw [e_X12_feed_23, if_neg (by decide), if_neg (by decide), fed_1 d lM (s := 0) (by decide) (by omega), show (3 : Int32) + 1 = 4 by decide]
  rfl
theorem fed_g1 (d : Nat) (lM : LayM G 219) {x1 x2 x3 x4 x5 : Int32} (ht : t + 4 ≤ 500) : f_X12_feed d 23 [.ref 219, .int x1, .int x2, .int x3, .int x4, .int x5, .int 4, mU] [] (G, fdx 222 219 3 I t R, L) = f_X12_feed d 23 [.ref 219, .int x1, .int x2, .int x3, .int x4, .int x5, .int 8, mU] [] (G, fdx 222 219 3 I (t + 4) (pu4 R t x2), L) := by
  rw [e_X12_feed_23, if_neg (by decide), if_pos (by decide), e_X12_feed_40, if_neg (by decide), fed_1 d lM (s := 24) (by decide) (by omega), show (4 : Int32) + 1 = 5 by decide]
  rw [e_X12_feed_23, if_neg (by decide), if_pos (by decide), e_X12_feed_40, if_neg (by decide), fed_1 d lM (s := 16) (by decide) (by omega), show (5 : Int32) + 1 = 6 by decide]
  rw [e_X12_feed_23, if_neg (by decide), if_pos (by decide), e_X12_feed_40, if_neg (by decide), fed_1 d lM (s := 8) (by decide) (by omega), show (6 : Int32) + 1 = 7 by decide]
  rw [e_X12_feed_23, if_neg (by decide), if_pos (by decide), e_X12_feed_40, if_neg (by decide), fed_1 d lM (s := 0) (by decide) (by omega), show (7 : Int32) + 1 = 8 by decide]
  rfl
theorem fed_g2 (d : Nat) (lM : LayM G 219) {x1 x2 x3 x4 x5 : Int32} (ht : t + 4 ≤ 500) : f_X12_feed d 23 [.ref 219, .int x1, .int x2, .int x3, .int x4, .int x5, .int 8, mU] [] (G, fdx 222 219 3 I t R, L) = f_X12_feed d 23 [.ref 219, .int x1, .int x2, .int x3, .int x4, .int x5, .int 12, mU] [] (G, fdx 222 219 3 I (t + 4) (pu4 R t x3), L) := by
  rw [e_X12_feed_23, if_neg (by decide), if_pos (by decide), e_X12_feed_40, if_pos (by decide), e_X12_feed_51, if_neg (by decide), fed_1 d lM (s := 24) (by decide) (by omega), show (8 : Int32) + 1 = 9 by decide]
  rw [e_X12_feed_23, if_neg (by decide), if_pos (by decide), e_X12_feed_40, if_pos (by decide), e_X12_feed_51, if_neg (by decide), fed_1 d lM (s := 16) (by decide) (by omega), show (9 : Int32) + 1 = 10 by decide]
  rw [e_X12_feed_23, if_neg (by decide), if_pos (by decide), e_X12_feed_40, if_pos (by decide), e_X12_feed_51, if_neg (by decide), fed_1 d lM (s := 8) (by decide) (by omega), show (10 : Int32) + 1 = 11 by decide]
  rw [e_X12_feed_23, if_neg (by decide), if_pos (by decide), e_X12_feed_40, if_pos (by decide), e_X12_feed_51, if_neg (by decide), fed_1 d lM (s := 0) (by decide) (by omega), show (11 : Int32) + 1 = 12 by decide]
  rfl
theorem fed_g3 (d : Nat) (lM : LayM G 219) {x1 x2 x3 x4 x5 : Int32} (ht : t + 4 ≤ 500) : f_X12_feed d 23 [.ref 219, .int x1, .int x2, .int x3, .int x4, .int x5, .int 12, mU] [] (G, fdx 222 219 3 I t R, L) = f_X12_feed d 23 [.ref 219, .int x1, .int x2, .int x3, .int x4, .int x5, .int 16, mU] [] (G, fdx 222 219 3 I (t + 4) (pu4 R t x4), L) := by
  rw [e_X12_feed_23, if_neg (by decide), if_pos (by decide), e_X12_feed_40, if_pos (by decide), e_X12_feed_51, if_pos (by decide), e_X12_feed_62, if_neg (by decide), fed_1 d lM (s := 24) (by decide) (by omega), show (12 : Int32) + 1 = 13 by decide]
  rw [e_X12_feed_23, if_neg (by decide), if_pos (by decide), e_X12_feed_40, if_pos (by decide), e_X12_feed_51, if_pos (by decide), e_X12_feed_62, if_neg (by decide), fed_1 d lM (s := 16) (by decide) (by omega), show (13 : Int32) + 1 = 14 by decide]
  rw [e_X12_feed_23, if_neg (by decide), if_pos (by decide), e_X12_feed_40, if_pos (by decide), e_X12_feed_51, if_pos (by decide), e_X12_feed_62, if_neg (by decide), fed_1 d lM (s := 8) (by decide) (by omega), show (14 : Int32) + 1 = 15 by decide]
  rw [e_X12_feed_23, if_neg (by decide), if_pos (by decide), e_X12_feed_40, if_pos (by decide), e_X12_feed_51, if_pos (by decide), e_X12_feed_62, if_neg (by decide), fed_1 d lM (s := 0) (by decide) (by omega), show (15 : Int32) + 1 = 16 by decide]
  rfl
theorem fed_g4 (d : Nat) (lM : LayM G 219) {x1 x2 x3 x4 x5 : Int32} (ht : t + 4 ≤ 500) : f_X12_feed d 23 [.ref 219, .int x1, .int x2, .int x3, .int x4, .int x5, .int 16, mU] [] (G, fdx 222 219 3 I t R, L) = f_X12_feed d 23 [.ref 219, .int x1, .int x2, .int x3, .int x4, .int x5, .int 20, mU] [] (G, fdx 222 219 3 I (t + 4) (pu4 R t x5), L) := by
  rw [e_X12_feed_23, if_neg (by decide), if_pos (by decide), e_X12_feed_40, if_pos (by decide), e_X12_feed_51, if_pos (by decide), e_X12_feed_62, if_pos (by decide), e_X12_feed_74, fed_1 d lM (s := 24) (by decide) (by omega), show (16 : Int32) + 1 = 17 by decide]
  rw [e_X12_feed_23, if_neg (by decide), if_pos (by decide), e_X12_feed_40, if_pos (by decide), e_X12_feed_51, if_pos (by decide), e_X12_feed_62, if_pos (by decide), e_X12_feed_74, fed_1 d lM (s := 16) (by decide) (by omega), show (17 : Int32) + 1 = 18 by decide]
  rw [e_X12_feed_23, if_neg (by decide), if_pos (by decide), e_X12_feed_40, if_pos (by decide), e_X12_feed_51, if_pos (by decide), e_X12_feed_62, if_pos (by decide), e_X12_feed_74, fed_1 d lM (s := 8) (by decide) (by omega), show (18 : Int32) + 1 = 19 by decide]
  rw [e_X12_feed_23, if_neg (by decide), if_pos (by decide), e_X12_feed_40, if_pos (by decide), e_X12_feed_51, if_pos (by decide), e_X12_feed_62, if_pos (by decide), e_X12_feed_74, fed_1 d lM (s := 0) (by decide) (by omega), show (19 : Int32) + 1 = 20 by decide]
  rfl
end
section
variable {z h hs bl bs cl cs nr n nh M hN w lc mc kc ta : Nat} {rm pi mk : Nat → Nat} {G : mG} {I : Nat → Nat → Int32} {L : Nat → Nat → Int64}
theorem ca_feed (d : Nat) (q : Rel z h hs bl bs cl cs nr n nh M hN w lc mc kc ta rm pi mk G I L) (g1 : G.1 ≤ 252 + z + 25 * kc) (g2 : G.2.1 ≤ 60000 + 6 * z + 4000 * kc) (hz : z + 1 ≤ 512) (x1 x2 x3 x4 x5 : Int32) : Ste2 (d + 6) 100 178 [.int x1, .int x2, .int x3, .int x4, .int x5] (z + 1) G I L := by
  obtain ⟨lB, lX, lP, -, ⟨lH1, lH2⟩, ⟨lS, -⟩, ⟨lT, -⟩, ⟨lU, -⟩, lD, -, -, lM, ⟨o1, o2⟩, -, hh, -⟩ := id q.1
  have ho := q.2.1
  obtain ⟨s1, s2, s3, s4, s5, s6⟩ := ho_sz ho
  have lH : LayH G h := by
    rcases hh with ⟨a, -⟩ | ⟨a, -⟩
    · rw [a]; exact lH1
    · rw [a]; exact lH2
  have hb : 103 ≤ h ∧ h + 14 ≤ 132 := by omega
  obtain ⟨-, -, ⟨hF, hHN⟩, hS, ⟨hT, hMz⟩, hU, hD, hTp, hEg, hLg, -, -, -, -⟩ := id q
  have z1 : ¬ (1 : Int32) = 0 := by decide
  have I00 : (va_up I 219 (va_up (I 219) 0 0)) 219 0 = 0 := by rw [up_eq, up_eq]
  have I01 : (va_up I 219 (va_up (I 219) 0 0)) 220 = I 220 := up_ne (by decide)
  obtain ⟨t1, t2, t3, t4, t5⟩ := id hTp
  have e20 : Int32.ofNat ta + 20 = Int32.ofNat (ta + 20) := i_add ta 20
  by_cases cc : ¬ ta + 20 ≤ 500
  · have c := cc
    have c1 : ¬ Int32.ofNat (ta + 20) ≤ 500 := fun p => c ((i_le (b := 500) (by omega) (by decide)).mp p)
    refine Ste2_q q g1 g2 hz (v := -1) ?_ ?_
    · simp only [q_X11_feed_, e_X11_feed_0, ↓vB lB, ↓vX lX, t1, e20, if_neg c1]
    · simp (disch := omega) only [q_X12_feed_, e_X12_feed_0, ↓vM lM, up2_e, up_eq, up_ne, t2, e20, if_neg c1]
  have c : ta + 20 ≤ 500 := Decidable.not_not.mp cc
  have c1 : Int32.ofNat (ta + 20) ≤ 500 := (i_le (b := 500) (by omega) (by decide)).mpr c
  have i0 : fdx 102 101 1 I ta (I 102) = I := fdx_i t1
  have hc : mcal mT (d + 6) 100 [.ref 100, .int x1, .int x2, .int x3, .int x4, .int x5] (G, I, L) = some (.inl (some (.int (Int32.ofNat (ta + 20)))), (G, fdx 102 101 1 I (ta + 20) (pu4 (pu4 (pu4 (pu4 (pu4 (I 102) ta x1) (ta + 4) x2) (ta + 8) x3) (ta + 12) x4) (ta + 16) x5), L)) := by
    have p1 := c_put (d + 4) (I := I) (L := L) (R := I 102) lX x1 (t := ta) (by omega)
    rw [i0] at p1
    have p2 := c_put (d + 4) (I := I) (L := L) (R := pu4 (I 102) ta x1) lX x2 (t := ta + 4) (by omega)
    have p3 := c_put (d + 4) (I := I) (L := L) (R := pu4 (pu4 (I 102) ta x1) (ta + 4) x2) lX x3 (t := ta + 8) (by omega)
    have p4 := c_put (d + 4) (I := I) (L := L) (R := pu4 (pu4 (pu4 (I 102) ta x1) (ta + 4) x2) (ta + 8) x3) lX x4 (t := ta + 12) (by omega)
    have p5 := c_put (d + 4) (I := I) (L := L) (R := pu4 (pu4 (pu4 (pu4 (I 102) ta x1) (ta + 4) x2) (ta + 8) x3) (ta + 12) x4) lX x5 (t := ta + 16) (by omega)
    simp only [q_X11_feed_, e_X11_feed_0, ↓vB lB, ↓vX lX, t1, e20, if_pos c1, e_X11_feed_18, ↓mcV_of p1, ↓mcV_of p2, ↓mcV_of p3, ↓mcV_of p4, ↓mcV_of p5, fdx_b]
  generalize hRc : pu4 (pu4 (pu4 (pu4 (pu4 (I 102) ta x1) (ta + 4) x2) (ta + 8) x3) (ta + 12) x4) (ta + 16) x5 = Rc at hc
  generalize hI1 : fdx 102 101 1 I (ta + 20) Rc = I1 at hc
  have o : ∀ a, a ≠ 101 → a ≠ 102 → I1 a = I a := fun a h1 h2 => by rw [← hI1, fdx_o h2 h1]
  generalize hRr : pu4 (pu4 (pu4 (pu4 (pu4 (I 222) ta x1) (ta + 4) x2) (ta + 8) x3) (ta + 12) x4) (ta + 16) x5 = Rr
  have hr : mcal mT (d + 6) 178 [.ref 219, .int x1, .int x2, .int x3, .int x4, .int x5] (G, I1, L) = some (.inl (some (.int (Int32.ofNat (ta + 20)))), (G, fdx 222 219 3 (va_up I1 219 (va_up (I1 219) 0 0)) (ta + 20) Rr, L)) := by
    have b3 : va_up I1 219 (va_up (I1 219) 0 0) 219 3 = Int32.ofNat ta := by rw [up_eq, up_ne (by decide), o 219 (by decide) (by decide)]; exact t2
    have r0 := fdx_i (a := 222) b3
    rw [show va_up I1 219 (va_up (I1 219) 0 0) 222 = I 222 by rw [up_ne (by decide), o 222 (by decide) (by decide)]] at r0
    rw [q_X12_feed_, e_X12_feed_0]
    simp only [↓vM lM, up2_e, b3, e20, if_pos c1, e_X12_feed_20]
    rw [← r0]
    have s0 := fed_g0 (d + 5) (I := va_up I1 219 (va_up (I1 219) 0 0)) (L := L) (R := I 222) lM (x1 := x1) (x2 := x2) (x3 := x3) (x4 := x4) (x5 := x5) (t := ta) (by omega)
    rw [s0, fed_g1 (d + 5) lM (by omega), fed_g2 (d + 5) lM (by omega), fed_g3 (d + 5) lM (by omega), fed_g4 (d + 5) lM (by omega), e_X12_feed_23, if_pos (by decide), e_X12_feed_120]
    simp only [↓vM lM, fdx_b]
    rw [← hRr, r0]
  have hz0 : fdx 222 219 3 (va_up I1 219 (va_up (I1 219) 0 0)) (ta + 20) Rr 0 = I 0 := by rw [fdx_o (by decide) (by decide), up_ne (by decide), o 0 (by decide) (by decide)]
  refine ⟨_, G, I1, L, _, L, hc, o 0 (by decide) (by decide), rfl, hr, hz0, h, hs, bl, bs, cl, cs, nr, n, nh, M, hN, w, lc, mc, kc, ta + 20, rm, pi, mk, ?_, by omega, by omega⟩
  refine Rel_tp q hz (fun a h1 h2 h3 => ?_) (fun k h1 h2 h3 => ?_) (fun j _ _ => ?_) (fun _ _ => rfl) ?_
  · rw [fdx_o (by omega) h2, up_ne h2, o a (by omega) (by omega)]
  · rw [fdx_k h2, up_eq, up_ne h1, o 219 (by decide) (by decide)]
  · rw [fdx_o (by decide) (by decide), up_ne (by decide), o 223 (by decide) (by decide)]
  · have q1 := pu4_e (x := x1) t4
    have q2 := pu4_e (x := x2) q1
    have q3 := pu4_e (x := x3) q2
    have q4 := pu4_e (x := x4) q3
    have q5 := pu4_e (x := x5) q4
    rw [hRc, hRr] at q5
    refine ⟨?_, fdx_b, by omega, ?_, ?_⟩
    · rw [fdx_o (by decide) (by decide), up_ne (by decide), ← hI1, fdx_b]
    · rw [fdx_a (by decide), fdx_o (by decide) (by decide), up_ne (by decide), ← hI1, fdx_a (by decide)]
      exact q5
    · rw [fdx_k (by decide), up_eq, up_ne (by decide), o 219 (by decide) (by decide), fdx_o (by decide) (by decide), up_ne (by decide), ← hI1, fdx_k (by decide)]
      exact t5
end
