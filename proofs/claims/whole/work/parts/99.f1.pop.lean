/-! counting bits -/
theorem and_spl {a c y C : Nat} (ha : a < 256) (hc : c < 256) : (a + 256 * y) &&& (c + 256 * C) = (a &&& c) + 256 * (y &&& C) := by
  have h1 := Nat.and_mod_two_pow (a := a + 256 * y) (b := c + 256 * C) (n := 8)
  have h2 := Nat.and_div_two_pow (a := a + 256 * y) (b := c + 256 * C) (n := 8)
  have e : (2 : Nat) ^ 8 = 256 := by decide
  rw [e] at h1 h2
  rw [show (a + 256 * y) % 256 = a by omega, show (c + 256 * C) % 256 = c by omega] at h1
  rw [show (a + 256 * y) / 256 = y by omega, show (c + 256 * C) / 256 = C by omega] at h2
  rw [← h1, ← h2]
  omega
def mkw (c : Nat) : Nat → Nat
  | 0 => 0
  | w + 1 => c + 256 * mkw c w
def zs1 (M x : Nat) : Nat := x - ((x / 2) &&& M)
def zs2 (M x : Nat) : Nat := (x &&& M) + ((x / 4) &&& M)
def zs3 (M x : Nat) : Nat := (x + x / 16) &&& M
theorem zs1_s {a y w : Nat} (ha : a < 256) : zs1 (mkw 85 (w + 1)) (a + 256 * y) = zs1 85 a + 256 * zs1 (mkw 85 w) y := by
  have k : ∀ b, b < 128 → ∀ t, t < 2 → (b + 128 * t) &&& 85 = b &&& 85 := by decide
  have h := k (a / 2) (by omega) (y % 2) (by omega)
  have l1 : (a / 2) &&& 85 ≤ a / 2 := Nat.and_le_left
  have l2 : (y / 2) &&& mkw 85 w ≤ y / 2 := Nat.and_le_left
  unfold zs1
  show a + 256 * y - ((a + 256 * y) / 2 &&& (85 + 256 * mkw 85 w)) = _
  rw [show (a + 256 * y) / 2 = (a / 2 + 128 * (y % 2)) + 256 * (y / 2) by omega, and_spl (by omega) (by decide), h]
  omega
theorem zs2_s {b z w : Nat} (hb : b < 256) : zs2 (mkw 51 (w + 1)) (b + 256 * z) = zs2 51 b + 256 * zs2 (mkw 51 w) z := by
  have k : ∀ b, b < 64 → ∀ t, t < 4 → (b + 64 * t) &&& 51 = b &&& 51 := by decide
  have h := k (b / 4) (by omega) (z % 4) (by omega)
  unfold zs2
  show (b + 256 * z &&& (51 + 256 * mkw 51 w)) + ((b + 256 * z) / 4 &&& (51 + 256 * mkw 51 w)) = _
  rw [show (b + 256 * z) / 4 = (b / 4 + 64 * (z % 4)) + 256 * (z / 4) by omega, and_spl (by omega) (by decide), and_spl (by omega) (by decide), h]
  omega
theorem zs3_s {c u w : Nat} (hc : c + c / 16 + 16 * (u % 16) < 256) : zs3 (mkw 15 (w + 1)) (c + 256 * u) = zs3 15 c + 256 * zs3 (mkw 15 w) u := by
  have k : ∀ x : Nat, x &&& 15 = x % 16 := fun x => Nat.and_two_pow_sub_one_eq_mod x 4
  unfold zs3
  show c + 256 * u + (c + 256 * u) / 16 &&& (15 + 256 * mkw 15 w) = _
  rw [show c + 256 * u + (c + 256 * u) / 16 = (c + c / 16 + 16 * (u % 16)) + 256 * (u + u / 16) by omega, and_spl hc (by decide), k, k]
  omega
theorem zlow : ∀ a, a < 256 → zs1 85 a < 256 ∧ zs2 51 (zs1 85 a) % 16 ≤ 4 ∧ zs2 51 (zs1 85 a) ≤ 68 := by decide +kernel
theorem zlow_w {w y : Nat} (h : y < 256 ^ w) : zs2 (mkw 51 w) (zs1 (mkw 85 w) y) % 16 ≤ 4 := by
  cases w with
  | zero =>
    have : y = 0 := by rw [Nat.pow_zero] at h; omega
    rw [this]; decide
  | succ w =>
    obtain ⟨a1, a2, a3⟩ := zlow (y % 256) (by omega)
    have e : y = y % 256 + 256 * (y / 256) := by omega
    rw [e, zs1_s (by omega), zs2_s a1]
    omega
def zB (w x : Nat) : Nat := zs3 (mkw 15 w) (zs2 (mkw 51 w) (zs1 (mkw 85 w) x))
def pc (a : Nat) : Nat := zs3 15 (zs2 51 (zs1 85 a))
theorem zB_s {w a y : Nat} (ha : a < 256) (hy : y < 256 ^ w) : zB (w + 1) (a + 256 * y) = pc a + 256 * zB w y := by
  obtain ⟨a1, a2, a3⟩ := zlow a ha
  have := zlow_w hy
  unfold zB pc
  rw [zs1_s ha, zs2_s a1, zs3_s (by omega)]
def bsum (x : Nat) : Nat → Nat
  | 0 => 0
  | i + 1 => bsum x i + (x / 2 ^ i) % 2
theorem pc_e : ∀ a, a < 256 → pc a = bsum a 8 ∧ pc a ≤ 8 := by decide +kernel
theorem bsum_s {a y : Nat} (ha : a < 256) (m : Nat) : bsum (a + 256 * y) (8 + m) = bsum a 8 + bsum y m := by
  induction m with
  | zero =>
    simp only [bsum, Nat.add_zero]
    omega
  | succ m ih =>
    show bsum (a + 256 * y) (8 + m) + (a + 256 * y) / 2 ^ (8 + m) % 2 = bsum a 8 + (bsum y m + y / 2 ^ m % 2)
    rw [ih, Nat.pow_add, ← Nat.div_div_eq_div_mul, show (a + 256 * y) / 2 ^ 8 = y by omega]
    omega
theorem bsum_0 (m : Nat) : bsum 0 m = 0 := by
  induction m with
  | zero => rfl
  | succ m ih => show bsum 0 m + 0 / 2 ^ m % 2 = 0; rw [ih, Nat.zero_div]
theorem bsum_t {x m : Nat} (h : x < 2 ^ m) (j : Nat) : bsum x (m + j) = bsum x m := by
  induction j with
  | zero => rfl
  | succ j ih =>
    show bsum x (m + j) + x / 2 ^ (m + j) % 2 = bsum x m
    have : x < 2 ^ (m + j) := Nat.lt_of_lt_of_le h (Nat.pow_le_pow_right (by decide) (by omega))
    rw [ih, Nat.div_eq_of_lt this, Nat.zero_mod, Nat.add_zero]
def zF (y : Nat) : Nat := ((y + y / 256) + (y + y / 256) / 65536) + ((y + y / 256) + (y + y / 256) / 65536) / 4294967296
theorem zF_e {p0 p1 p2 p3 p4 p5 p6 p7 : Nat} (h0 : p0 ≤ 8) (h1 : p1 ≤ 8) (h2 : p2 ≤ 8) (h3 : p3 ≤ 8) (h4 : p4 ≤ 8) (h5 : p5 ≤ 8) (h6 : p6 ≤ 8) (h7 : p7 ≤ 8) : zF (p0 + 256 * (p1 + 256 * (p2 + 256 * (p3 + 256 * (p4 + 256 * (p5 + 256 * (p6 + 256 * (p7 + 256 * 0)))))))) % 128 = p0 + p1 + p2 + p3 + p4 + p5 + p6 + p7 := by
  rw [Nat.mul_zero, Nat.add_zero]
  generalize h7' : p7 = t7
  generalize h6' : p6 + 256 * t7 = t6
  generalize h5' : p5 + 256 * t6 = t5
  generalize h4' : p4 + 256 * t5 = t4
  generalize h3' : p3 + 256 * t4 = t3
  generalize h2' : p2 + 256 * t3 = t2
  generalize h1' : p1 + 256 * t2 = t1
  have e1 : (p0 + 256 * t1) / 256 = t1 := by rw [Nat.add_mul_div_left _ _ (by decide), Nat.div_eq_of_lt (by omega), Nat.zero_add]
  have e2 : (p0 + 256 * t1 + t1) / 65536 = t2 + t3 := by
    rw [show p0 + 256 * t1 + t1 = (p0 + p1 + 256 * (p1 + p2)) + 65536 * (t2 + t3) by omega, Nat.add_mul_div_left _ _ (by decide), Nat.div_eq_of_lt (by omega), Nat.zero_add]
  have e3 : (p0 + 256 * t1 + t1 + (t2 + t3)) / 4294967296 = t4 + t5 + t6 + t7 := by
    rw [show p0 + 256 * t1 + t1 + (t2 + t3) = (p0 + p1 + p2 + p3 + 256 * (p1 + p2 + p3 + p4) + 65536 * (p2 + p3 + p4 + p5) + 16777216 * (p3 + p4 + p5 + p6)) + 4294967296 * (t4 + t5 + t6 + t7) by omega, Nat.add_mul_div_left _ _ (by decide), Nat.div_eq_of_lt (by omega), Nat.zero_add]
  unfold zF
  rw [e1, e2, e3, show p0 + 256 * t1 + t1 + (t2 + t3) + (t4 + t5 + t6 + t7) = (p0 + p1 + p2 + p3 + p4 + p5 + p6 + t7) + 128 * (2 * (t1 + t2 + t3 + t4 + t5 + t6 + t7)) by omega, Nat.add_mul_mod_self_left]
  exact Nat.mod_eq_of_lt (by omega)
theorem zB_f {X : Nat} (h : X < 2 ^ 64) : zF (zB 8 X) % 128 = bsum X 64 := by
  have key : ∀ w X, X < 256 ^ (w + 1) → X = X % 256 + 256 * (X / 256) ∧ X % 256 < 256 ∧ X / 256 < 256 ^ w := by
    intro w X hX
    refine ⟨by omega, by omega, ?_⟩
    rw [Nat.pow_succ, Nat.mul_comm] at hX
    exact Nat.div_lt_of_lt_mul hX
  have st : ∀ w X, X < 256 ^ (w + 1) → zB (w + 1) X = pc (X % 256) + 256 * zB w (X / 256) ∧ ∀ m, bsum X (8 + m) = pc (X % 256) + bsum (X / 256) m := by
    intro w X hX
    obtain ⟨k1, k2, k3⟩ := key w X hX
    constructor
    · have := zB_s k2 k3
      rw [← k1] at this
      exact this
    · intro m
      have := bsum_s (y := X / 256) k2 m
      rw [← k1, ← (pc_e _ k2).1] at this
      exact this
  have g0 : X < 256 ^ 8 := h
  have g1 := (key 7 X g0).2.2
  have g2 := (key 6 _ g1).2.2
  have g3 := (key 5 _ g2).2.2
  have g4 := (key 4 _ g3).2.2
  have g5 := (key 3 _ g4).2.2
  have g6 := (key 2 _ g5).2.2
  have g7 := (key 1 _ g6).2.2
  have g8 := (key 0 _ g7).2.2
  have z8 : X / 256 / 256 / 256 / 256 / 256 / 256 / 256 / 256 = 0 := by rw [Nat.pow_zero] at g8; omega
  have e0 : zB 0 0 = 0 := by decide
  rw [show (64 : Nat) = 8 + 56 from rfl, (st 7 X g0).2, show (56 : Nat) = 8 + 48 from rfl, (st 6 _ g1).2, show (48 : Nat) = 8 + 40 from rfl, (st 5 _ g2).2, show (40 : Nat) = 8 + 32 from rfl, (st 4 _ g3).2, show (32 : Nat) = 8 + 24 from rfl, (st 3 _ g4).2, show (24 : Nat) = 8 + 16 from rfl, (st 2 _ g5).2, show (16 : Nat) = 8 + 8 from rfl, (st 1 _ g6).2]
  have l8 := (st 0 _ g7).2 0
  rw [(st 7 X g0).1, (st 6 _ g1).1, (st 5 _ g2).1, (st 4 _ g3).1, (st 3 _ g4).1, (st 2 _ g5).1, (st 1 _ g6).1, (st 0 _ g7).1, z8, e0]
  rw [z8] at l8
  rw [zF_e (pc_e _ (Nat.mod_lt _ (by decide))).2 (pc_e _ (Nat.mod_lt _ (by decide))).2 (pc_e _ (Nat.mod_lt _ (by decide))).2 (pc_e _ (Nat.mod_lt _ (by decide))).2 (pc_e _ (Nat.mod_lt _ (by decide))).2 (pc_e _ (Nat.mod_lt _ (by decide))).2 (pc_e _ (Nat.mod_lt _ (by decide))).2 (pc_e _ (Nat.mod_lt _ (by decide))).2]
  have l9 : bsum (X / 256 / 256 / 256 / 256 / 256 / 256 / 256) 8 = pc (X / 256 / 256 / 256 / 256 / 256 / 256 / 256 % 256) := l8
  rw [l9]
  omega
