/-! class and reference: houses, and what drives a minute -/
def HsR (I J : Nat → Nat → Int32) (h m nr n : Nat) (rm pi : Nat → Nat) : Prop :=
  (I h 1 = Int32.ofNat nr ∧ J (m + 1) 163 = Int32.ofNat nr ∧ nr ≤ 8 ∧ I h 10 = Int32.ofNat n ∧ J (m + 1) 164 = Int32.ofNat n ∧ n ≤ 8) ∧
  (∀ r, r < nr → I (h + 1) r = J (m + 1) r ∧ irng (J (m + 1) r) 1 99) ∧
  (∀ r, r < nr → I (h + 4) r = J (m + 1) (16 + r) ∧ I (h + 5) r = J (m + 1) (24 + r)) ∧
  (∀ r hr, r < nr → hr < 24 → snn I h (Int32.ofNat hr) r = rsu (J (m + 1)) hr r) ∧
  (∀ a b, a < nr → b < nr → I (h + 3) (a * 8 + b) = J (m + 1) (56 + 8 * a + b) ∧ J (m + 1) (56 + 8 * a + b) = J (m + 1) (56 + 8 * b + a) ∧ irng (J (m + 1) (56 + 8 * a + b)) 0 99) ∧
  (∀ k, k < n → I (h + 9) k = Int32.ofNat (rm k) ∧ J (m + 1) (120 + k) = Int32.ofNat (rm k) ∧ rm k < nr) ∧
  (∀ k, k < n → I (h + 10) k = Int32.ofNat (pi k) ∧ J (m + 1) (128 + k) = Int32.ofNat (pi k) ∧ pi k < 4) ∧
  (∀ k, k < n → I (h + 11) k = J (m + 1) (136 + k) ∧ irng (J (m + 1) (136 + k)) 1 99 ∧ I (h + 12) k = J (m + 1) (144 + k) ∧ I (h + 13) k = J (m + 1) (152 + k)) ∧
  (I h 17 = J (m + 1) 161 ∧ irng (J (m + 1) 161) 1 99999 ∧ I h 18 = J (m + 1) 162 ∧ irng (J (m + 1) 162) 200 900)
def CoR (I J : Nat → Nat → Int32) (s t u m nr n mm nh : Nat) (sb sr : Nat → Nat) (M : Nat) : Prop :=
  (I t 0 = Int32.ofNat M ∧ J (m + 4) 71 = Int32.ofNat M) ∧
  (∀ r, r < nr → I (t + 1) r = J (m + 4) r ∧ irng (J (m + 4) r) (-9999) 9999) ∧
  (∀ k, k < n → I (t + 7) k = rov (J m 15) (J m 16) (J (m + 1)) (J (m + 4)) k ∧ irng (I (t + 7) k) 0 16) ∧
  (∀ k, k < n → I (s + 1) k = J (m + 4) (24 + k) ∧ irng (J (m + 4) (24 + k)) 1 16) ∧
  (I s 10 = J (m + 4) 167 ∧ irng (J (m + 4) 167) 1 999) ∧
  (∀ hr, hr < 24 → I (s + 3) hr = J (m + 4) (130 + hr) ∧ (J (m + 4) (130 + hr) = 0 ∨ irng (J (m + 4) (130 + hr)) 200 900)) ∧
  (∀ p, p < 4 → (((I t 2 >>> (Int32.ofNat p &&& 31)) &&& 1) = 0 ↔ ¬ J (m + 4) (40 + p) = 1 ∧ rwr (J m 15) (J m 16) (10 * 2 + Int32.ofNat p) = 0)) ∧
  (∀ r, r < nr → (((I t 1 >>> (Int32.ofNat r &&& 31)) &&& 1) = 0 ↔ raj (J m 15) (J m 16) (J (m + 4)) r = 0)) ∧
  (∀ hr, hr < 24 → I (s + 2) hr = rou (J m 20) (J m 17) (J (m + 4)) hr) ∧
  (I s 6 = Int32.ofNat mm ∧ mm ≤ 4 ∧ J (m + 4) 154 = Int32.ofNat nh ∧ nh ≤ 4 ∧ ∀ x, hof I s x (if ngt I s (hou x) = 0 then 0 else I s 5) mm = rof (J m 21) (va_up (J (m + 4)) 71 x) nh) ∧
  (∀ k, k < n → I (u + 1) k = Int32.ofNat (sr k) ∧ sr k < nr ∧ rsb (J m 15) (J m 16) (Int32.ofNat k) = Int32.ofNat (sb k) ∧ sb k < 8 ∧ J (m + 1) (120 + sb k) = Int32.ofNat (sr k)) ∧
  (∀ k, k < n → ¬ J (m + 1) (144 + k) = 0 → (((I u 0 >>> (Int32.ofNat k &&& 31)) &&& 1) = 0 ↔ rwr (J m 15) (J m 16) (10 * 0 + Int32.ofNat k) = 0 ∧ rwr (J m 15) (J m 16) (10 * 1 + Int32.ofNat k) = 0)) ∧
  (∀ k, k < n → I (u + 2) k = J (m + 1) (152 + k) + (if J m 18 = Int32.ofNat k then J m 19 else 0))
theorem jmin_l (x y : Int32) : jmin x y = if y ≤ x then y else x := by
  apply i_inj
  rw [jmin_t]
  by_cases c : y ≤ x
  · rw [if_pos c]
    rw [Int32.le_iff_toInt_le] at c
    omega
  · rw [if_neg c]
    rw [Int32.le_iff_toInt_le] at c
    omega
theorem k0 : (0 : Int32).toInt = 0 := by decide
theorem k1 : (1 : Int32).toInt = 1 := by decide
theorem sm_ge {n : Nat} {f : Nat → Int32} {B : Int} (hB0 : 0 ≤ B) (hB : B ≤ 1000000) (hn : n ≤ 8) (h : ∀ k, k < n → irng (f k) 0 B) : ∀ k, k < n → (f k).toInt ≤ (sm n f).toInt := by
  induction n with
  | zero => intro k hk; omega
  | succ n ih =>
    intro k hk
    obtain ⟨⟨a1, a2⟩, -⟩ := sm_t hB0 hB (show n ≤ 8 by omega) fun k hk => h k (by omega)
    obtain ⟨c1, c2⟩ := h n (by omega)
    have m1 : (n : Int) * B ≤ 8 * B := Int.mul_le_mul_of_nonneg_right (by omega) hB0
    have e : (sm n f + f n).toInt = (sm n f).toInt + (f n).toInt := t_add (by omega) (by omega)
    rw [sm_s, e]
    by_cases q : k = n
    · rw [q]; omega
    · have := ih (by omega) (fun k hk => h k (by omega)) k (by omega)
      omega
/-- a share of the pump -/
theorem shr_b {p o a : Int32} (hp : irng p 1 999) (ho : irng o 0 16) (ha : 0 < a.toInt) (hoa : o.toInt ≤ a.toInt) : irng (p * o / a) 0 999 := by
  obtain ⟨p0, p1⟩ := hp
  obtain ⟨o0, o1⟩ := ho
  have q0 : 0 ≤ p.toInt * o.toInt := Int.mul_nonneg (by omega) o0
  have q1 : p.toInt * o.toInt ≤ 999 * 16 := Int.mul_le_mul p1 o1 o0 (by decide)
  have e : (p * o).toInt = p.toInt * o.toInt := t_mul (by omega) (by omega)
  unfold irng
  rw [t_div ha, e, Int.tdiv_eq_ediv_of_nonneg q0]
  refine ⟨Int.ediv_nonneg q0 (by omega), ?_⟩
  have q2 : p.toInt * o.toInt ≤ p.toInt * a.toInt := Int.mul_le_mul_of_nonneg_left hoa (by omega)
  have q3 : p.toInt * a.toInt ≤ 999 * a.toInt := Int.mul_le_mul_of_nonneg_right p1 (by omega)
  exact Int.ediv_le_of_le_mul ha (by omega)
/-- scaled to the power -/
theorem scl_b {x p a : Int32} (hx : irng x 0 197802) (hp : irng p 1 99999) (ha : p.toInt < a.toInt) : irng (Int64.toInt32 (Int32.toInt64 x * Int32.toInt64 p / Int32.toInt64 a)) 0 197802 := by
  obtain ⟨x0, x1⟩ := hx
  obtain ⟨p0, p1⟩ := hp
  have q0 : 0 ≤ x.toInt * p.toInt := Int.mul_nonneg x0 (by omega)
  have q1 : x.toInt * p.toInt ≤ 197802 * 99999 := Int.mul_le_mul x1 p1 (by omega) (by decide)
  have e : (Int32.toInt64 x * Int32.toInt64 p).toInt = x.toInt * p.toInt := by rw [s_mul (by rw [t64, t64]; omega) (by rw [t64, t64]; omega), t64, t64]
  have e2 : (Int32.toInt64 x * Int32.toInt64 p / Int32.toInt64 a).toInt = x.toInt * p.toInt / a.toInt := by rw [s_div (by rw [t64]; omega), e, t64, Int.tdiv_eq_ediv_of_nonneg q0]
  have g0 : 0 ≤ x.toInt * p.toInt / a.toInt := Int.ediv_nonneg q0 (by omega)
  have q2 : x.toInt * p.toInt ≤ x.toInt * a.toInt := Int.mul_le_mul_of_nonneg_left (by omega) x0
  have g1 : x.toInt * p.toInt / a.toInt ≤ x.toInt := Int.ediv_le_of_le_mul (by omega) (by omega)
  unfold irng
  rw [s_32 (by rw [e2]; omega) (by rw [e2]; omega), e2]
  omega
section
variable {I J : Nat → Nat → Int32} {h s t u m nr n mm nh : Nat} {rm pi sb sr : Nat → Nat} {M : Nat}
theorem eq_opn (hH : HsR I J h m nr n rm pi) (hC : CoR I J s t u m nr n mm nh sb sr M) {k : Nat} (hk : k < n) : opn I h s t k = rop (J m 15) (J m 16) (J (m + 1)) (J (m + 4)) (pi k) k ∧ irng (opn I h s t k) 0 16 := by
  obtain ⟨-, -, -, -, -, -, hp, -⟩ := hH
  obtain ⟨-, -, hO, hS, -, -, hA, -⟩ := hC
  obtain ⟨p1, p2, p3⟩ := hp k hk
  obtain ⟨o1, o2⟩ := hO k hk
  obtain ⟨s1, s2⟩ := hS k hk
  have a := hA (pi k) p3
  unfold opn rop
  rw [p1]
  by_cases c : ((I t 2 >>> (Int32.ofNat (pi k) &&& 31)) &&& 1) = 0
  · obtain ⟨a1, a2⟩ := a.mp c
    rw [if_pos c, if_neg a1, if_pos a2, jmin_l, ← o1, ← s1]
    refine ⟨rfl, ?_⟩
    rw [← s1] at s2
    split
    · exact ⟨by have := s2.1; omega, s2.2⟩
    · exact o2
  · rw [if_neg c]
    refine ⟨?_, ⟨by decide, by decide⟩⟩
    by_cases c1 : J (m + 4) (40 + pi k) = 1
    · rw [if_pos c1]
    · rw [if_neg c1]
      by_cases c2 : rwr (J m 15) (J m 16) (10 * 2 + Int32.ofNat (pi k)) = 0
      · exact absurd (a.mpr ⟨c1, c2⟩) c
      · rw [if_neg c2]
theorem eq_pfl (hH : HsR I J h m nr n rm pi) (hC : CoR I J s t u m nr n mm nh sb sr M) {k : Nat} (hk : k < n) : pfl I h s t n k = rfl_ (J m 15) (J m 16) (J (m + 1)) (J (m + 4)) pi n k ∧ irng (pfl I h s t n k) 0 999 := by
  have hn8 := hH.1.2.2.2.2.2
  obtain ⟨u1, u2⟩ := hC.2.2.2.2.1
  have e : sm n (opn I h s t) = sm n (fun j => rop (J m 15) (J m 16) (J (m + 1)) (J (m + 4)) (pi j) j) := sm_c fun j hj => (eq_opn hH hC hj).1
  obtain ⟨⟨b0, b1⟩, -⟩ := sm_t (B := 16) (by decide) (by decide) hn8 fun j hj => (eq_opn hH hC hj).2
  have g := sm_ge (B := 16) (by decide) (by decide) hn8 (fun j hj => (eq_opn hH hC hj).2) k hk
  obtain ⟨o1, o2⟩ := eq_opn hH hC hk
  unfold pfl rfl_
  rw [← e, ← o1, ← u1]
  by_cases c : 0 < sm n (opn I h s t)
  · have c' := c
    rw [Int32.lt_iff_toInt_lt, k0] at c'
    have c2 : ¬ sm n (opn I h s t) = 0 := by
      intro q
      rw [q, k0] at c'
      omega
    rw [if_pos c, if_neg c2]
    exact ⟨rfl, shr_b (by rw [u1]; exact u2) o2 c' g⟩
  · have c' := c
    rw [Int32.lt_iff_toInt_lt, k0] at c'
    have c2 : sm n (opn I h s t) = 0 := i_inj (by rw [k0]; omega)
    rw [if_neg c, if_pos c2]
    exact ⟨rfl, by decide, by decide⟩
/-- the water of the minute -/
theorem eq_wat (hH : HsR I J h m nr n rm pi) (hC : CoR I J s t u m nr n mm nh sb sr M) {hr : Nat} (h24 : hr < 24) : (if I (s + 3) hr = 0 then I h 18 else I (s + 3) hr) = rwa (J (m + 1)) (J (m + 4)) hr ∧ irng (rwa (J (m + 1)) (J (m + 4)) hr) 200 900 := by
  obtain ⟨-, -, -, -, -, -, -, -, -, -, w1, w2⟩ := hH
  obtain ⟨-, -, -, -, -, hW, -⟩ := hC
  obtain ⟨a, b⟩ := hW hr h24
  unfold rwa
  rw [a, w1]
  refine ⟨rfl, ?_⟩
  by_cases c : J (m + 4) (130 + hr) = 0
  · rw [if_pos c]; exact w2
  · rw [if_neg c]
    rcases b with b | b
    · exact absurd b c
    · exact b
theorem eq_h0 (hH : HsR I J h m nr n rm pi) (hC : CoR I J s t u m nr n mm nh sb sr M) {hr : Nat} (h24 : hr < 24) {w : Int32} (hw : w = rwa (J (m + 1)) (J (m + 4)) hr) {k : Nat} (hk : k < n) : kH0 I h s t n w rm k = rh0 (J m 15) (J m 16) (J (m + 1)) (J (m + 4)) pi rm hr n k ∧ irng (kH0 I h s t n w rm k) 0 197802 := by
  obtain ⟨f1, f2⟩ := eq_pfl hH hC hk
  obtain ⟨-, w2⟩ := eq_wat hH hC h24
  obtain ⟨-, -, -, -, -, hrm, -, hz, -⟩ := hH
  obtain ⟨z1, z2, -⟩ := hz k hk
  obtain ⟨-, -, r3⟩ := hrm k hk
  obtain ⟨t1, t2⟩ := hC.2.1 (rm k) r3
  rw [← hw] at w2
  have k10 : (10 : Int32).toInt = 10 := by decide
  have ew : (10 * w).toInt = 10 * w.toInt := by rw [t_mul (by rw [k10]; have := w2.1; omega) (by rw [k10]; have := w2.2; omega), k10]
  have ea : (10 * w - J (m + 4) (rm k)).toInt = 10 * w.toInt - (J (m + 4) (rm k)).toInt := by
    have := w2.1; have := w2.2; have := t2.1; have := t2.2
    rw [t_sub (by rw [ew]; omega) (by rw [ew]; omega), ew]
  have ha : irng (10 * w - J (m + 4) (rm k)) (-20000) 20000 := by
    have := w2.1; have := w2.2; have := t2.1; have := t2.2
    unfold irng
    rw [ea]
    omega
  obtain ⟨g1, g2⟩ := ht_eq (f := pfl I h s t n k) (z := J (m + 1) (136 + k)) f2 ⟨by have := z2.1; omega, z2.2⟩ ha
  unfold kH0 rh0 rhl
  rw [z1, t1, Int32.mul_comm w 10, ← f1, ← hw]
  exact ⟨g1, g2⟩
theorem eq_ht (hH : HsR I J h m nr n rm pi) (hC : CoR I J s t u m nr n mm nh sb sr M) {hr : Nat} (h24 : hr < 24) {w : Int32} (hw : w = rwa (J (m + 1)) (J (m + 4)) hr) : (0 < lg_cmp (sml n fun j => Int32.toInt64 (rh0 (J m 15) (J m 16) (J (m + 1)) (J (m + 4)) pi rm hr n j)) (Int32.toInt64 (J (m + 1) 161)) → ¬ (sml n fun j => Int32.toInt64 (rh0 (J m 15) (J m 16) (J (m + 1)) (J (m + 4)) pi rm hr n j)) = 0) ∧ ∀ k, k < n → kHt I h s t n w rm k = rh1 (J m 15) (J m 16) (J (m + 1)) (J (m + 4)) pi rm hr n k ∧ irng (kHt I h s t n w rm k) 0 197802 := by
  have hn8 := hH.1.2.2.2.2.2
  obtain ⟨pw1, pw2, -⟩ := hH.2.2.2.2.2.2.2.2
  obtain ⟨⟨b0, b1⟩, b2⟩ := sm_t (B := 197802) (by decide) (by decide) hn8 fun j hj => (eq_h0 hH hC h24 hw hj).2
  have e : (sml n fun j => Int32.toInt64 (rh0 (J m 15) (J m 16) (J (m + 1)) (J (m + 4)) pi rm hr n j)) = Int32.toInt64 (sm n (kH0 I h s t n w rm)) := by
    rw [← b2]
    exact sml_c fun j hj => by rw [(eq_h0 hH hC h24 hw hj).1]
  have c0 : (0 < lg_cmp (Int32.toInt64 (sm n (kH0 I h s t n w rm))) (Int32.toInt64 (J (m + 1) 161))) ↔ ¬ sm n (kH0 I h s t n w rm) ≤ J (m + 1) 161 := by
    rw [lc_gt, Int64.lt_iff_toInt_lt, t64, t64, Int32.le_iff_toInt_le]
    omega
  constructor
  · rw [e]
    intro q
    have q1 := c0.mp q
    rw [Int32.le_iff_toInt_le] at q1
    exact i64_0 (by rw [Int32.lt_iff_toInt_lt, k0]; have := pw2.1; omega)
  · intro k hk
    obtain ⟨x1, x2⟩ := eq_h0 hH hC h24 hw hk
    unfold kHt rh1
    rw [e, ← x1, pw1]
    by_cases c : sm n (kH0 I h s t n w rm) ≤ J (m + 1) 161
    · rw [if_pos c, if_neg (fun q => (c0.mp q) c)]
      exact ⟨rfl, x2⟩
    · have c' := c
      rw [Int32.le_iff_toInt_le] at c'
      rw [if_neg c, if_pos (c0.mpr c), if_pos (by rw [Int32.lt_iff_toInt_lt, k0]; have := pw2.1; omega)]
      exact ⟨rfl, scl_b x2 pw2 (by omega)⟩
end
