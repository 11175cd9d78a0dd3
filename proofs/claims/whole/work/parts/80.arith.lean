/-! ints and longs that stay small -/
def irng (x : Int32) (a b : Int) : Prop := a ≤ x.toInt ∧ x.toInt ≤ b
theorem bm32 {x : Int} (h1 : -2147483648 ≤ x) (h2 : x ≤ 2147483647) : x.bmod (2 ^ 32) = x := by
  rw [Int.bmod_def]
  split <;> omega
theorem bm64 {x : Int} (h1 : -9223372036854775808 ≤ x) (h2 : x ≤ 9223372036854775807) : x.bmod (2 ^ 64) = x := by
  rw [Int.bmod_def]
  split <;> omega
theorem t_add {a b : Int32} (h1 : -2147483648 ≤ a.toInt + b.toInt) (h2 : a.toInt + b.toInt ≤ 2147483647) : (a + b).toInt = a.toInt + b.toInt := by rw [Int32.toInt_add, bm32 h1 h2]
theorem t_sub {a b : Int32} (h1 : -2147483648 ≤ a.toInt - b.toInt) (h2 : a.toInt - b.toInt ≤ 2147483647) : (a - b).toInt = a.toInt - b.toInt := by rw [Int32.toInt_sub, bm32 h1 h2]
theorem t_mul {a b : Int32} (h1 : -2147483648 ≤ a.toInt * b.toInt) (h2 : a.toInt * b.toInt ≤ 2147483647) : (a * b).toInt = a.toInt * b.toInt := by rw [Int32.toInt_mul, bm32 h1 h2]
theorem td_b {x y : Int} (hy : 0 < y) : (0 ≤ x → 0 ≤ x.tdiv y ∧ x.tdiv y ≤ x) ∧ (x ≤ 0 → x ≤ x.tdiv y ∧ x.tdiv y ≤ 0) := by
  constructor
  · intro h
    have e : x.tdiv y = x / y := Int.tdiv_eq_ediv_of_nonneg h
    rw [e]
    exact ⟨Int.ediv_nonneg h (by omega), Int.ediv_le_self _ h⟩
  · intro h
    have e : (-x).tdiv y = -x / y := Int.tdiv_eq_ediv_of_nonneg (by omega)
    rw [Int.neg_tdiv] at e
    have a := Int.ediv_nonneg (show 0 ≤ -x by omega) (show 0 ≤ y by omega)
    have b := Int.ediv_le_self y (show 0 ≤ -x by omega)
    omega
theorem t_div {a b : Int32} (hb : 0 < b.toInt) : (a / b).toInt = a.toInt.tdiv b.toInt := by
  rw [Int32.toInt_div]
  have l := Int32.le_toInt a
  have u := Int32.toInt_lt a
  obtain ⟨p, q⟩ := td_b (x := a.toInt) hb
  apply bm32
  · by_cases c : 0 ≤ a.toInt
    · have := p c; omega
    · have := q (by omega); omega
  · by_cases c : 0 ≤ a.toInt
    · have := p c; omega
    · have := q (by omega); omega
theorem s_add {a b : Int64} (h1 : -9223372036854775808 ≤ a.toInt + b.toInt) (h2 : a.toInt + b.toInt ≤ 9223372036854775807) : (a + b).toInt = a.toInt + b.toInt := by rw [Int64.toInt_add, bm64 h1 h2]
theorem s_mul {a b : Int64} (h1 : -9223372036854775808 ≤ a.toInt * b.toInt) (h2 : a.toInt * b.toInt ≤ 9223372036854775807) : (a * b).toInt = a.toInt * b.toInt := by rw [Int64.toInt_mul, bm64 h1 h2]
theorem s_div {a b : Int64} (hb : 0 < b.toInt) : (a / b).toInt = a.toInt.tdiv b.toInt := by
  rw [Int64.toInt_div]
  have l := Int64.le_toInt a
  have u := Int64.toInt_lt a
  obtain ⟨p, q⟩ := td_b (x := a.toInt) hb
  apply bm64
  · by_cases c : 0 ≤ a.toInt
    · have := p c; omega
    · have := q (by omega); omega
  · by_cases c : 0 ≤ a.toInt
    · have := p c; omega
    · have := q (by omega); omega
theorem s_32 {a : Int64} (h1 : -2147483648 ≤ a.toInt) (h2 : a.toInt ≤ 2147483647) : (Int64.toInt32 a).toInt = a.toInt := by rw [Int64.toInt_toInt32, bm32 h1 h2]
theorem i_inj {a b : Int32} (h : a.toInt = b.toInt) : a = b := Int32.toInt_inj.mp h
theorem l_inj {a b : Int64} (h : a.toInt = b.toInt) : a = b := Int64.toInt_inj.mp h
theorem i_lo (a : Int32) : -2147483648 ≤ a.toInt ∧ a.toInt ≤ 2147483647 := by
  have l := Int32.le_toInt a
  have u := Int32.toInt_lt a
  omega
theorem lc_gt {x y : Int64} : 0 < lg_cmp x y ↔ y < x := by
  unfold lg_cmp
  by_cases c : x > y
  · rw [if_pos c]
    exact ⟨fun _ => c, fun _ => by decide⟩
  · rw [if_neg c]
    refine ⟨fun q => ?_, fun q => absurd q c⟩
    split at q
    · exact absurd q (by decide)
    · exact absurd q (by decide)
theorem lc_le {x y : Int64} : lg_cmp x y ≤ 0 ↔ x ≤ y := by
  have := lc_gt (x := x) (y := y)
  constructor
  · intro h
    exact Int64.not_lt.mp fun q => absurd (this.mpr q) (Int32.not_lt.mpr h)
  · intro h
    exact Int32.not_lt.mp fun q => absurd (this.mp q) (Int64.not_lt.mpr h)
theorem lc_ge {x y : Int64} : 0 ≤ lg_cmp x y ↔ y ≤ x := by
  unfold lg_cmp
  by_cases c : x > y
  · rw [if_pos c]
    exact ⟨fun _ => Int64.le_of_lt c, fun _ => by decide⟩
  · rw [if_neg c]
    by_cases q : x = y
    · rw [if_pos q, q]
      exact ⟨fun _ => Int64.le_refl _, fun _ => by decide⟩
    · rw [if_neg q]
      refine ⟨fun p => absurd p (by decide), fun p => ?_⟩
      have a : x.toInt ≤ y.toInt := Int64.le_iff_toInt_le.mp (Int64.not_lt.mp c)
      have b : y.toInt ≤ x.toInt := Int64.le_iff_toInt_le.mp p
      exact absurd (l_inj (by omega)) q
theorem lc_0 {x y : Int64} : lg_cmp x y = 0 ↔ x = y := by
  unfold lg_cmp
  by_cases c : x > y
  · rw [if_pos c]
    refine ⟨fun q => absurd q (by decide), fun q => ?_⟩
    rw [q] at c
    exact absurd c (Int64.lt_irrefl)
  · rw [if_neg c]
    by_cases q : x = y
    · rw [if_pos q]
      exact ⟨fun _ => q, fun _ => rfl⟩
    · rw [if_neg q]
      exact ⟨fun p => absurd p (by decide), fun p => absurd p q⟩
theorem t64 (x : Int32) : (Int32.toInt64 x).toInt = x.toInt := Int32.toInt_toInt64 x
theorem jmax_t (x y : Int32) : (jmax x y).toInt = max x.toInt y.toInt := by
  unfold jmax
  by_cases c : x < y
  · rw [if_pos c]
    rw [Int32.lt_iff_toInt_lt] at c
    omega
  · rw [if_neg c]
    rw [Int32.lt_iff_toInt_lt] at c
    omega
theorem jmin_t (x y : Int32) : (jmin x y).toInt = min x.toInt y.toInt := by
  unfold jmin
  by_cases c : y < x
  · rw [if_pos c]
    rw [Int32.lt_iff_toInt_lt] at c
    omega
  · rw [if_neg c]
    rw [Int32.lt_iff_toInt_lt] at c
    omega
/-- a product of three stays small -/
theorem p3_b {a b c : Int} (ha0 : 0 ≤ a) (ha : a ≤ 999) (hb0 : 0 ≤ b) (hb : b ≤ 99) (hc0 : -20000 ≤ c) (hc : c ≤ 20000) : 0 ≤ a * b ∧ a * b ≤ 98901 ∧ -1978020000 ≤ a * b * c ∧ a * b * c ≤ 1978020000 := by
  have h1 : 0 ≤ a * b := Int.mul_nonneg ha0 hb0
  have h2 : a * b ≤ 999 * 99 := Int.mul_le_mul ha hb hb0 (by decide)
  refine ⟨h1, h2, ?_, ?_⟩
  · have : a * b * (-c) ≤ 98901 * 20000 := by
      by_cases q : 0 ≤ -c
      · exact Int.mul_le_mul h2 (by omega) q (by decide)
      · have := Int.mul_le_mul_of_nonneg_left (show -c ≤ 0 by omega) h1
        omega
    rw [Int.mul_neg] at this
    omega
  · by_cases q : 0 ≤ c
    · exact Int.mul_le_mul h2 (by omega) q (by decide)
    · have := Int.mul_le_mul_of_nonneg_left (show c ≤ 0 by omega) h1
      omega
theorem ht_eq {f z a : Int32} (hf : irng f 0 999) (hz : irng z 0 99) (ha : irng a (-20000) 20000) : jmax 0 (f * z * a / 10000) = (if 0 ≤ lg_cmp (Int32.toInt64 f * Int32.toInt64 z * Int32.toInt64 a / 10000) 0 then Int64.toInt32 (Int32.toInt64 f * Int32.toInt64 z * Int32.toInt64 a / 10000) else 0) ∧ irng (jmax 0 (f * z * a / 10000)) 0 197802 := by
  obtain ⟨f0, f1⟩ := hf
  obtain ⟨z0, z1⟩ := hz
  obtain ⟨a0, a1⟩ := ha
  obtain ⟨p0, p1, p2, p3⟩ := p3_b f0 f1 z0 z1 a0 a1
  have e1 : (f * z).toInt = f.toInt * z.toInt := t_mul (by omega) (by omega)
  have e2 : (f * z * a).toInt = f.toInt * z.toInt * a.toInt := by rw [t_mul (by rw [e1]; omega) (by rw [e1]; omega), e1]
  have k32 : (10000 : Int32).toInt = 10000 := by decide
  have k64 : (10000 : Int64).toInt = 10000 := by decide
  have e3 : (f * z * a / 10000).toInt = (f.toInt * z.toInt * a.toInt).tdiv 10000 := by rw [t_div (by rw [k32]; decide), e2, k32]
  have g1 : (Int32.toInt64 f * Int32.toInt64 z).toInt = f.toInt * z.toInt := by rw [s_mul (by rw [t64, t64]; omega) (by rw [t64, t64]; omega), t64, t64]
  have g2 : (Int32.toInt64 f * Int32.toInt64 z * Int32.toInt64 a).toInt = f.toInt * z.toInt * a.toInt := by rw [s_mul (by rw [g1, t64]; omega) (by rw [g1, t64]; omega), g1, t64]
  have g3 : (Int32.toInt64 f * Int32.toInt64 z * Int32.toInt64 a / 10000).toInt = (f.toInt * z.toInt * a.toInt).tdiv 10000 := by rw [s_div (by rw [k64]; decide), g2, k64]
  have td : -197802 ≤ (f.toInt * z.toInt * a.toInt).tdiv 10000 ∧ (f.toInt * z.toInt * a.toInt).tdiv 10000 ≤ 197802 := by
    generalize f.toInt * z.toInt * a.toInt = x at p2 p3
    by_cases c : 0 ≤ x
    · rw [Int.tdiv_eq_ediv_of_nonneg c]
      omega
    · have e : (-x).tdiv 10000 = -x / 10000 := Int.tdiv_eq_ediv_of_nonneg (by omega)
      rw [Int.neg_tdiv] at e
      omega
  have z0' : (0 : Int32).toInt = 0 := by decide
  have z64 : (0 : Int64).toInt = 0 := by decide
  constructor
  · apply i_inj
    rw [jmax_t, e3, z0']
    by_cases c : 0 ≤ lg_cmp (Int32.toInt64 f * Int32.toInt64 z * Int32.toInt64 a / 10000) 0
    · have c' := lc_ge.mp c
      rw [Int64.le_iff_toInt_le, g3, z64] at c'
      rw [if_pos c, s_32 (by rw [g3]; omega) (by rw [g3]; omega), g3]
      omega
    · have c' : ¬ (0 : Int64) ≤ _ := fun q => c (lc_ge.mpr q)
      rw [Int64.le_iff_toInt_le, g3, z64] at c'
      rw [if_neg c, z0']
      omega
  · unfold irng
    rw [jmax_t, e3, z0']
    omega
/-- sums of small ints -/
theorem sm_t {n : Nat} {f : Nat → Int32} {B : Int} (hB0 : 0 ≤ B) (hB : B ≤ 1000000) (hn : n ≤ 8) (h : ∀ k, k < n → irng (f k) 0 B) : irng (sm n f) 0 (n * B) ∧ (sml n fun j => Int32.toInt64 (f j)) = Int32.toInt64 (sm n f) := by
  induction n with
  | zero =>
    refine ⟨⟨show (0 : Int) ≤ (0 : Int32).toInt by decide, by show (0 : Int32).toInt ≤ _; rw [show (0 : Int32).toInt = 0 by decide]; omega⟩, show (0 : Int64) = Int32.toInt64 0 by decide⟩
  | succ n ih =>
    obtain ⟨⟨a1, a2⟩, b⟩ := ih (by omega) fun k hk => h k (by omega)
    obtain ⟨c1, c2⟩ := h n (by omega)
    have m1 : (n : Int) * B ≤ 8 * B := Int.mul_le_mul_of_nonneg_right (by omega) hB0
    have e : (sm n f + f n).toInt = (sm n f).toInt + (f n).toInt := t_add (by omega) (by omega)
    have m2 : ((n + 1 : Nat) : Int) * B = (n : Int) * B + B := by
      rw [Int.natCast_add, Int.add_mul]
      omega
    refine ⟨⟨?_, ?_⟩, ?_⟩
    · rw [sm_s, e]; omega
    · rw [sm_s, e, m2]; omega
    · rw [sml_s, sm_s, b]
      apply l_inj
      rw [t64, s_add (by rw [t64, t64]; omega) (by rw [t64, t64]; omega), t64, t64, e]
theorem sml_c {n : Nat} {f g : Nat → Int64} (h : ∀ k, k < n → f k = g k) : sml n f = sml n g := by
  induction n with
  | zero => rfl
  | succ n ih => rw [sml_s, sml_s, ih fun k hk => h k (by omega), h n (by omega)]
