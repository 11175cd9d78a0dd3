/-! class and reference: walls, gains, warmth -/
theorem wli_v {lo : Nat → Nat → Int32} {r : Nat} {W : Nat → Int32} (k j : Nat) : wli lo r W k j = W j + (if j = r then sm k (fun i => lo r (r + 1 + i)) else 0) - (if r < j ∧ j < r + 1 + k then lo r j else 0) := by
  induction k generalizing j with
  | zero =>
    unfold wli
    rw [if_neg (show ¬ (r < j ∧ j < r + 1 + 0) by omega), sm_0, ite_self, Int32.add_zero, Int32.sub_zero]
  | succ k ih =>
    unfold wli
    by_cases q : j = r + 1 + k
    · rw [q, up_eq, ih, if_neg (by omega), if_neg (by omega), if_neg (by omega), if_pos (by omega), Int32.add_zero, Int32.sub_zero]
    · rw [up_ne q]
      by_cases q2 : j = r
      · rw [q2, up_eq, ih, if_pos rfl, if_neg (by omega), if_pos rfl, if_neg (by omega), sm_s, Int32.sub_zero, Int32.sub_zero, Int32.add_assoc]
      · rw [up_ne q2, ih, if_neg q2, if_neg q2]
        by_cases q3 : r < j ∧ j < r + 1 + k
        · rw [if_pos q3, if_pos (by omega)]
        · rw [if_neg q3, if_neg (by omega)]
theorem wlo_v {lo : Nat → Nat → Int32} {N : Nat} (r : Nat) (hr : r ≤ N) (j : Nat) (hj : j < N) : wlo lo N (fun _ => 0) r j = (if j < r then sm (N - (j + 1)) (fun i => lo j (j + 1 + i)) else 0) - sm (if r ≤ j then r else j) (fun a => lo a j) := by
  induction r with
  | zero =>
    unfold wlo
    rw [if_neg (by omega), if_pos (by omega), sm_0]
    decide
  | succ r ih =>
    have ih' := ih (by omega)
    unfold wlo
    rw [wli_v, ih']
    by_cases q : j < r
    · rw [if_pos q, if_neg (show ¬ r ≤ j by omega), if_neg (show ¬ j = r by omega), if_neg (by omega), if_pos (show j < r + 1 by omega), if_neg (show ¬ r + 1 ≤ j by omega), Int32.add_zero, Int32.sub_zero]
    by_cases q2 : j = r
    · rw [if_neg q, if_pos (show r ≤ j by omega), if_pos q2, if_neg (by omega), if_pos (show j < r + 1 by omega), if_neg (show ¬ r + 1 ≤ j by omega), q2, Int32.sub_zero, Int32.sub_eq_add_neg, Int32.zero_add, Int32.add_comm, ← Int32.sub_eq_add_neg]
    · rw [if_neg q, if_pos (show r ≤ j by omega), if_neg q2, if_pos (by omega), if_neg (show ¬ j < r + 1 by omega), if_pos (show r + 1 ≤ j by omega), Int32.add_zero, sm_s]
      simp only [Int32.sub_eq_add_neg, Int32.neg_add, Int32.zero_add]
theorem sm_sp {f : Nat → Int32} (a b : Nat) : sm (a + b) f = sm a f + sm b (fun i => f (a + i)) := by
  induction b with
  | zero => rw [Nat.add_zero, sm_0, Int32.add_zero]
  | succ b ih => rw [← Nat.add_assoc, sm_s, sm_s, ih, Int32.add_assoc]
theorem sm_neg {f : Nat → Int32} (n : Nat) : -sm n f = sm n (fun i => -f i) := by
  induction n with
  | zero => exact show -(0 : Int32) = 0 by decide
  | succ n ih => rw [sm_s, sm_s, Int32.neg_add, ih, Int32.sub_eq_add_neg]
/-- what one room loses the other gains -/
theorem wal_n {x a b : Int32} (hx : irng x 0 99) (ha : irng a (-9999) 9999) (hb : irng b (-9999) 9999) : -(x * (a - b) / 100) = x * (b - a) / 100 := by
  obtain ⟨x0, x1⟩ := hx
  obtain ⟨a0, a1⟩ := ha
  obtain ⟨b0, b1⟩ := hb
  have e1 : (a - b).toInt = a.toInt - b.toInt := t_sub (by omega) (by omega)
  have e2 : (b - a).toInt = b.toInt - a.toInt := t_sub (by omega) (by omega)
  have bb : ∀ y : Int, -19998 ≤ y → y ≤ 19998 → -1979802 ≤ x.toInt * y ∧ x.toInt * y ≤ 1979802 := by
    intro y h1 h2
    have p := p3_b (a := 1) (b := x.toInt) (c := y) (by decide) (by decide) x0 x1 (by omega) (by omega)
    have u : x.toInt * y ≤ x.toInt * 19998 := Int.mul_le_mul_of_nonneg_left h2 x0
    have v : x.toInt * (-19998) ≤ x.toInt * y := Int.mul_le_mul_of_nonneg_left h1 x0
    omega
  have m1 := bb (a.toInt - b.toInt) (by omega) (by omega)
  have m2 := bb (b.toInt - a.toInt) (by omega) (by omega)
  have f1 : (x * (a - b)).toInt = x.toInt * (a.toInt - b.toInt) := by rw [t_mul (by rw [e1]; omega) (by rw [e1]; omega), e1]
  have f2 : (x * (b - a)).toInt = x.toInt * (b.toInt - a.toInt) := by rw [t_mul (by rw [e2]; omega) (by rw [e2]; omega), e2]
  have k100 : (100 : Int32).toInt = 100 := by decide
  have g1 : (x * (a - b) / 100).toInt = (x.toInt * (a.toInt - b.toInt)).tdiv 100 := by rw [t_div (by rw [k100]; decide), f1, k100]
  have g2 : (x * (b - a) / 100).toInt = (x.toInt * (b.toInt - a.toInt)).tdiv 100 := by rw [t_div (by rw [k100]; decide), f2, k100]
  have nn : x.toInt * (b.toInt - a.toInt) = -(x.toInt * (a.toInt - b.toInt)) := by
    rw [← Int.mul_neg]
    congr 1
    omega
  apply i_inj
  have nz : ∀ y : Int32, -y = 0 - y := fun y => by rw [Int32.sub_eq_add_neg, Int32.zero_add]
  have sm : -(x * (a - b) / 100) = 0 - x * (a - b) / 100 := nz _
  have tb := td_b (x := x.toInt * (a.toInt - b.toInt)) (y := 100) (by decide)
  rw [sm, t_sub, k0, g1, g2, nn, Int.neg_tdiv]
  · omega
  · rw [k0, g1]
    by_cases c : 0 ≤ x.toInt * (a.toInt - b.toInt)
    · have := tb.1 c; omega
    · have := tb.2 (by omega); omega
  · rw [k0, g1]
    by_cases c : 0 ≤ x.toInt * (a.toInt - b.toInt)
    · have := tb.1 c; omega
    · have := tb.2 (by omega); omega
theorem z100 (x a : Int32) : x * (a - a) / 100 = 0 := by
  rw [Int32.sub_self, Int32.mul_zero]
  decide
theorem rcl_e (v : Int32) : jmax (-9999) (jmin 9999 v) = rcl v ∧ irng (rcl v) (-9999) 9999 := by
  have e : (jmax (-9999) (jmin 9999 v)).toInt = max (-9999) (min 9999 v.toInt) := by
    rw [jmax_t, jmin_t]
    rfl
  have q1 : (-9999 : Int32).toInt = -9999 := by decide
  have q2 : (9999 : Int32).toInt = 9999 := by decide
  have a : jmax (-9999) (jmin 9999 v) = rcl v := by
    apply i_inj
    rw [e]
    unfold rcl
    by_cases c1 : -9999 ≤ v
    · rw [if_pos c1]
      rw [Int32.le_iff_toInt_le, q1] at c1
      by_cases c2 : v ≤ 9999
      · rw [if_pos c2]
        rw [Int32.le_iff_toInt_le, q2] at c2
        omega
      · rw [if_neg c2, q2]
        rw [Int32.le_iff_toInt_le, q2] at c2
        omega
    · rw [if_neg c1, q1]
      rw [Int32.le_iff_toInt_le, q1] at c1
      omega
  refine ⟨a, ?_⟩
  rw [← a]
  unfold irng
  rw [e]
  omega
theorem ghn_v {rm : Nat → Nat} {H : Nat → Int32} (n j : Nat) : ghn rm H (fun _ => 0) n j = sm n (fun k => if rm k = j then H k else 0) := by
  induction n with
  | zero => rfl
  | succ n ih =>
    unfold ghn
    rw [sm_s]
    by_cases q : j = rm n
    · rw [q, up_eq, if_pos rfl, ← q, ih]
    · rw [up_ne q, if_neg (fun p => q p.symm), ih, Int32.add_zero]
section
variable {I J : Nat → Nat → Int32} {h s t u m nr n mm nh : Nat} {rm pi sb sr : Nat → Nat} {M : Nat}
theorem eq_wal (hH : HsR I J h m nr n rm pi) (hC : CoR I J s t u m nr n mm nh sb sr M) {j : Nat} (hj : j < nr) : wlo (los I h t) nr (fun _ => 0) nr j = rwl (J (m + 1)) (J (m + 4)) nr j := by
  obtain ⟨-, -, -, -, hW, -⟩ := hH
  obtain ⟨-, hT, -⟩ := hC
  rw [wlo_v nr (Nat.le_refl nr) j hj, if_pos hj, if_neg (by omega)]
  unfold rwl
  have e : nr = j + (1 + (nr - (j + 1))) := by omega
  have l1 : ∀ o, o < nr → los I h t j o = J (m + 1) (56 + 8 * j + o) * (J (m + 4) j - J (m + 4) o) / 100 := by
    intro o ho
    unfold los
    rw [(hW j o hj ho).1, (hT j hj).1, (hT o ho).1]
  have l2 : ∀ a, a < nr → -los I h t a j = J (m + 1) (56 + 8 * j + a) * (J (m + 4) j - J (m + 4) a) / 100 := by
    intro a ha
    unfold los
    rw [(hW a j ha hj).1, (hT j hj).1, (hT a ha).1, wal_n (hW a j ha hj).2.2 (hT a ha).2 (hT j hj).2, (hW a j ha hj).2.1]
  have r1 : sm (nr - (j + 1)) (fun i => los I h t j (j + 1 + i)) = sm (nr - (j + 1)) (fun i => J (m + 1) (56 + 8 * j + (j + 1 + i)) * (J (m + 4) j - J (m + 4) (j + 1 + i)) / 100) := sm_c fun i hi => l1 _ (by omega)
  have r2 : -sm j (fun a => los I h t a j) = sm j (fun a => J (m + 1) (56 + 8 * j + a) * (J (m + 4) j - J (m + 4) a) / 100) := by
    rw [sm_neg]
    exact sm_c fun a ha => l2 a (by omega)
  rw [Int32.sub_eq_add_neg, r1, r2, Int32.add_comm]
  generalize hg : (fun o => J (m + 1) (56 + 8 * j + o) * (J (m + 4) j - J (m + 4) o) / 100) = g
  have gj : g j = 0 := by rw [← hg]; exact z100 _ _
  have r3 : (fun i => J (m + 1) (56 + 8 * j + (j + 1 + i)) * (J (m + 4) j - J (m + 4) (j + 1 + i)) / 100) = fun i => g (j + 1 + i) := by rw [← hg]
  rw [r3]
  have s1 := sm_sp (f := g) j (1 + (nr - (j + 1)))
  have s2 := sm_sp (f := fun i => g (j + i)) 1 (nr - (j + 1))
  rw [← e] at s1
  have s3 : sm 1 (fun i => g (j + i)) = g j := by
    rw [sm_s, sm_0, Int32.zero_add, Nat.add_zero]
  have s4 : (fun i => g (j + (1 + i))) = fun i => g (j + 1 + i) := by
    funext i
    rw [Nat.add_assoc]
  rw [s3, gj, Int32.zero_add, s4] at s2
  rw [s1, s2]
theorem mS1_ht {k : Nat} {hr : Nat} (hk : k < n) : mS1 J m pi rm hr n (122 + k) = rh1 (J m 15) (J m 16) (J (m + 1)) (J (m + 4)) pi rm hr n k := by
  unfold mS1 rsA
  rw [seg_in hk]
theorem mS1_fl {k : Nat} {hr : Nat} (hk : k < n) (hn8 : n ≤ 8) : mS1 J m pi rm hr n (114 + k) = rfl_ (J m 15) (J m 16) (J (m + 1)) (J (m + 4)) pi n k := by
  unfold mS1 rsA
  rw [seg_out (by omega), seg_in hk]
theorem eq_all (hH : HsR I J h m nr n rm pi) (hC : CoR I J s t u m nr n mm nh sb sr M) {hr : Nat} (h24 : hr < 24) {w : Int32} (hw : w = rwa (J (m + 1)) (J (m + 4)) hr) : sm n (kHt I h s t n w rm) = mAl J m pi rm hr n := by
  unfold mAl
  exact sm_c fun k hk => by rw [mS1_ht hk, ((eq_ht hH hC h24 hw).2 k hk).1]
theorem eq_gh (hH : HsR I J h m nr n rm pi) (hC : CoR I J s t u m nr n mm nh sb sr M) {hr : Nat} (h24 : hr < 24) {w : Int32} (hw : w = rwa (J (m + 1)) (J (m + 4)) hr) {j : Nat} (hj : j < nr) : ghn rm (kHt I h s t n w rm) (fun _ => 0) n j = rht (J (m + 1)) (mS1 J m pi rm hr n) n j := by
  rw [ghn_v]
  unfold rht
  have hnr8 := hH.1.2.2.1
  have eh := (eq_ht hH hC h24 hw).2
  refine sm_c fun k hk => ?_
  obtain ⟨-, -, -, -, -, hrm, -⟩ := hH
  obtain ⟨-, r2, r3⟩ := hrm k hk
  rw [mS1_ht hk, r2]
  by_cases c : rm k = j
  · rw [if_pos c, if_pos (by rw [c]), (eh k hk).1]
  · rw [if_neg c, if_neg (fun q => c ((i_eq (by omega) (by omega)).mp q))]
theorem eq_te (hH : HsR I J h m nr n rm pi) (hC : CoR I J s t u m nr n mm nh sb sr M) {hr : Nat} (h24 : hr < 24) {w : Int32} (hw : w = rwa (J (m + 1)) (J (m + 4)) hr) {j : Nat} (hj : j < nr) : kTe I h s t hr n nr w rm j = mTe J m pi rm hr nr n j ∧ irng (mTe J m pi rm hr nr n j) (-9999) 9999 := by
  have hn8 := hH.1.2.2.2.2.2
  have hnr8 := hH.1.2.2.1
  have o : ∀ i, i < 74 ∨ 130 ≤ i → mS1 J m pi rm hr n i = J (m + 4) i := fun i hi => mS1_o hn8 (by omega)
  have g := eq_gh hH hC h24 hw hj
  have wl := eq_wal hH hC hj
  obtain ⟨-, hm, hb, hs, -⟩ := hH
  obtain ⟨-, hT, -, -, -, -, -, hA, hO, -⟩ := hC
  have wl2 : rwl (J (m + 1)) (mS1 J m pi rm hr n) nr j = rwl (J (m + 1)) (J (m + 4)) nr j := sm_c fun k hk => by rw [o j (by omega), o k (by omega)]
  have lo : lou I h t (I (s + 2) hr) j = rlo (J (m + 1)) (mS1 J m pi rm hr n) (rou (J m 20) (J m 17) (J (m + 4)) hr) j := by
    unfold lou rlo
    rw [(hb j hj).1, (hT j hj).1, hO hr h24, o j (by omega)]
  have lw : lwi I h t (I (s + 2) hr) j = rlw (J m 15) (J m 16) (J (m + 1)) (mS1 J m pi rm hr n) (rou (J m 20) (J m 17) (J (m + 4)) hr) j := by
    unfold lwi rlw bit
    rw [(hb j hj).2, (hT j hj).1, hO hr h24, o j (by omega), raj_c (o (32 + j) (by omega))]
    by_cases c : ((I t 1 >>> (Int32.ofNat j &&& 31)) &&& 1) = 0
    · rw [if_pos c, if_pos rfl, if_pos ((hA j hj).mp c)]
    · rw [if_neg c, if_neg (by decide), if_neg (fun q => c ((hA j hj).mpr q))]
  have ms : jmax 1 (I (h + 1) j) = J (m + 1) j := by
    rw [(hm j hj).1]
    apply i_inj
    rw [jmax_t, k1]
    have := (hm j hj).2.1
    omega
  unfold kTe mTe rwv
  rw [(rcl_e _).1, g, wl, ← wl2, lo, lw, ms, hs j hr hj h24, (hT j hj).1, o j (by omega)]
  exact ⟨rfl, (rcl_e _).2⟩
end
