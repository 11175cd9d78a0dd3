/-! class and reference: taps, dead pipes, meters -/
theorem rof_c2 {nn : Int32} {S S' : Nat → Int32} {nh : Nat} (hnh4 : nh ≤ 4) (o : ∀ j, (68 ≤ j ∧ j < 72) ∨ (130 ≤ j ∧ j < 168) → S' j = S j) : rof nn S' nh = rof nn S nh := by
  have h : ∀ x k, k ≤ 4 → rho S' x k = rho S x k := by
    intro x k
    induction k with
    | zero => intro _; rfl
    | succ k ih =>
      intro hk
      unfold rho
      rw [ih (by omega), o 71 (by omega), o (155 + 3 * k) (by omega), o (155 + 3 * k + 1) (by omega), o (155 + 3 * k + 2) (by omega)]
  unfold rof
  rw [o 70 (by omega), o 68 (by omega), o 69 (by omega), o 71 (by omega), h _ nh hnh4]
theorem k2 : (2 : Int32).toInt = 2 := by decide
theorem k16 : (16 : Int32).toInt = 16 := by decide
theorem slow_e {op goal w : Int32} (ho : irng op 0 16) : jmax 0 (jmin 16 (op + cmp3 goal w * 2)) = if goal ≤ w then (if w ≤ goal then op else if 0 ≤ op - 2 then op - 2 else 0) else if op + 2 ≤ 16 then op + 2 else 16 := by
  obtain ⟨o0, o1⟩ := ho
  have e1 : (op + 2).toInt = op.toInt + 2 := by rw [t_add (by rw [k2]; omega) (by rw [k2]; omega), k2]
  have e2 : (op - 2).toInt = op.toInt - 2 := by rw [t_sub (by rw [k2]; omega) (by rw [k2]; omega), k2]
  unfold cmp3
  apply i_inj
  rw [jmax_t, jmin_t, k0, k16]
  by_cases c1 : goal ≤ w
  · rw [if_pos c1]
    by_cases c2 : w ≤ goal
    · have c3 : goal = w := by
        rw [Int32.le_iff_toInt_le] at c1 c2
        exact i_inj (by omega)
      rw [if_pos c2, if_pos c2, if_pos c3, Int32.zero_mul, Int32.add_zero]
      omega
    · rw [if_neg c2, if_neg c2, show (-1 : Int32) * 2 = -2 by decide, ← Int32.sub_eq_add_neg, e2]
      by_cases c4 : 0 ≤ op - 2
      · rw [if_pos c4, e2]
        rw [Int32.le_iff_toInt_le, e2, k0] at c4
        omega
      · rw [if_neg c4, k0]
        rw [Int32.le_iff_toInt_le, e2, k0] at c4
        omega
  · have c2 : w ≤ goal := by
      rw [Int32.le_iff_toInt_le] at c1 ⊢
      omega
    have c3 : ¬ goal = w := fun q => c1 (by rw [q]; exact Int32.le_refl _)
    rw [if_neg c1, if_pos c2, if_neg c3, show (1 : Int32) * 2 = 2 by decide, e1]
    by_cases c4 : op + 2 ≤ 16
    · rw [if_pos c4, e1]
      rw [Int32.le_iff_toInt_le, e1, k16] at c4
      omega
    · rw [if_neg c4, k16]
      rw [Int32.le_iff_toInt_le, e1, k16] at c4
      omega
theorem rnx_b {kd se go op : Int32} (ho : irng op 0 16) : irng (rnx kd se go op) 0 16 := by
  have e1 : (op + 2).toInt = op.toInt + 2 := by rw [t_add (by rw [k2]; have := ho.1; omega) (by rw [k2]; have := ho.2; omega), k2]
  have e2 : (op - 2).toInt = op.toInt - 2 := by rw [t_sub (by rw [k2]; have := ho.1; omega) (by rw [k2]; have := ho.2; omega), k2]
  obtain ⟨o0, o1⟩ := ho
  unfold rnx irng
  by_cases c : kd = 2
  · rw [if_pos c]
    by_cases c1 : go ≤ se
    · rw [if_pos c1]
      by_cases c2 : se ≤ go
      · rw [if_pos c2]; omega
      · rw [if_neg c2]
        by_cases c4 : 0 ≤ op - 2
        · rw [if_pos c4, e2]
          rw [Int32.le_iff_toInt_le, e2, k0] at c4
          omega
        · rw [if_neg c4, k0]; omega
    · rw [if_neg c1]
      by_cases c4 : op + 2 ≤ 16
      · rw [if_pos c4, e1]
        rw [Int32.le_iff_toInt_le, e1, k16] at c4
        omega
      · rw [if_neg c4, k16]; omega
  · rw [if_neg c]
    by_cases c1 : go - 20 ≤ se
    · rw [if_pos c1]
      by_cases c2 : se ≤ go + 20
      · rw [if_pos c2]; omega
      · rw [if_neg c2, k0]; omega
    · rw [if_neg c1, k16]; omega
theorem hof_c {I I' : Nat → Nat → Int32} {s : Nat} (h4 : I' (s + 4) = I (s + 4)) (h5 : I' (s + 5) = I (s + 5)) (h6 : I' (s + 6) = I (s + 6)) (x y : Int32) (k : Nat) : hof I' s x y k = hof I s x y k := by
  induction k with
  | zero => rfl
  | succ k ih =>
    unfold hof
    rw [ih, h4, h5, h6]
theorem mS5_te {J : Nat → Nat → Int32} {m nr n hr j : Nat} {pi rm : Nat → Nat} (hj : j < nr) (hnr8 : nr ≤ 8) : mS5 J m pi rm hr nr n j = mTe J m pi rm hr nr n j := by
  unfold mS5 mS4 mSt mS3
  rw [seg_out (by omega), up_ne (by omega), up_ne (by omega), up_ne (by omega), pre_lt hj]
section
variable {I J : Nat → Nat → Int32} {h s t u m nr n mm nh : Nat} {rm pi sb sr : Nat → Nat} {M : Nat}
theorem eq_off (hC : CoR I J s t u m nr n mm nh sb sr M) (hn8 : n ≤ 8) (hnr8 : nr ≤ 8) (h1 : h + 14 ≤ t) (h2 : s + 7 ≤ t) {hr : Nat} (hh : hou (I t 0) = Int32.ofNat hr) {w : Int32} : pmO (pm8 I h s t hr w rm pi nr n) s t hr mm = rof (J m 21) (mS5 J m pi rm hr nr n) nh := by
  obtain ⟨⟨m1, m2⟩, -, -, -, -, -, -, -, -, ⟨-, -, -, nh4, ho⟩, -⟩ := hC
  unfold pmO
  have e0 : pm8 I h s t hr w rm pi nr n t 0 = I t 0 := by rw [k8_ob h1, rbo_o (by decide)]
  rw [e0, hof_c (I := I) (k8_o h1 (by omega)) (k8_o h1 (by omega)) (k8_o h1 (by omega))]
  have e1 : ngt (pm8 I h s t hr w rm pi nr n) s (Int32.ofNat hr) = ngt I s (hou (I t 0)) := by
    unfold ngt
    rw [k8_o h1 (by omega), hh]
  rw [e1, k8_o h1 (by omega), ho (I t 0), m1, ← m2, up_id]
  exact (rof_c2 nh4 fun j hj => mS5_o hnr8 hn8 (by omega)).symm
theorem eq_nx (hH : HsR I J h m nr n rm pi) (hC : CoR I J s t u m nr n mm nh sb sr M) (h1 : h + 14 ≤ t) (h2 : s + 7 ≤ t) (h3 : t + 14 ≤ u) {hr : Nat} (hh : hou (I t 0) = Int32.ofNat hr) (h24 : hr < 24) {w : Int32} (hw : w = rwa (J (m + 1)) (J (m + 4)) hr) {k : Nat} (hk : k < n) : nxo (pm8 I h s t hr w rm pi nr n) h t u (pmO (pm8 I h s t hr w rm pi nr n) s t hr mm) sr k = (if J (m + 1) (144 + k) = 0 then 16 else if rwr (J m 15) (J m 16) (10 * 1 + Int32.ofNat k) = 0 then (if rwr (J m 15) (J m 16) (10 * 0 + Int32.ofNat k) = 0 then mNw J m (mS5 J m pi rm hr nr n) sr nh k else 0) else 16) ∧ irng (nxo (pm8 I h s t hr w rm pi nr n) h t u (pmO (pm8 I h s t hr w rm pi nr n) s t hr mm) sr k) 0 16 := by
  have hn8 := hH.1.2.2.2.2.2
  have hnr8 := hH.1.2.2.1
  have of := eq_off (rm := rm) (pi := pi) hC hn8 hnr8 h1 h2 hh (w := w)
  have ted : ∀ j, j < nr → pm8 I h s t hr w rm pi nr n (t + 1) j = mS5 J m pi rm hr nr n j := by
    intro j hj
    rw [k8_te hj hnr8 h1 (fun k hk => (hH.2.2.2.2.2.1 k hk).2.2), (eq_te hH hC h24 hw hj).1, mS5_te hj hnr8]
  obtain ⟨-, -, -, -, -, -, -, hK, -⟩ := hH
  obtain ⟨-, hd1, hd2⟩ := (hK k hk).2
  obtain ⟨-, -, hO, -, -, -, -, hA, -, -, hS, hB, hG⟩ := hC
  obtain ⟨o1, o2⟩ := hO k hk
  obtain ⟨s1, s2, -⟩ := hS k hk
  have o5 : ∀ j, (8 ≤ j ∧ j < 72) ∨ (130 ≤ j ∧ j < 168) → mS5 J m pi rm hr nr n j = J (m + 4) j := fun j hj => mS5_o hnr8 hn8 hj
  rw [of]
  unfold nxo nop
  have x1 : pm8 I h s t hr w rm pi nr n (h + 12) = I (h + 12) := k8_o h1 (by omega)
  have x2 : pm8 I h s t hr w rm pi nr n (t + 7) = I (t + 7) := k8_o h1 (by omega)
  have x3 : pm8 I h s t hr w rm pi nr n u = I u := k8_o h1 (by omega)
  have x4 : pm8 I h s t hr w rm pi nr n (u + 2) = I (u + 2) := k8_o h1 (by omega)
  have x5 : pm8 I h s t hr w rm pi nr n t 1 = I t 1 := by rw [k8_ob h1, rbo_o (by decide)]
  rw [x1, x2, x3, x4, hd1]
  have rv : rov (J m 15) (J m 16) (J (m + 1)) (J (m + 4)) k = if J (m + 1) (144 + k) = 0 then 16 else if rwr (J m 15) (J m 16) (10 * 1 + Int32.ofNat k) = 0 then (if rwr (J m 15) (J m 16) (10 * 0 + Int32.ofNat k) = 0 then J (m + 4) (8 + k) else 0) else 16 := rfl
  by_cases c0 : J (m + 1) (144 + k) = 0
  · rw [if_pos c0] at rv
    rw [if_pos c0, if_pos c0]
    exact ⟨by rw [o1, rv], o2⟩
  rw [if_neg c0] at rv
  rw [if_neg c0, if_neg c0]
  have hb := hB k hk c0
  by_cases c1 : ((I u 0 >>> (Int32.ofNat k &&& 31)) &&& 1) = 0
  · obtain ⟨b0, b1⟩ := hb.mp c1
    rw [if_pos b1, if_pos b0] at rv
    rw [if_pos c1, if_pos b1, if_pos b0]
    have wt : wth (pm8 I h s t hr w rm pi nr n) h t k (sr k) = ree (J m 15) (J m 16) (J (m + 1)) (mS5 J m pi rm hr nr n) (sr k) k := by
      unfold wth ree
      rw [x1, hd1, x5, ted _ s2, raj_c (o5 (32 + sr k) (by omega))]
      congr 1
      by_cases c3 : J (m + 1) (144 + k) = 3
      · rw [if_pos c3, if_pos c3]
        have a := hA (sr k) s2
        by_cases c4 : ((I t 1 >>> (Int32.ofNat (sr k) &&& 31)) &&& 1) = 0
        · rw [if_pos c4, if_pos (a.mp c4)]
        · rw [if_neg c4, if_neg (fun q => c4 (a.mpr q))]
      · rw [if_neg c3, if_neg c3]
    have gl : (I (u + 2) k - rof (J m 21) (mS5 J m pi rm hr nr n) nh) * 10 = rgo (J m 18) (J m 19) (rof (J m 21) (mS5 J m pi rm hr nr n) nh) (J (m + 1)) k := by
      unfold rgo
      rw [hG k hk, Int32.sub_mul, Int32.mul_comm _ 10, Int32.mul_comm _ 10]
    have en : mNw J m (mS5 J m pi rm hr nr n) sr nh k = rnx (J (m + 1) (144 + k)) (ree (J m 15) (J m 16) (J (m + 1)) (mS5 J m pi rm hr nr n) (sr k) k) (rgo (J m 18) (J m 19) (rof (J m 21) (mS5 J m pi rm hr nr n) nh) (J (m + 1)) k) (J (m + 4) (8 + k)) := by
      unfold mNw rnw
      rw [if_neg c0, if_pos b0, if_pos b1, o5 (8 + k) (by omega)]
    have e2 : (if J (m + 1) (144 + k) = 2 then jmax 0 (jmin 16 (I (t + 7) k + cmp3 ((I (u + 2) k - rof (J m 21) (mS5 J m pi rm hr nr n) nh) * 10) (wth (pm8 I h s t hr w rm pi nr n) h t k (sr k)) * 2)) else if (I (u + 2) k - rof (J m 21) (mS5 J m pi rm hr nr n) nh) * 10 - 20 ≤ wth (pm8 I h s t hr w rm pi nr n) h t k (sr k) then (if wth (pm8 I h s t hr w rm pi nr n) h t k (sr k) ≤ (I (u + 2) k - rof (J m 21) (mS5 J m pi rm hr nr n) nh) * 10 + 20 then I (t + 7) k else 0) else 16) = mNw J m (mS5 J m pi rm hr nr n) sr nh k := by
      rw [en, gl, wt, slow_e o2, ← rv, ← o1]
      rfl
    rw [e2]
    refine ⟨rfl, ?_⟩
    rw [en]
    exact rnx_b (by rw [← rv, ← o1]; exact o2)
  · rw [if_neg c1]
    refine ⟨?_, o2⟩
    rw [o1, rv]
    by_cases b1 : rwr (J m 15) (J m 16) (10 * 1 + Int32.ofNat k) = 0
    · rw [if_pos b1, if_pos b1]
      by_cases b0 : rwr (J m 15) (J m 16) (10 * 0 + Int32.ofNat k) = 0
      · exact absurd (hb.mpr ⟨b0, b1⟩) c1
      · rw [if_neg b0, if_neg b0]
    · rw [if_neg b1, if_neg b1]
end
/-- how a tap turned -/
theorem cmp3_0 {nx op : Int32} (c : nx = op) : cmp3 nx op = 0 := by
  unfold cmp3
  rw [c, if_pos (Int32.le_refl _), if_pos rfl]
theorem cmp3_1 {nx op : Int32} (c : ¬ nx = op) : cmp3 nx op = (if nx ≤ op then -1 else 1) ∧ ¬ cmp3 nx op = 0 := by
  have e : cmp3 nx op = (if nx ≤ op then -1 else 1) := by
    unfold cmp3
    by_cases c2 : op ≤ nx
    · have c3 : ¬ nx ≤ op := by
        intro q
        rw [Int32.le_iff_toInt_le] at c2 q
        exact c (i_inj (by omega))
      rw [if_pos c2, if_neg c, if_neg c3]
    · have c3 : nx ≤ op := by
        rw [Int32.le_iff_toInt_le] at c2 ⊢
        omega
      rw [if_neg c2, if_pos c3]
  refine ⟨e, ?_⟩
  rw [e]
  split
  · decide
  · decide
theorem eq_mv {nx op dir : Int32} : (if cmp3 nx op = 0 then dir else cmp3 nx op) = rdr nx op dir := by
  unfold rdr
  by_cases c : nx = op
  · rw [if_pos c, if_pos (cmp3_0 c)]
  · rw [if_neg c, if_neg (cmp3_1 c).2, (cmp3_1 c).1]
theorem tu_0 (x : Int64) : ((x <<< (Int32.toInt64 1 &&& 63)) ||| 0) &&& 1152921504606846975 = rtb x := by
  unfold rtb
  rw [Int64.or_zero]
theorem tu_1 (x : Int64) : ((x <<< (Int32.toInt64 1 &&& 63)) ||| 1) &&& 1152921504606846975 = rtb x ||| 1 := by
  unfold rtb
  generalize x <<< (Int32.toInt64 1 &&& 63) = y
  apply Int64.toBitVec_inj.mp
  apply BitVec.eq_of_getLsbD_eq
  intro i hi
  simp only [Int64.toBitVec_and, Int64.toBitVec_or, BitVec.getLsbD_and, BitVec.getLsbD_or]
  have q : (1 : Int64).toBitVec.getLsbD i = true → (1152921504606846975 : Int64).toBitVec.getLsbD i = true := by
    by_cases c : i = 0
    · intro _
      rw [c]
      decide
    · intro p
      have o : (1 : Int64).toBitVec = 1#64 := by decide
      rw [o, BitVec.getLsbD_one] at p
      simp [c] at p
  revert q
  generalize y.toBitVec.getLsbD i = a
  generalize (1 : Int64).toBitVec.getLsbD i = b
  generalize (1152921504606846975 : Int64).toBitVec.getLsbD i = c
  cases a <;> cases b <;> cases c <;> simp
theorem eq_tu {nx op dir : Int32} {x : Int64} : ((x <<< (Int32.toInt64 1 &&& 63)) ||| (if (if cmp3 nx op = 0 then (0 : Int32) else if cmp3 nx op = -dir then 1 else 0) = 0 then 0 else 1)) &&& 1152921504606846975 = rtu nx op dir x := by
  unfold rtu
  by_cases c : nx = op
  · rw [if_pos c, if_pos (cmp3_0 c), if_pos rfl, tu_0]
  · obtain ⟨c1, c4⟩ := cmp3_1 c
    rw [if_neg c, if_neg c4]
    have c6 : (cmp3 nx op = -dir) ↔ dir = -(if nx ≤ op then -1 else 1) := by
      rw [← c1]
      constructor
      · intro q; rw [q, Int32.neg_neg]
      · intro q; rw [q, Int32.neg_neg]
    by_cases c5 : cmp3 nx op = -dir
    · rw [if_pos c5, if_pos (c6.mp c5), if_neg (by decide), tu_1]
    · rw [if_neg c5, if_neg (fun q => c5 (c6.mpr q)), if_pos rfl, tu_0]
theorem ddn_v {H S fl : Nat → Int32} {pi : Nat → Nat} {hr : Nat} {w : Int32} {D : Nat → Int32} {p : Nat} (hw : w = rwa H S hr) (hp : p < 4) (n : Nat) (hf : ∀ k, k < n → fl k = S (114 + k)) (hP : ∀ k, k < n → H (128 + k) = Int32.ofNat (pi k) ∧ pi k < 4) : ddn (if w < 600 then 0 else 1) fl pi D n p = if rhot H S hr p n = 0 then D p else 0 := by
  induction n with
  | zero => rfl
  | succ n ih =>
    have ih' := ih (fun k hk => hf k (by omega)) (fun k hk => hP k (by omega))
    obtain ⟨p1, p2⟩ := hP n (by omega)
    unfold ddn rhot
    rw [← hw, p1, hf n (by omega)]
    by_cases cw : w < 600
    · simp only [if_pos cw, if_true] at ih' ⊢
      rw [ih']
      by_cases c : rhot H S hr p n = 0
      · rw [if_pos c, if_pos c]
        have z : (if Int32.ofNat (pi n) = Int32.ofNat p then (if S (114 + n) ≤ 0 then (0 : Int32) else 0) else 0) = 0 := by
          split
          · split <;> rfl
          · rfl
        rw [z, if_pos rfl]
      · rw [if_neg c, if_neg c, if_neg (by decide)]
    · simp only [if_neg cw] at ih' ⊢
      rw [if_neg (by decide)]
      by_cases c1 : S (114 + n) ≤ 0
      · rw [if_pos c1, ih', if_pos c1]
        by_cases c : rhot H S hr p n = 0
        · rw [if_pos c, if_pos c, ite_self, if_pos rfl]
        · rw [if_neg c, if_neg c, if_neg (by decide)]
      · rw [if_neg c1, if_neg c1]
        by_cases c2 : p = pi n
        · rw [← c2, up_eq, if_pos rfl]
          by_cases c : rhot H S hr p n = 0
          · rw [if_pos c, if_neg (by decide)]
          · rw [if_neg c, if_neg (by decide)]
        · have c7 : ¬ Int32.ofNat (pi n) = Int32.ofNat p := fun q => c2 ((i_eq (by omega) (by omega)).mp q.symm)
          rw [up_ne c2, ih', if_neg c7]
          by_cases c : rhot H S hr p n = 0
          · rw [if_pos c, if_pos c, if_pos rfl]
          · rw [if_neg c, if_neg c, if_neg (by decide)]
theorem met_e {a y : Int32} {x : Int64} (hx : Int32.toInt64 a = x) (ha : irng a 0 100000000) (hy : irng y 0 197802) : Int32.toInt64 (jmin 100000000 (a + y)) = rme x y ∧ irng (jmin 100000000 (a + y)) 0 100000000 := by
  obtain ⟨a0, a1⟩ := ha
  obtain ⟨y0, y1⟩ := hy
  have e : (a + y).toInt = a.toInt + y.toInt := t_add (by omega) (by omega)
  have kk : (100000000 : Int32).toInt = 100000000 := by decide
  have kl : (100000000 : Int64).toInt = 100000000 := by decide
  have ex : (x + Int32.toInt64 y).toInt = a.toInt + y.toInt := by
    rw [← hx, s_add (by rw [t64, t64]; omega) (by rw [t64, t64]; omega), t64, t64]
  constructor
  · apply l_inj
    rw [t64, jmin_t, e, kk]
    unfold rme
    by_cases c : lg_cmp (x + Int32.toInt64 y) 100000000 ≤ 0
    · rw [if_pos c, ex]
      have := lc_le.mp c
      rw [Int64.le_iff_toInt_le, ex, kl] at this
      omega
    · rw [if_neg c, kl]
      have : ¬ (x + Int32.toInt64 y ≤ 100000000) := fun q => c (lc_le.mpr q)
      rw [Int64.le_iff_toInt_le, ex, kl] at this
      omega
  · unfold irng
    rw [jmin_t, e, kk]
    omega
