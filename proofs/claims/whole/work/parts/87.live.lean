/-! a minute keeps the live state -/
theorem rbo_v {f : Nat → Int32} {x : Int32} : rbo f x 3 = (if x ≤ f 4 then f 3 else f 3 + 1) ∧ rbo f x 4 = x ∧ rbo f x 5 = f 5 + x := by
  unfold rbo
  refine ⟨?_, ?_, ?_⟩
  · rw [up_ne (by decide), up_ne (by decide)]
    split
    · rfl
    · rw [up_eq]
  · rw [up_ne (by decide), up_eq]
  · rw [up_eq]
section
variable {I J : Nat → Nat → Int32} {L : Nat → Nat → Int64} {l : Nat → Int64} {h s t u m nr n mm nh hr : Nat} {w : Int32} {rm pi sb sr : Nat → Nat} {M : Nat}
theorem mS7_2 {j : Nat} (hnr8 : nr ≤ 8) (hn8 : n ≤ 8) (hj : 74 ≤ j ∧ j < 130) : mS7 J m pi rm sr hr nr n nh j = mS2 J m pi rm hr nr n j := by
  rw [mS7_5 hn8 (by omega)]
  unfold mS5 mS4 mSt mS3
  rw [seg_out (by omega), up_ne (by omega), up_ne (by omega), up_ne (by omega), pre_ge (by omega)]
theorem mS7_1 {j : Nat} (hnr8 : nr ≤ 8) (hn8 : n ≤ 8) (hj : 114 ≤ j ∧ j < 130) : mS7 J m pi rm sr hr nr n nh j = mS1 J m pi rm hr n j := by
  rw [mS7_2 hnr8 hn8 (by omega), mS2_o hnr8 (by omega)]
theorem mS2_v {r : Nat} (hnr8 : nr ≤ 8) (hr' : r < nr) : mS2 J m pi rm hr nr n (74 + r) = rwl (J (m + 1)) (mS1 J m pi rm hr n) nr r ∧ mS2 J m pi rm hr nr n (82 + r) = rlo (J (m + 1)) (mS1 J m pi rm hr n) (rou (J m 20) (J m 17) (J (m + 4)) hr) r ∧ mS2 J m pi rm hr nr n (90 + r) = rlw (J m 15) (J m 16) (J (m + 1)) (mS1 J m pi rm hr n) (rou (J m 20) (J m 17) (J (m + 4)) hr) r ∧ mS2 J m pi rm hr nr n (98 + r) = rht (J (m + 1)) (mS1 J m pi rm hr n) n r ∧ mS2 J m pi rm hr nr n (106 + r) = rsu (J (m + 1)) hr r := by
  unfold mS2 mSs
  refine ⟨?_, ?_, ?_, ?_, ?_⟩
  · rw [seg_out (by omega), seg_out (by omega), seg_out (by omega), seg_out (by omega), seg_in hr']
  · rw [seg_out (by omega), seg_out (by omega), seg_out (by omega), seg_in hr']
  · rw [seg_out (by omega), seg_out (by omega), seg_in hr']
  · rw [seg_out (by omega), seg_in hr']
  · rw [seg_in hr']
theorem eq_lo (hH : HsR I J h m nr n rm pi) (hC : CoR I J s t u m nr n mm nh sb sr M) (h24 : hr < 24) {j : Nat} (hj : j < nr) : lou I h t (I (s + 2) hr) j = rlo (J (m + 1)) (mS1 J m pi rm hr n) (rou (J m 20) (J m 17) (J (m + 4)) hr) j ∧ lwi I h t (I (s + 2) hr) j = rlw (J m 15) (J m 16) (J (m + 1)) (mS1 J m pi rm hr n) (rou (J m 20) (J m 17) (J (m + 4)) hr) j ∧ rwl (J (m + 1)) (mS1 J m pi rm hr n) nr j = rwl (J (m + 1)) (J (m + 4)) nr j := by
  have hn8 := hH.1.2.2.2.2.2
  have hnr8 := hH.1.2.2.1
  have o : ∀ i, i < 74 ∨ 130 ≤ i → mS1 J m pi rm hr n i = J (m + 4) i := fun i hi => mS1_o hn8 (by omega)
  obtain ⟨-, hm, hb, hs, -⟩ := hH
  obtain ⟨-, hT, -, -, -, -, -, hA, hO, -⟩ := hC
  refine ⟨?_, ?_, sm_c fun k hk => by rw [o j (by omega), o k (by omega)]⟩
  · unfold lou rlo
    rw [(hb j hj).1, (hT j hj).1, hO hr h24, o j (by omega)]
  · unfold lwi rlw bit
    rw [(hb j hj).2, (hT j hj).1, hO hr h24, o j (by omega), raj_c (o (32 + j) (by omega))]
    by_cases c : ((I t 1 >>> (Int32.ofNat j &&& 31)) &&& 1) = 0
    · rw [if_pos c, if_pos rfl, if_pos ((hA j hj).mp c)]
    · rw [if_neg c, if_neg (by decide), if_neg (fun q => c ((hA j hj).mpr q))]
theorem StR_step (hH : HsR I J h m nr n rm pi) (hF : FlR J m) (hC : CoR I J s t u m nr n mm nh sb sr M) (hT : StR I L t (J (m + 1)) (J (m + 4)) l nr n M) (hM : M < 2147483000) (h1 : h + 14 ≤ s) (h2 : s + 7 ≤ t) (h3 : t + 14 ≤ u) (hh : hou (I t 0) = Int32.ofNat hr) (h24 : hr < 24) (hw : w = rwa (J (m + 1)) (J (m + 4)) hr) : StR (kI I h s t u hr nr n mm w rm pi sr) (va_up L (t + 9) (pre n (tuo (pm8 I h s t hr w rm pi nr n) L h t u (pmO (pm8 I h s t hr w rm pi nr n) s t hr mm) sr) (L (t + 9)))) t (J (m + 1)) (mS7 J m pi rm sr hr nr n nh) (mL2 J l m pi rm sr hr nr n nh) nr n (M + 1) := by
  have hn8 := hH.1.2.2.2.2.2
  have hnr8 := hH.1.2.2.1
  have o7 : ∀ j, (24 ≤ j ∧ j < 71) ∨ (130 ≤ j ∧ j < 168) → mS7 J m pi rm sr hr nr n nh j = J (m + 4) j := fun j hj => mS7_o hnr8 hn8 hj
  have hx := fun k hk => eq_nx (k := k) hH hC (by omega) h2 h3 hh h24 hw hk
  have ht := fun j hj => eq_te (j := j) hH hC h24 hw hj
  have hrm := fun k hk => (hH.2.2.2.2.2.1 k hk).2.2
  have hpi := fun k hk => (hH.2.2.2.2.2.2.1 k hk).2.2
  have hht := (eq_ht hH hC h24 hw).2
  have hfl := fun k hk => (eq_pfl (k := k) hH hC hk).1
  have hal := eq_all hH hC h24 hw
  have hlo := fun j hj => eq_lo (j := j) hH hC h24 hj
  have hwl := fun j hj => eq_wal (j := j) hH hC hj
  have hgh := fun j hj => eq_gh (j := j) hH hC h24 hw hj
  have hsn := fun j hj => hH.2.2.2.1 j hr hj h24
  have hpd := fun k hk => (hH.2.2.2.2.2.2.1 k hk)
  have o5 : ∀ j, (8 ≤ j ∧ j < 72) ∨ (130 ≤ j ∧ j < 168) → mS5 J m pi rm hr nr n j = J (m + 4) j := fun j hj => mS5_o hnr8 hn8 hj
  have X7 : pm8 I h s t hr w rm pi nr n (t + 7) = I (t + 7) := k8_o (by omega) (by omega)
  have X8 : pm8 I h s t hr w rm pi nr n (t + 8) = I (t + 8) := k8_o (by omega) (by omega)
  obtain ⟨⟨m1, m2⟩, c2, ⟨c3, c4⟩, ⟨c5, c6⟩, ⟨c7, c8, c9, c10⟩, c11, c12, c13, c14⟩ := hT
  have w0 : ∀ k, k < 8 → rwr (J m 15) (J m 16) (10 * 0 + Int32.ofNat k) = 0 := fun k hk => by rw [hF.1, hF.2.1]; exact rwr_n 0 (by decide) hk
  have w1 : ∀ k, k < 8 → rwr (J m 15) (J m 16) (10 * 1 + Int32.ofNat k) = 0 := fun k hk => by rw [hF.1, hF.2.1]; exact rwr_n 1 (by decide) hk
  have nx : ∀ k, k < n → nxo (pm8 I h s t hr w rm pi nr n) h t u (pmO (pm8 I h s t hr w rm pi nr n) s t hr mm) sr k = mNw J m (mS5 J m pi rm hr nr n) sr nh k := by
    intro k hk
    rw [(hx k hk).1, w1 k (by omega), w0 k (by omega), if_pos rfl, if_pos rfl]
    by_cases q : J (m + 1) (144 + k) = 0
    · rw [if_pos q]
      unfold mNw rnw
      rw [if_pos q, o5 _ (by omega), (c12 k hk).2.2.1 q]
    · rw [if_neg q]
  have kt := kI_t (I := I) (h := h) (s := s) (t := t) (u := u) (nr := nr) (n := n) (mm := mm) (hr := hr) (w := w) (rm := rm) (pi := pi) (sr := sr) (by omega)
  obtain ⟨b3, b4, b5⟩ := rbo_v (f := I t) (x := if sm n (kHt I h s t n w rm) ≤ 0 then 0 else 1)
  unfold StR
  rw [kt]
  refine ⟨⟨by rw [up_eq, m1, i_one], by rw [mS7_mi hnr8 hn8, m2, i_one]⟩, ?_, ⟨?_, ?_⟩, ⟨?_, ?_⟩, ⟨?_, ?_, ?_, ?_⟩, ?_, ?_, ?_, ?_⟩
  · intro r hr'
    rw [mS7_te hnr8 hn8 hr', kI_8 (by omega) (by omega) (by omega), k8_te hr' hnr8 (by omega) hrm]
    exact ⟨(ht r hr').1, (ht r hr').2⟩
  · rw [up_ne (by decide), rbo_o (by decide)]; exact c3
  · intro r hr'
    rw [up_ne (by decide), rbo_o (by decide), o7 _ (by omega)]
    exact c4 r hr'
  · rw [up_ne (by decide), rbo_o (by decide)]; exact c5
  · intro p hp
    rw [up_ne (by decide), rbo_o (by decide), o7 _ (by omega)]
    exact c6 p hp
  · have e72 : mS7 J m pi rm sr hr nr n nh 72 = J (m + 4) 72 + (if mAl J m pi rm hr n ≤ 0 then 0 else if J (m + 4) 73 = 0 then 1 else 0) := by
      rw [mS7_5 hn8 (by omega)]
      unfold mS5 mS4 mSt
      rw [seg_out (by omega), up_ne (by decide), up_ne (by decide), up_eq, mS3_o hnr8 hn8 (by omega), mS3_o hnr8 hn8 (by omega)]
    rw [up_ne (by decide), b3, e72, ← hal, c7, ← c8]
    by_cases q : sm n (kHt I h s t n w rm) ≤ 0
    · rw [if_pos q, if_pos q, Int32.add_zero]
      rcases c9 with z | z
      · rw [z, if_pos (by decide)]
      · rw [z, if_pos (by decide)]
    · rw [if_neg q, if_neg q]
      rcases c9 with z | z
      · rw [z, if_neg (by decide), if_pos rfl]
      · rw [z, if_pos (by decide), if_neg (by decide), Int32.add_zero]
  · have e73 : mS7 J m pi rm sr hr nr n nh 73 = (if mAl J m pi rm hr n ≤ 0 then 0 else 1) := by
      rw [mS7_5 hn8 (by omega)]
      unfold mS5 mS4 mSt
      rw [seg_out (by omega), up_ne (by decide), up_eq]
    rw [up_ne (by decide), b4, e73, hal]
  · rw [up_ne (by decide), b4]
    split
    · exact Or.inl rfl
    · exact Or.inr rfl
  · have e172 : mS7 J m pi rm sr hr nr n nh 172 = J (m + 4) 172 + (if mAl J m pi rm hr n ≤ 0 then 0 else 1) := by
      rw [mS7_5 hn8 (by omega)]
      unfold mS5 mS4 mSt
      rw [seg_out (by omega), up_eq, mS3_o hnr8 hn8 (by omega)]
    rw [up_ne (by decide), b5, e172, hal, c10]
  · intro r hr'
    obtain ⟨v1, v2, v3, v4, v5⟩ := mS2_v (J := J) (m := m) (pi := pi) (rm := rm) (hr := hr) (n := n) hnr8 hr'
    rw [mS7_2 hnr8 hn8 (by omega), mS7_2 hnr8 hn8 (by omega), mS7_2 hnr8 hn8 (by omega), mS7_2 hnr8 hn8 (by omega), mS7_2 hnr8 hn8 (by omega), v1, v2, v3, v4, v5, kI_8 (by omega) (by omega) (by omega), kI_8 (by omega) (by omega) (by omega), kI_8 (by omega) (by omega) (by omega), kI_8 (by omega) (by omega) (by omega), kI_8 (by omega) (by omega) (by omega), k8_lw hr' hnr8 (by omega), k8_lo hr' (by omega), k8_li hr' (by omega), k8_gh hr' (by omega) hrm, k8_su hr' (by omega), (hlo r hr').2.2]
    exact ⟨hwl r hr', (hlo r hr').1, (hlo r hr').2.1, hgh r hr', hsn r hr'⟩
  · intro k hk
    obtain ⟨d1, d2, d3, d4, d5, d6⟩ := c12 k hk
    rw [mS7_op hn8 hk, mS7_di hn8 hk, mS7_1 hnr8 hn8 (by omega), mS7_1 hnr8 hn8 (by omega), mS1_fl hk hn8, mS1_ht hk, kI_op hk, kI_lm hk, kI_8 (by omega) (by omega) (by omega), kI_8 (by omega) (by omega) (by omega), k8_fl hk (by omega), k8_ht hk (by omega), hfl k hk, (hht k hk).1]
    refine ⟨nx k hk, by rw [← nx k hk]; exact (hx k hk).2, ?_, ?_, rfl, rfl⟩
    · intro q
      unfold mNw rnw
      rw [if_pos q, o5 _ (by omega)]
      exact d3 q
    · unfold lmo mvo mDr
      rw [nx k hk, X7, X8, eq_mv, o5 _ (by omega), o5 _ (by omega), d1, d4]
  · intro k hk
    obtain ⟨d1, d2, d3, -⟩ := c13 k hk
    obtain ⟨g1, g2, g3, g4, -⟩ := c12 k hk
    obtain ⟨y1, y2⟩ := met_e d1 d2 (hht k hk).2
    have l8 : mL2 J l m pi rm sr hr nr n nh (8 + k) = rme (l (8 + k)) (mS1 J m pi rm hr n (122 + k)) := by
      unfold mL2 mL1
      rw [pre_ge (by omega), seg_in hk]
    have l0 : mL2 J l m pi rm sr hr nr n nh k = rtu (mNw J m (mS5 J m pi rm hr nr n) sr nh k) (J (m + 4) (8 + k)) (J (m + 4) (16 + k)) (l k) := by
      unfold mL2 mTu mL1
      rw [pre_lt hk, seg_out (by omega), o5 _ (by omega), o5 _ (by omega)]
    rw [kI_8 (by omega) (by omega) (by omega), k8_me hk (by omega), l8, mS1_ht hk, ← (hht k hk).1, l0, up_eq, pre_lt hk]
    refine ⟨y1, y2, ?_, ?_⟩
    · unfold tuo tno mvo
      rw [nx k hk, X7, X8, d3, g1, g4]
      exact eq_tu
    · unfold tuo
      rw [Int64.and_assoc, Int64.and_self]
  · intro p hp
    have e : mS7 J m pi rm sr hr nr n nh (168 + p) = rdd (J (m + 1)) (mS4 J m pi rm hr nr n) hr n p := by
      rw [mS7_5 hn8 (by omega)]
      unfold mS5
      rw [seg_in hp]
    have wv : rwa (J (m + 1)) (mS4 J m pi rm hr nr n) hr = rwa (J (m + 1)) (J (m + 4)) hr := rwa_c (mS4_o hnr8 hn8 (by omega))
    rw [kI_8 (by omega) (by omega) (by omega), k8_de hp (by omega) hpi, e]
    unfold rdd
    rw [ddn_v (H := J (m + 1)) (S := mS4 J m pi rm hr nr n) (hr := hr) (by rw [wv]; exact hw) hp n (fun k hk => ?_) (fun k hk => ⟨(hpd k hk).2.1, (hpd k hk).2.2⟩), mS4_o hnr8 hn8 (by omega), c14 p hp]
    rw [hfl k hk]
    unfold mS4 mSt mS3
    rw [up_ne (by omega), up_ne (by omega), up_ne (by omega), pre_ge (by omega), mS2_o hnr8 (by omega), mS1_fl hk hn8]
end
