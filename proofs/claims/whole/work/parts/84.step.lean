/-! a minute keeps what drives a minute -/
def kI (I : Nat → Nat → Int32) (h s t u hr nr n mm : Nat) (w : Int32) (rm pi sr : Nat → Nat) : Nat → Nat → Int32 := up2 (pK (pm8 I h s t hr w rm pi nr n) h t u (pmO (pm8 I h s t hr w rm pi nr n) s t hr mm) sr n) t 0 (pK (pm8 I h s t hr w rm pi nr n) h t u (pmO (pm8 I h s t hr w rm pi nr n) s t hr mm) sr n t 0 + 1)
section
variable {I J J' : Nat → Nat → Int32} {h s t u m nr n mm nh hr : Nat} {w : Int32} {rm pi sb sr : Nat → Nat} {M : Nat}
theorem kI_fr {a : Nat} (h1 : h + 14 ≤ t) (ha : a < t ∨ t + 14 ≤ a) : kI I h s t u hr nr n mm w rm pi sr a = I a := by
  unfold kI pK
  simp (disch := omega) only [up2_e, up_ne]
  exact k8_o h1 (by omega)
theorem kI_t (h1 : h + 14 ≤ t) : kI I h s t u hr nr n mm w rm pi sr t = va_up (rbo (I t) (if sm n (kHt I h s t n w rm) ≤ 0 then 0 else 1)) 0 (I t 0 + 1) := by
  unfold kI pK
  simp (disch := omega) only [up2_e, up_ne, up_eq]
  rw [k8_ob h1, rbo_o (by decide)]
theorem kI_8 {a : Nat} (ha : a ≠ t) (hb : a ≠ t + 7) (hc : a ≠ t + 8) : kI I h s t u hr nr n mm w rm pi sr a = pm8 I h s t hr w rm pi nr n a := by
  unfold kI pK
  rw [up2_e, up_ne ha, up_ne hb, up_ne hc]
theorem kI_op {k : Nat} (hk : k < n) : kI I h s t u hr nr n mm w rm pi sr (t + 7) k = nxo (pm8 I h s t hr w rm pi nr n) h t u (pmO (pm8 I h s t hr w rm pi nr n) s t hr mm) sr k := by
  unfold kI pK
  simp (disch := omega) only [up2_e, up_ne, up_eq]
  exact pre_lt hk
theorem kI_lm {k : Nat} (hk : k < n) : kI I h s t u hr nr n mm w rm pi sr (t + 8) k = lmo (pm8 I h s t hr w rm pi nr n) h t u (pmO (pm8 I h s t hr w rm pi nr n) s t hr mm) sr k := by
  unfold kI pK
  simp (disch := omega) only [up2_e, up_ne, up_eq]
  exact pre_lt hk
theorem mS7_o {j : Nat} (hnr8 : nr ≤ 8) (hn8 : n ≤ 8) (hj : (24 ≤ j ∧ j < 71) ∨ (130 ≤ j ∧ j < 168)) : mS7 J m pi rm sr hr nr n nh j = J (m + 4) j := by
  unfold mS7 mS6
  rw [up_ne (by omega), seg_out (by omega), seg_out (by omega), mS5_o hnr8 hn8 (by omega)]
theorem mS7_5 {j : Nat} (hn8 : n ≤ 8) (hj : j < 8 ∨ (24 ≤ j ∧ j ≠ 71)) : mS7 J m pi rm sr hr nr n nh j = mS5 J m pi rm hr nr n j := by
  unfold mS7 mS6
  rw [up_ne (by omega), seg_out (by omega), seg_out (by omega)]
theorem mS7_te {j : Nat} (hnr8 : nr ≤ 8) (hn8 : n ≤ 8) (hj : j < nr) : mS7 J m pi rm sr hr nr n nh j = mTe J m pi rm hr nr n j := by
  rw [mS7_5 hn8 (by omega), mS5_te hj hnr8]
theorem mS7_op {k : Nat} (hn8 : n ≤ 8) (hk : k < n) : mS7 J m pi rm sr hr nr n nh (8 + k) = mNw J m (mS5 J m pi rm hr nr n) sr nh k := by
  unfold mS7 mS6
  rw [up_ne (by omega), seg_out (by omega), seg_in hk]
theorem mS7_di {k : Nat} (hn8 : n ≤ 8) (hk : k < n) : mS7 J m pi rm sr hr nr n nh (16 + k) = mDr J m (mS5 J m pi rm hr nr n) sr nh k := by
  unfold mS7 mS6
  rw [up_ne (by omega), seg_in hk]
theorem mS7_mi (hnr8 : nr ≤ 8) (hn8 : n ≤ 8) : mS7 J m pi rm sr hr nr n nh 71 = J (m + 4) 71 + 1 := by
  unfold mS7 mS6
  rw [up_eq, seg_out (by omega), seg_out (by omega), mS5_o hnr8 hn8 (by omega)]
theorem HsR_c {I I' J J' : Nat → Nat → Int32} (hI : ∀ a, h ≤ a → a < h + 14 → I' a = I a) (hJ : J' (m + 1) = J (m + 1)) (q : HsR I J h m nr n rm pi) : HsR I' J' h m nr n rm pi := by
  unfold HsR snn at q ⊢
  rw [hI h (by omega) (by omega), hI (h + 1) (by omega) (by omega), hI (h + 3) (by omega) (by omega), hI (h + 4) (by omega) (by omega), hI (h + 5) (by omega) (by omega), hI (h + 6) (by omega) (by omega), hI (h + 7) (by omega) (by omega), hI (h + 8) (by omega) (by omega), hI (h + 9) (by omega) (by omega), hI (h + 10) (by omega) (by omega), hI (h + 11) (by omega) (by omega), hI (h + 12) (by omega) (by omega), hI (h + 13) (by omega) (by omega), hJ]
  exact q
theorem CoR_step (hH : HsR I J h m nr n rm pi) (hC : CoR I J s t u m nr n mm nh sb sr M) (hM : M < 2147483000) (h1 : h + 14 ≤ s) (h2 : s + 7 ≤ t) (h3 : t + 14 ≤ u) (hh : hou (I t 0) = Int32.ofNat hr) (h24 : hr < 24) (hw : w = rwa (J (m + 1)) (J (m + 4)) hr) (j1 : J' (m + 1) = J (m + 1)) (j4 : J' (m + 4) = mS7 J m pi rm sr hr nr n nh) (jm : ∀ k, 15 ≤ k → k ≤ 21 → J' m k = J m k) : CoR (kI I h s t u hr nr n mm w rm pi sr) J' s t u m nr n mm nh sb sr (M + 1) := by
  have hn8 := hH.1.2.2.2.2.2
  have hnr8 := hH.1.2.2.1
  have o7 : ∀ j, (24 ≤ j ∧ j < 71) ∨ (130 ≤ j ∧ j < 168) → mS7 J m pi rm sr hr nr n nh j = J (m + 4) j := fun j hj => mS7_o hnr8 hn8 hj
  have hx := fun k hk => eq_nx (k := k) hH hC (by omega) h2 h3 hh h24 hw hk
  have ht := fun j hj => eq_te (j := j) hH hC h24 hw hj
  have hrm := fun k hk => (hH.2.2.2.2.2.1 k hk).2.2
  have fr : ∀ a, a < t ∨ t + 14 ≤ a → kI I h s t u hr nr n mm w rm pi sr a = I a := fun a ha => kI_fr (by omega) ha
  obtain ⟨⟨m1, m2⟩, c2, c3, c4, c5, c6, c7, c8, c9, ⟨c10, c11, c12, c13, c14⟩, c15, c16, c17⟩ := hC
  have t0 : kI I h s t u hr nr n mm w rm pi sr t 0 = I t 0 + 1 := by rw [kI_t (by omega), up_eq]
  have t1 : kI I h s t u hr nr n mm w rm pi sr t 1 = I t 1 := by rw [kI_t (by omega), up_ne (by decide), rbo_o (by decide)]
  have t2 : kI I h s t u hr nr n mm w rm pi sr t 2 = I t 2 := by rw [kI_t (by omega), up_ne (by decide), rbo_o (by decide)]
  unfold CoR
  rw [j4, j1, jm 15 (by decide) (by decide), jm 16 (by decide) (by decide), jm 17 (by decide) (by decide), jm 18 (by decide) (by decide), jm 19 (by decide) (by decide), jm 20 (by decide) (by decide), jm 21 (by decide) (by decide), t0, t1, t2, fr (s + 1) (by omega), fr s (by omega), fr (s + 3) (by omega), fr (s + 2) (by omega), fr (u + 1) (by omega), fr u (by omega), fr (u + 2) (by omega)]
  refine ⟨⟨by rw [m1, i_one], by rw [mS7_mi hnr8 hn8, m2, i_one]⟩, ?_, ?_, ?_, ?_, ?_, ?_, ?_, ?_, ?_, c15, c16, c17⟩
  · intro r hr'
    rw [mS7_te hnr8 hn8 hr', kI_8 (by omega) (by omega) (by omega), k8_te hr' hnr8 (by omega) hrm]
    exact ⟨(ht r hr').1, (ht r hr').2⟩
  · intro k hk
    rw [kI_op hk]
    refine ⟨?_, (hx k hk).2⟩
    rw [(hx k hk).1]
    unfold rov
    rw [mS7_op hn8 hk]
  · intro k hk
    rw [o7 _ (by omega)]
    exact c4 k hk
  · rw [o7 _ (by omega)]
    exact c5
  · intro x hx'
    rw [o7 _ (by omega)]
    exact c6 x hx'
  · intro p hp
    rw [o7 _ (by omega)]
    exact c7 p hp
  · intro r hr'
    rw [raj_c (o7 _ (by omega))]
    exact c8 r hr'
  · intro x hx'
    rw [c9 x hx']
    unfold rou
    rw [o7 _ (by omega)]
  · refine ⟨c10, c11, by rw [o7 _ (by omega)]; exact c12, c13, fun x => ?_⟩
    have e1 : ngt (kI I h s t u hr nr n mm w rm pi sr) s (hou x) = ngt I s (hou x) := by
      unfold ngt
      rw [fr s (by omega)]
    rw [hof_c (I := I) (fr _ (by omega)) (fr _ (by omega)) (fr _ (by omega)), e1, c14 x]
    refine (rof_c2 c13 fun j hj => ?_).symm
    by_cases q : j = 71
    · rw [q, up_eq, up_eq]
    · rw [up_ne q, up_ne q, o7 _ (by omega)]
end
