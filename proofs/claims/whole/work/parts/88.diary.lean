/-! a minute keeps the diary -/
theorem pgv_c {T A Q W O D P T' A' Q' W' O' D' P' : Nat → Int32} {j : Nat} (h1 : T (j / 7) = T' (j / 7)) (h2 : A (j / 7) = A' (j / 7)) (h3 : Q (j / 7) = Q' (j / 7)) (h4 : W (j / 7) = W' (j / 7)) (h5 : O (j / 7) = O' (j / 7)) (h6 : D (j / 7) = D' (j / 7)) (hp : P j = P' j) : pgv T A Q W O D P j = pgv T' A' Q' W' O' D' P' j := by
  unfold pgv
  rw [h1, h2, h3, h4, h5, h6, hp]
theorem pgv_z {T A Q W O D P P' : Nat → Int32} {j : Nat} (ht : irng (T (j / 7)) (-9999) 9999) (hp : P j = iclr 9999 j) (hp' : P' j = iclr 10000 j) : pgv T A Q W O D P j = pgv T A Q W O D P' j := by
  obtain ⟨t0, t1⟩ := ht
  unfold pgv
  rw [hp, hp']
  unfold iclr
  have q1 : (9999 : Int32).toInt = 9999 := by decide
  have q2 : (10000 : Int32).toInt = 10000 := by decide
  have q3 : (-9999 : Int32).toInt = -9999 := by decide
  have q4 : (-10000 : Int32).toInt = -10000 := by decide
  by_cases c0 : j % 7 = 0
  · rw [if_pos c0, if_pos c0, if_pos c0, if_pos c0]
    have z : ¬ (10000 : Int32) ≤ T (j / 7) := by
      rw [Int32.le_iff_toInt_le, q2]
      omega
    rw [if_neg z]
    by_cases c : (9999 : Int32) ≤ T (j / 7)
    · rw [if_pos c]
      rw [Int32.le_iff_toInt_le, q1] at c
      exact i_inj (by rw [q1]; omega)
    · rw [if_neg c]
  by_cases c1 : j % 7 = 1
  · simp only [if_neg c0, if_pos c1]
    have z : ¬ T (j / 7) ≤ (-10000 : Int32) := by
      rw [Int32.le_iff_toInt_le, q4]
      omega
    rw [if_neg z]
    by_cases c : T (j / 7) ≤ (-9999 : Int32)
    · rw [if_pos c]
      rw [Int32.le_iff_toInt_le, q3] at c
      exact i_inj (by rw [q3]; omega)
    · rw [if_neg c]
  · simp only [if_neg c0, if_neg c1]
section
variable {I J : Nat → Nat → Int32} {L : Nat → Nat → Int64} {l : Nat → Int64} {H sv dv pv : Nat → Int32} {e t m nr n hN w M : Nat}
/-- the page after the minute M' = M + 1, of which StR speaks -/
theorem pag_e (hT : StR I L t H sv l nr n (M + 1)) (hnr8 : nr ≤ 8) (hg : ¬ M % 60 = 0 → ∀ j, j < 7 * nr → I (e + 2) j = pv j) (hz : M % 60 = 0 → ∀ j, j < 7 * nr → pv j = iclr 10000 j) : ∀ j, j < 7 * nr → cP1 I e t nr (M + 1) j = pre (7 * nr) (mPg sv pv) pv j := by
  intro j hj
  obtain ⟨-, c2, ⟨-, c4⟩, -, -, c11, -⟩ := hT
  have r : j / 7 < nr := by omega
  obtain ⟨d1, d2, d3, d4, d5⟩ := c11 (j / 7) r
  unfold cP1
  rw [pre_lt hj, pre_lt hj]
  unfold cPg mPg cP0
  by_cases q : M % 60 = 0
  · have q1 : (M + 1) % 60 = 1 := by omega
    rw [if_pos q1]
    refine Eq.trans (pgv_c (T' := sv) (A' := fun r => sv (32 + r)) (Q' := fun r => sv (98 + r)) (W' := fun r => sv (74 + r)) (O' := fun r => sv (82 + r)) (D' := fun r => sv (90 + r)) (P' := pre 56 (iclr 9999) (I (e + 2))) (c2 _ r).1 (c4 _ (by omega)).symm d4 d1 d2 d3 rfl) ?_
    exact pgv_z (c2 _ r).2 (pre_lt (by omega)) (hz q j hj)
  · have q1 : ¬ (M + 1) % 60 = 1 := by omega
    rw [if_neg q1]
    exact pgv_c (c2 _ r).1 (c4 _ (by omega)).symm d4 d1 d2 d3 (hg q j hj)
theorem DiR_no (hT : StR I L t H sv l nr n (M + 1)) (hnr8 : nr ≤ 8) (hD : DiR I e dv pv hN w nr M) (hq : ¬ (M + 1) % 60 = 0) : DiR (va_up I (e + 2) (cP1 I e t nr (M + 1))) e dv (pre (7 * nr) (mPg sv pv) pv) hN w nr (M + 1) := by
  obtain ⟨a, b, hg, hz⟩ := hD
  unfold DiR
  rw [up_ne (show e ≠ e + 2 by omega), up_ne (show e + 1 ≠ e + 2 by omega), up_eq]
  exact ⟨a, b, fun _ => pag_e hT hnr8 hg hz, fun q => absurd q hq⟩
theorem DiR_yes (hT : StR I L t H sv l nr n (M + 1)) (hnr8 : nr ≤ 8) (hD : DiR I e dv pv hN w nr M) (hq : (M + 1) % 60 = 0) : DiR (cEh (va_up I (e + 2) (cP1 I e t nr (M + 1))) e w) e (mDs dv (pre (7 * nr) (mPg sv pv) pv) hN) (pre 56 (iclr 10000) (pre (7 * nr) (mPg sv pv) pv)) (mHs hN) ((w + 1) % 48) nr (M + 1) := by
  obtain ⟨⟨a1, a2, a3, a4⟩, b, hg, hz⟩ := hD
  have pg := pag_e hT hnr8 hg hz
  have hw' : (w + 1) % 48 < 48 := Nat.mod_lt _ (by decide)
  have eh0 : cEh (va_up I (e + 2) (cP1 I e t nr (M + 1))) e w e 0 = Int32.ofNat (mHs hN) := by
    unfold cEh
    rw [up_ne (by omega), up_eq, up_eq, up_ne (by omega), a1, i_one]
    unfold mHs
    apply i_inj
    rw [jmin_t, i_of (by omega), show (48 : Int32).toInt = 48 by decide]
    by_cases c : hN = 48
    · rw [if_pos c, i_of (by omega)]; omega
    · rw [if_neg c, i_of (by omega)]; omega
  have eh1 : cEh (va_up I (e + 2) (cP1 I e t nr (M + 1))) e w e 1 = Int32.ofNat ((w + 1) % 48) := by
    unfold cEh
    rw [up_ne (by omega), up_eq, up_ne (by decide), up_eq]
  have eh2 : cEh (va_up I (e + 2) (cP1 I e t nr (M + 1))) e w (e + 1) = isg (56 * ((w + 1) % 48)) 56 (cP1 I e t nr (M + 1)) (I (e + 1)) := by
    unfold cEh
    rw [up_eq, up_eq, up_ne (by omega)]
  have hm : mHs hN ≤ 48 := by
    unfold mHs
    split <;> omega
  refine ⟨⟨eh0, hm, eh1, hw'⟩, ?_, fun q => absurd hq q, fun _ j hj => ?_⟩
  · intro c j hc hj
    rw [eh2]
    by_cases c0 : c = 0
    · have i1 : ((w + 1) % 48 + 48 - c) % 48 = (w + 1) % 48 := by omega
      rw [i1, seg_in (show j < 56 by omega), pg j hj]
      unfold mDs mHs
      by_cases q : hN = 48
      · rw [if_pos q, if_pos q, show 48 - 1 - c = 47 by omega, seg_in (by omega)]
      · rw [if_neg q, if_neg q, show hN + 1 - 1 - c = hN by omega, seg_in (by omega)]
    · have i1 : ((w + 1) % 48 + 48 - c) % 48 = (w + 48 - (c - 1)) % 48 := by omega
      have i2 : ¬ (w + 48 - (c - 1)) % 48 = (w + 1) % 48 := by omega
      rw [i1, seg_out (by omega)]
      have hc' : c - 1 < hN := by
        unfold mHs at hc
        by_cases q : hN = 48
        · rw [if_pos q] at hc; omega
        · rw [if_neg q] at hc; omega
      rw [b (c - 1) j hc' hj]
      unfold mDs mHs
      by_cases q : hN = 48
      · rw [if_pos q, if_pos q, seg_out (by omega), pre_lt (by omega)]
        congr 1
        omega
      · rw [if_neg q, if_neg q, seg_out (by omega)]
        congr 1
        omega
  · exact pre_lt (by omega)
end
