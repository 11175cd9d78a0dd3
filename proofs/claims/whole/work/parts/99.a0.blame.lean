/-! blame, diary, cold, burst -/
def cbl (a b c : Int32) : Int32 := if 0 < jmax a (jmax b c) then (if a = jmax a (jmax b c) then 0 else if b = jmax a (jmax b c) then 1 else 2) else -1
def rbl (a b c : Int32) : Int32 := if 0 < a then (if a < b then (if b < c then 2 else 1) else if a < c then (if b < c then 2 else 1) else 0) else if 0 < b then (if a < b then (if b < c then 2 else 1) else if a < c then (if b < c then 2 else 1) else 0) else if 0 < c then (if a < b then (if b < c then 2 else 1) else if a < c then (if b < c then 2 else 1) else 0) else -1
theorem bl_e (a b c : Int32) : cbl a b c = rbl a b c := by
  have m : (jmax a (jmax b c)).toInt = max a.toInt (max b.toInt c.toInt) := by rw [jmax_t, jmax_t]
  have p0 : (0 < jmax a (jmax b c)) ↔ 0 < max a.toInt (max b.toInt c.toInt) := by rw [Int32.lt_iff_toInt_lt, m, k0]
  have pa : (a = jmax a (jmax b c)) ↔ a.toInt = max a.toInt (max b.toInt c.toInt) := by
    constructor
    · intro q; rw [← m, ← q]
    · intro q; exact i_inj (by rw [m]; exact q)
  have pb : (b = jmax a (jmax b c)) ↔ b.toInt = max a.toInt (max b.toInt c.toInt) := by
    constructor
    · intro q; rw [← m, ← q]
    · intro q; exact i_inj (by rw [m]; exact q)
  have qa : (0 < a) ↔ 0 < a.toInt := by rw [Int32.lt_iff_toInt_lt, k0]
  have qb : (0 < b) ↔ 0 < b.toInt := by rw [Int32.lt_iff_toInt_lt, k0]
  have qc : (0 < c) ↔ 0 < c.toInt := by rw [Int32.lt_iff_toInt_lt, k0]
  have ab : (a < b) ↔ a.toInt < b.toInt := Int32.lt_iff_toInt_lt
  have ac : (a < c) ↔ a.toInt < c.toInt := Int32.lt_iff_toInt_lt
  have bc : (b < c) ↔ b.toInt < c.toInt := Int32.lt_iff_toInt_lt
  unfold cbl rbl
  simp only [p0, pa, pb, qa, qb, qc, ab, ac, bc]
  generalize a.toInt = A
  generalize b.toInt = B
  generalize c.toInt = C
  repeat' split
  all_goals first | rfl | (exfalso; omega)
section
variable {z h hs bl bs cl cs nr n nh M hN w lc mc kc ta : Nat} {rm pi mk : Nat → Nat} {G : mG} {I : Nat → Nat → Int32} {L : Nat → Nat → Int64}
theorem ca_blame (d : Nat) (q : Rel z h hs bl bs cl cs nr n nh M hN w lc mc kc ta rm pi mk G I L) (g1 : G.1 ≤ 252 + z + 25 * kc) (g2 : G.2.1 ≤ 60000 + 6 * z + 4000 * kc) (hz : z + 1 ≤ 512) (x : Int32) : Ste (d + 6) 318 270 [.int x] (z + 1) G I L := by
  obtain ⟨lB, lX, lP, -, ⟨lH1, lH2⟩, ⟨lS, -⟩, ⟨lT, -⟩, ⟨lU, -⟩, lD, -, -, lM, ⟨o1, o2⟩, -, hh, -⟩ := id q.1
  have ho := q.2.1
  obtain ⟨s1, s2, s3, s4, s5, s6⟩ := ho_sz ho
  have lH : LayH G h := by
    rcases hh with ⟨a, -⟩ | ⟨a, -⟩
    · rw [a]; exact lH1
    · rw [a]; exact lH2
  have hb : 103 ≤ h ∧ h + 14 ≤ 132 := by omega
  obtain ⟨-, -, ⟨hF, hHN⟩, hS, ⟨hT, hMz⟩, hU, hD, hTp, hEg, hLg, -, -, -, -⟩ := id q
  have z1 : ¬ (1 : Int32) = 0 := by decide
  have I00 : (va_up I 219 (va_up (I 219) 0 0)) 219 0 = 0 := by rw [up_eq, up_eq]
  have I01 : (va_up I 219 (va_up (I 219) 0 0)) 220 = I 220 := up_ne (by decide)
  by_cases c0 : x < 0 ∨ ¬ x < Int32.ofNat nr
  · have hc : mcal mT (d + 5) 110 [.ref 100, .int x] (G, I, L) = some (.inr "java/lang/IndexOutOfBoundsException", (G, I, L)) := by
      simp only [q_X11_blame_, e_X11_blame_0, ↓vB lB, ↓vP lP, ↓vT lT, ↓vH lH, ↓vS lS, nr_no (d + 3) (L := L) lB lP lH s1 c0, mcV_v, mcV_e, mthr_e]
    refine Ste_e (k := 1) q g1 g2 hz (by decide) (w_blame_I (d + 5) hc lB.1) fun lM => ?_
    simp only [q_X12_blame_, e_X12_blame_0, ↓vM lM, up2_e, r_within, mcI_v, ↓mcI_of (ri_no (d + 3) (L := L) (I := (va_up I 219 (va_up (I 219) 0 0))) 1 lM I00 (by decide) (by rw [I01]; exact s2) s3 c0), ↓mcI_of (r_may0 (d + 4) 1 lM (I := (va_up I 219 (va_up (I 219) 0 0))) (L := L) I00 (by decide)), up_eq, up_up, if_true, if_neg z1, mb0]
  obtain ⟨k0, hk0, rfl⟩ := i_rm (by omega) c0
  obtain ⟨l1, l2, l3, -⟩ := hT.2.2.2.2.2.1 k0 hk0
  have r5 : I 141 k0 = I 223 (74 + k0) := l1
  have r6 : I 142 k0 = I 223 (82 + k0) := l2
  have r7 : I 143 k0 = I 223 (90 + k0) := l3
  have hc : mcal mT (d + 5) 110 [.ref 100, .int (Int32.ofNat k0)] (G, I, L) = some (.inl (some (.int (cbl (I 141 k0) (I 142 k0) (I 143 k0)))), (G, I, L)) := by
    simp (disch := omega) only [q_X11_blame_, e_X11_blame_0, e_X11_blame_44, e_X11_blame_56, e_X11_blame_70, e_X11_blame_71, ↓vB lB, ↓vP lP, ↓vT lT, ↓vH lH, ↓vS lS, nr_ok (d + 3) (L := L) lB lP lH s1 c0, mcV_v]
    unfold cbl
    repeat' split
    all_goals rfl
  refine Ste_q q g1 g2 hz (w_blame (d + 5) hc lB.1 o1 o2) fun L' => ?_
  simp (disch := omega) only [q_X12_blame_, e_X12_blame_0, e_X12_blame_16, e_X12_blame_62, e_X12_blame_77, e_X12_blame_87, e_X12_blame_88, ↓vM lM, up2_e, r_within, mcI_v, ↓mcI_of (ri_ok (d + 3) (L := L') (I := (va_up I 219 (va_up (I 219) 0 0))) 1 lM I00 (by decide) (by rw [I01]; exact s2) s3 c0), ↓mcI_of (r_may1 (d + 4) 1 lM (I := (va_up I 219 (va_up (I 219) 0 0))) (L := L') I00), up_ne, if_neg z1, ixA, bl_e, r5, r6, r7]
  unfold rbl
  repeat' split
  all_goals rfl
theorem r_diaryOf (d : Nat) {J : Nat → Nat → Int32} {K : Nat → Nat → Int64} {b r c : Nat} (lM : LayM G 219) (hh : J 219 23 = Int32.ofNat hN) (h48 : hN ≤ 48) (hb : b < hN) (hr : r < 8) (hc : c < 7) : mcal mT (d + 1) 218 [.ref 219, .int (Int32.ofNat r), .int (Int32.ofNat b), .int (Int32.ofNat c)] (G, J, K) = some (.inl (some (.int (J 228 (56 * (hN - 1 - b) + 7 * r + c)))), (G, J, K)) := by
  have e1 : Int32.ofNat hN - 1 - Int32.ofNat b = Int32.ofNat (hN - 1 - b) := by
    have a1 : Int32.ofNat hN - 1 = Int32.ofNat (hN - 1) := i_sub (b := 1) (by omega) (by omega)
    rw [a1, i_sub (by omega) (by omega)]
  simp (disch := omega) only [q_X12_diaryOf_, e_X12_diaryOf_0, ↓vM lM, hh, e1, ixM, i_add]
theorem ca_diary (d : Nat) (q : Rel z h hs bl bs cl cs nr n nh M hN w lc mc kc ta rm pi mk G I L) (g1 : G.1 ≤ 252 + z + 25 * kc) (g2 : G.2.1 ≤ 60000 + 6 * z + 4000 * kc) (hz : z + 1 ≤ 512) (x : Int32) (y : Int32) (u : Int32) : Ste (d + 6) 319 219 [.int x, .int y, .int u] (z + 1) G I L := by
  obtain ⟨lB, lX, lP, -, ⟨lH1, lH2⟩, ⟨lS, -⟩, ⟨lT, -⟩, ⟨lU, -⟩, lD, -, -, lM, ⟨o1, o2⟩, -, hh, -⟩ := id q.1
  have ho := q.2.1
  obtain ⟨s1, s2, s3, s4, s5, s6⟩ := ho_sz ho
  have lH : LayH G h := by
    rcases hh with ⟨a, -⟩ | ⟨a, -⟩
    · rw [a]; exact lH1
    · rw [a]; exact lH2
  have hb : 103 ≤ h ∧ h + 14 ≤ 132 := by omega
  obtain ⟨-, -, ⟨hF, hHN⟩, hS, ⟨hT, hMz⟩, hU, hD, hTp, hEg, hLg, -, -, -, -⟩ := id q
  have z1 : ¬ (1 : Int32) = 0 := by decide
  have I00 : (va_up I 219 (va_up (I 219) 0 0)) 219 0 = 0 := by rw [up_eq, up_eq]
  have I01 : (va_up I 219 (va_up (I 219) 0 0)) 220 = I 220 := up_ne (by decide)
  obtain ⟨d0, d1, d2, d3⟩ := hD.1
  by_cases c0 : x < 0 ∨ ¬ x < Int32.ofNat nr
  · have hc : mcal mT (d + 5) 157 [.ref 100, .int x, .int y, .int u] (G, I, L) = some (.inr "java/lang/IndexOutOfBoundsException", (G, I, L)) := by
      simp only [q_X11_diary_, e_X11_diary_0, ↓vB lB, ↓vP lP, ↓vT lT, ↓vH lH, ↓vS lS, nr_no (d + 3) (L := L) lB lP lH s1 c0, mcV_v, mcV_e, mthr_e]
    refine Ste_e (k := 1) q g1 g2 hz (by decide) (w_diary_I (d + 5) hc lB.1) fun lM => ?_
    simp (disch := omega) only [q_X12_diary_, e_X12_diary_0, e_X12_diary_43, e_X12_diary_44, e_X12_diary_51, ↓vM lM, up2_e, r_within, mcI_v, ↓mcI_of (ri_no (d + 3) (L := L) (I := (va_up I 219 (va_up (I 219) 0 0))) 1 lM I00 (by decide) (by rw [I01]; exact s2) s3 c0), ↓mcI_of (r_may0 (d + 4) 1 lM (I := (va_up I 219 (va_up (I 219) 0 0))) (L := L) I00 (by decide)), up_eq, up_up, up_ne, if_true, if_neg z1, mb0]
  by_cases c1 : y < 0 ∨ (I 195 0 - 1) < y
  · have hc : mcal mT (d + 5) 157 [.ref 100, .int x, .int y, .int u] (G, I, L) = some (.inr "java/lang/IllegalArgumentException", (G, I, L)) := by
      simp only [q_X11_diary_, e_X11_diary_0, ↓vB lB, ↓vD lD, ↓vP lP, ↓vT lT, ↓vH lH, ↓vS lS, nr_ok (d + 3) (L := L) lB lP lH s1 c0, nw_no (d + 3) c1 (G, I, L), mcV_v, mcV_e, mthr_e]
    have c1r : y < 0 ∨ I 219 23 - 1 < y := by rw [hHN, ← d0]; exact c1
    refine Ste_e (k := 2) q g1 g2 hz (by decide) (w_diary_A (d + 5) hc lB.1) fun lM => ?_
    simp (disch := omega) only [q_X12_diary_, e_X12_diary_0, e_X12_diary_43, e_X12_diary_44, e_X12_diary_51, ↓vM lM, up2_e, r_within, mcI_v, ↓mcI_of (ri_ok (d + 3) (L := L) (I := (va_up I 219 (va_up (I 219) 0 0))) 1 lM I00 (by decide) (by rw [I01]; exact s2) s3 c0), wi_0 (x := y) (a := 0) (b := (I 219 23 - 1)) c1r, ↓mcI_of (r_may1 (d + 4) 1 lM (I := (va_up I 219 (va_up (I 219) 0 0))) (L := L) I00), ↓mcI_of (r_may0 (d + 4) 2 lM (I := (va_up I 219 (va_up (I 219) 0 0))) (L := L) I00 (by decide)), up_eq, up_up, up_ne, if_true, if_neg z1, mb0]
  by_cases c2 : u < 0 ∨ 6 < u
  · have hc : mcal mT (d + 5) 157 [.ref 100, .int x, .int y, .int u] (G, I, L) = some (.inr "java/lang/IllegalArgumentException", (G, I, L)) := by
      simp only [q_X11_diary_, e_X11_diary_0, ↓vB lB, ↓vD lD, ↓vP lP, ↓vT lT, ↓vH lH, ↓vS lS, nr_ok (d + 3) (L := L) lB lP lH s1 c0, nw_ok (d + 3) c1 (G, I, L), nw_no (d + 3) c2 (G, I, L), mcV_v, mcV_e, mthr_e]
    have c1r : ¬ (y < 0 ∨ I 219 23 - 1 < y) := by rw [hHN, ← d0]; exact c1
    refine Ste_e (k := 2) q g1 g2 hz (by decide) (w_diary_A (d + 5) hc lB.1) fun lM => ?_
    simp (disch := omega) only [q_X12_diary_, e_X12_diary_0, e_X12_diary_43, e_X12_diary_44, e_X12_diary_51, ↓vM lM, up2_e, r_within, mcI_v, ↓mcI_of (ri_ok (d + 3) (L := L) (I := (va_up I 219 (va_up (I 219) 0 0))) 1 lM I00 (by decide) (by rw [I01]; exact s2) s3 c0), wi_1 (x := y) (a := 0) (b := (I 219 23 - 1)) c1r, wi_0 (x := u) (a := 0) (b := 6) c2, ↓mcI_of (r_may1 (d + 4) 1 lM (I := (va_up I 219 (va_up (I 219) 0 0))) (L := L) I00), ↓mcI_of (r_may1 (d + 4) 2 lM (I := (va_up I 219 (va_up (I 219) 0 0))) (L := L) I00), ↓mcI_of (r_may0 (d + 4) 2 lM (I := (va_up I 219 (va_up (I 219) 0 0))) (L := L) I00 (by decide)), up_eq, up_up, up_ne, if_true, if_neg z1, mb0]
  obtain ⟨k0, hk0, rfl⟩ := i_rm (by omega) c0
  obtain ⟨k2, hk2, rfl⟩ := i_rng (n := 6) c2 (by decide)
  have c1' : ¬ (y < 0 ∨ ¬ y < Int32.ofNat hN) := by
    rintro (p | p)
    · exact c1 (Or.inl p)
    · have y0 : ¬ y < 0 := fun p => c1 (Or.inl p)
      exact c1 (Or.inr (by rw [d0]; exact (i_sub1 (by omega) y0).mpr p))
  obtain ⟨k1, hk1, rfl⟩ := i_rm (by omega) c1'
  have en : mcal mT (d + 4) 30 [.ref 195, .int (Int32.ofNat k0), .int (Int32.ofNat k1), .int (Int32.ofNat k2)] (G, I, L) = some (.inl (some (.int (cEn I 195 w k1 k0 k2))), (G, I, L)) := c_entry (d + 3) lD d2 d3 (by omega) (by omega) (by omega)
  have ee : cEn I 195 w k1 k0 k2 = I 228 (56 * (hN - 1 - k1) + 7 * k0 + k2) := by
    have := hD.2.1 k1 (7 * k0 + k2) hk1 (by omega)
    unfold cEn
    rw [Nat.add_assoc, Nat.add_assoc]
    exact this
  have c1r : ¬ (Int32.ofNat k1 < 0 ∨ I 219 23 - 1 < Int32.ofNat k1) := by rw [hHN, ← d0]; exact c1
  have hc : mcal mT (d + 5) 157 [.ref 100, .int (Int32.ofNat k0), .int (Int32.ofNat k1), .int (Int32.ofNat k2)] (G, I, L) = some (.inl (some (.int (cEn I 195 w k1 k0 k2))), (G, I, L)) := by
    simp (disch := omega) only [q_X11_diary_, e_X11_diary_0, ↓vB lB, ↓vP lP, ↓vT lT, ↓vH lH, ↓vS lS, ↓vD lD, nr_ok (d + 3) (L := L) lB lP lH s1 c0, nw_ok (d + 3) c1 (G, I, L), nw_ok (d + 3) c2 (G, I, L), mcV_v, ↓mcI_of en]
  have dO := fun L' => r_diaryOf (d + 4) (J := (va_up I 219 (va_up (I 219) 0 0))) (K := L') (b := k1) (r := k0) (c := k2) lM (by rw [up_eq, up_ne (by decide)]; exact hHN) d1 hk1 (by omega) (by omega)
  refine Ste_q q g1 g2 hz (w_diary (d + 5) hc lB.1 o1 o2) fun L' => ?_
  simp (disch := omega) only [q_X12_diary_, e_X12_diary_0, e_X12_diary_43, e_X12_diary_44, e_X12_diary_51, e_X12_diary_53, ↓vM lM, up2_e, r_within, mcI_v, ↓mcI_of (ri_ok (d + 3) (L := L') (I := (va_up I 219 (va_up (I 219) 0 0))) 1 lM I00 (by decide) (by rw [I01]; exact s2) s3 c0), wi_1 (x := (Int32.ofNat k1)) (a := 0) (b := (I 219 23 - 1)) c1r, wi_1 (x := (Int32.ofNat k2)) (a := 0) (b := 6) c2, ↓mcI_of (r_may1 (d + 4) 1 lM (I := (va_up I 219 (va_up (I 219) 0 0))) (L := L') I00), ↓mcI_of (r_may1 (d + 4) 2 lM (I := (va_up I 219 (va_up (I 219) 0 0))) (L := L') I00), up_eq, up_ne, if_neg z1, ↓mcI_of (dO L'), ee]
end
