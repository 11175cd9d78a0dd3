/-! cold, burst -/
def ccn (E R : Nat → Int32) (below by' : Int32) : Nat → Int32
  | 0 => 0
  | b + 1 => ccn E R below by' b + (if below ≤ E b then 0 else if by' = -1 then 1 else if R b = by' then 1 else 0)
theorem ccn_c {E E' R R' : Nat → Int32} {x y : Int32} (k : Nat) (h1 : ∀ b, b < k → E b = E' b) (h2 : ∀ b, b < k → R b = R' b) : ccn E R x y k = ccn E' R' x y k := by
  induction k with
  | zero => rfl
  | succ k ih =>
    unfold ccn
    rw [ih (fun b hb => h1 b (by omega)) (fun b hb => h2 b (by omega)), h1 k (by omega), h2 k (by omega)]
section
variable {z h hs bl bs cl cs nr n nh M hN w lc mc kc ta : Nat} {rm pi mk : Nat → Nat} {G : mG} {I : Nat → Nat → Int32} {L : Nat → Nat → Int64}

theorem c_cold (d : Nat) {k0 : Nat} (x y : Int32) (lB : LayB G hs bl bs cl cs) (lD : LayD G 195) (hk0 : k0 < 8) (d0 : I 195 0 = Int32.ofNat hN) (d1 : hN ≤ 48) (d2 : I 195 1 = Int32.ofNat w) (d3 : w < 48) : f_X11_cold (d + 3) 27 [.ref 100, .int (Int32.ofNat k0), .int x, .int y, .int 0, .int 0, mU] [] (G, I, L) = some (.inl (some (.int (ccn (fun b => cEn I 195 w b k0 0) (fun b => dre (cEn I 195 w b k0 2) (cEn I 195 w b k0 3) (cEn I 195 w b k0 4) (cEn I 195 w b k0 5)) x y hN))), (G, I, L)) := by
  have A := loopy (fun i (s : Int32) => f_X11_cold (d + 3) 27 [.ref 100, .int (Int32.ofNat k0), .int x, .int y, .int s, .int i, mU] [] (G, I, L)) (fun k => ccn (fun b => cEn I 195 w b k0 0) (fun b => dre (cEn I 195 w b k0 2) (cEn I 195 w b k0 3) (cEn I 195 w b k0 4) (cEn I 195 w b k0 5)) x y k) hN 0 rfl (by
    intro b hb
    try dsimp only
    have n0 : mcal mT (d + 3) 30 [.ref 195, .int (Int32.ofNat k0), .int (Int32.ofNat b), .int 0] (G, I, L) = some (.inl (some (.int (cEn I 195 w b k0 0))), (G, I, L)) := c_entry (d + 2) lD d2 d3 (by omega) hk0 (by decide)
    have nr := c_reason (d + 1) (G := G) (I := I) (L := L) (b := b) (r := k0) lD d2 d3 (by omega) hk0
    have z1 : ¬ (1 : Int32) = 0 := by decide
    rw [e_X11_cold_27]
    simp only [↓vB lB, ↓vD lD, d0, if_neg (i_ng hb (by omega)), ↓mcI_of n0, ccn]
    by_cases c1 : x ≤ cEn I 195 w b k0 0
    · simp only [if_pos c1, e_X11_cold_58, e_X11_cold_59, if_true, e_X11_cold_88, i_one, Int32.add_zero]
    · by_cases c2 : y = -1
      · simp only [if_neg c1, e_X11_cold_59, if_neg z1, if_pos c2, e_X11_cold_85, e_X11_cold_88, i_one]
      · by_cases c3 : dre (cEn I 195 w b k0 2) (cEn I 195 w b k0 3) (cEn I 195 w b k0 4) (cEn I 195 w b k0 5) = y
        · simp only [if_neg c1, e_X11_cold_59, if_neg z1, if_neg c2, ↓vB lB, ↓vD lD, ↓mcI_of nr, if_pos c3, e_X11_cold_85, e_X11_cold_88, i_one]
        · simp only [if_neg c1, e_X11_cold_59, if_neg z1, if_neg c2, ↓vB lB, ↓vD lD, ↓mcI_of nr, if_neg c3, e_X11_cold_88, i_one, Int32.add_zero])
  try dsimp only at A
  rw [A, e_X11_cold_27]
  simp only [↓vB lB, ↓vD lD, d0, if_pos i_rf, e_X11_cold_94]
theorem r_reasonOf (d : Nat) {J : Nat → Nat → Int32} {K : Nat → Nat → Int64} {b r : Nat} (lM : LayM G 219) (hh : J 219 23 = Int32.ofNat hN) (h48 : hN ≤ 48) (hb : b < hN) (hr : r < 8) : mcal mT (d + 2) 220 [.ref 219, .int (Int32.ofNat r), .int (Int32.ofNat b)] (G, J, K) = some (.inl (some (.int (dre (J 228 (56 * (hN - 1 - b) + 7 * r + 2)) (J 228 (56 * (hN - 1 - b) + 7 * r + 3)) (J 228 (56 * (hN - 1 - b) + 7 * r + 4)) (J 228 (56 * (hN - 1 - b) + 7 * r + 5))))), (G, J, K)) := by
  have n2 : mcal mT (d + 1) 218 [.ref 219, .int (Int32.ofNat r), .int (Int32.ofNat b), .int 2] (G, J, K) = some (.inl (some (.int (J 228 (56 * (hN - 1 - b) + 7 * r + 2)))), (G, J, K)) := r_diaryOf d lM hh h48 hb hr (by decide)
  have n3 : mcal mT (d + 1) 218 [.ref 219, .int (Int32.ofNat r), .int (Int32.ofNat b), .int 3] (G, J, K) = some (.inl (some (.int (J 228 (56 * (hN - 1 - b) + 7 * r + 3)))), (G, J, K)) := r_diaryOf d lM hh h48 hb hr (by decide)
  have n4 : mcal mT (d + 1) 218 [.ref 219, .int (Int32.ofNat r), .int (Int32.ofNat b), .int 4] (G, J, K) = some (.inl (some (.int (J 228 (56 * (hN - 1 - b) + 7 * r + 4)))), (G, J, K)) := r_diaryOf d lM hh h48 hb hr (by decide)
  have n5 : mcal mT (d + 1) 218 [.ref 219, .int (Int32.ofNat r), .int (Int32.ofNat b), .int 5] (G, J, K) = some (.inl (some (.int (J 228 (56 * (hN - 1 - b) + 7 * r + 5)))), (G, J, K)) := r_diaryOf d lM hh h48 hb hr (by decide)
  simp only [q_X12_reasonOf_, e_X12_reasonOf_0, ↓vM lM, ↓mcI_of n2, e_X12_reasonOf_14, ↓mcI_of n3, e_X12_reasonOf_26, ↓mcI_of n4, ↓mcI_of n5, e_X12_reasonOf_47, e_X12_reasonOf_48]
  unfold dre
  repeat' split
  all_goals rfl
theorem r_cold (d : Nat) {J : Nat → Nat → Int32} {K : Nat → Nat → Int64} {k0 : Nat} (x y : Int32) (lM : LayM G 219) (hh : J 219 23 = Int32.ofNat hN) (h48 : hN ≤ 48) (hk0 : k0 < 8) : f_X12_cold (d + 3) 57 [.ref 219, .int (Int32.ofNat k0), .int x, .int y, .int 0, .int 0] [] (G, J, K) = some (.inl (some (.int (ccn (fun b => J 228 (56 * (hN - 1 - b) + 7 * k0 + 0)) (fun b => dre (J 228 (56 * (hN - 1 - b) + 7 * k0 + 2)) (J 228 (56 * (hN - 1 - b) + 7 * k0 + 3)) (J 228 (56 * (hN - 1 - b) + 7 * k0 + 4)) (J 228 (56 * (hN - 1 - b) + 7 * k0 + 5))) x y hN))), (G, J, K)) := by
  have A := loopy (fun i (s : Int32) => f_X12_cold (d + 3) 57 [.ref 219, .int (Int32.ofNat k0), .int x, .int y, .int s, .int i] [] (G, J, K)) (fun k => ccn (fun b => J 228 (56 * (hN - 1 - b) + 7 * k0 + 0)) (fun b => dre (J 228 (56 * (hN - 1 - b) + 7 * k0 + 2)) (J 228 (56 * (hN - 1 - b) + 7 * k0 + 3)) (J 228 (56 * (hN - 1 - b) + 7 * k0 + 4)) (J 228 (56 * (hN - 1 - b) + 7 * k0 + 5))) x y k) hN 0 rfl (by
    intro b hb
    try dsimp only
    have n0 : mcal mT (d + 3) 218 [.ref 219, .int (Int32.ofNat k0), .int (Int32.ofNat b), .int 0] (G, J, K) = some (.inl (some (.int (J 228 (56 * (hN - 1 - b) + 7 * k0 + 0)))), (G, J, K)) := r_diaryOf (d + 2) lM hh h48 hb hk0 (by decide)
    have nr := r_reasonOf (d + 1) (G := G) (J := J) (K := K) (b := b) (r := k0) lM hh h48 hb hk0
    rw [e_X12_cold_57]
    simp only [↓vM lM, hh, if_neg (i_ng hb (by omega)), ↓mcI_of n0, ↓mcI_of nr, e_X12_cold_96, e_X12_cold_100, e_X12_cold_101, i_one, ccn]
    repeat' split
    all_goals rfl)
  try dsimp only at A
  rw [A, e_X12_cold_57]
  simp only [↓vM lM, hh, if_pos i_rf, e_X12_cold_110]
theorem ca_cold (d : Nat) (q : Rel z h hs bl bs cl cs nr n nh M hN w lc mc kc ta rm pi mk G I L) (g1 : G.1 ≤ 252 + z + 25 * kc) (g2 : G.2.1 ≤ 60000 + 6 * z + 4000 * kc) (hz : z + 1 ≤ 512) (x : Int32) (y : Int32) (u : Int32) : Ste (d + 6) 320 221 [.int x, .int y, .int u] (z + 1) G I L := by
  obtain ⟨lB, lX, lP, -, ⟨lH1, lH2⟩, ⟨lS, -⟩, ⟨lT, -⟩, ⟨lU, -⟩, lD, -, -, lM, ⟨o1, o2⟩, -, hh, -⟩ := id q.1
  have ho := q.2.1
  obtain ⟨s1, s2, s3, s4, s5, s6⟩ := ho_sz ho
  have lH : LayH G h := by
    rcases hh with ⟨a, -⟩ | ⟨a, -⟩
    · rw [a]; exact lH1
    · rw [a]; exact lH2
  have hb : 103 ≤ h ∧ h + 14 ≤ 132 := by omega
  obtain ⟨-, -, ⟨hF, hHN⟩, hS, ⟨hT, hMz⟩, hU, hD, hTp, hEg, hLg, -, -, -, -⟩ := id q
  have z1 : ¬ (1 : Int32) = 0 := by decide
  have I00 : (va_up I 219 (va_up (I 219) 0 0)) 219 0 = 0 := by rw [up_eq, up_eq]
  have I01 : (va_up I 219 (va_up (I 219) 0 0)) 220 = I 220 := up_ne (by decide)
  by_cases c0 : x < 0 ∨ ¬ x < Int32.ofNat nr
  · have hc : mcal mT (d + 5) 158 [.ref 100, .int x, .int y, .int u] (G, I, L) = some (.inr "java/lang/IndexOutOfBoundsException", (G, I, L)) := by
      simp only [q_X11_cold_, e_X11_cold_0, ↓vB lB, ↓vP lP, ↓vT lT, ↓vH lH, ↓vS lS, nr_no (d + 3) (L := L) lB lP lH s1 c0, mcV_v, mcV_e, mthr_e]
    refine Ste_e (k := 1) q g1 g2 hz (by decide) (w_cold_I (d + 5) hc lB.1) fun lM => ?_
    simp only [q_X12_cold_, e_X12_cold_0, e_X12_cold_41, e_X12_cold_42, e_X12_cold_49, ↓vM lM, up2_e, r_within, mcI_v, ↓mcI_of (ri_no (d + 3) (L := L) (I := (va_up I 219 (va_up (I 219) 0 0))) 1 lM I00 (by decide) (by rw [I01]; exact s2) s3 c0), ↓mcI_of (r_may0 (d + 4) 1 lM (I := (va_up I 219 (va_up (I 219) 0 0))) (L := L) I00 (by decide)), up_eq, up_up, if_true, if_neg z1, mb0]
  by_cases c1 : y < -9999 ∨ 9999 < y
  · have hc : mcal mT (d + 5) 158 [.ref 100, .int x, .int y, .int u] (G, I, L) = some (.inr "java/lang/IllegalArgumentException", (G, I, L)) := by
      simp only [q_X11_cold_, e_X11_cold_0, ↓vB lB, ↓vP lP, ↓vT lT, ↓vH lH, ↓vS lS, nr_ok (d + 3) (L := L) lB lP lH s1 c0, nw_no (d + 3) c1 (G, I, L), mcV_v, mcV_e, mthr_e]
    refine Ste_e (k := 2) q g1 g2 hz (by decide) (w_cold_A (d + 5) hc lB.1) fun lM => ?_
    simp only [q_X12_cold_, e_X12_cold_0, e_X12_cold_41, e_X12_cold_42, e_X12_cold_49, ↓vM lM, up2_e, r_within, mcI_v, ↓mcI_of (ri_ok (d + 3) (L := L) (I := (va_up I 219 (va_up (I 219) 0 0))) 1 lM I00 (by decide) (by rw [I01]; exact s2) s3 c0), wi_0 (x := y) (a := -9999) (b := 9999) c1, ↓mcI_of (r_may1 (d + 4) 1 lM (I := (va_up I 219 (va_up (I 219) 0 0))) (L := L) I00), ↓mcI_of (r_may0 (d + 4) 2 lM (I := (va_up I 219 (va_up (I 219) 0 0))) (L := L) I00 (by decide)), up_eq, up_up, if_true, if_neg z1, mb0]
  by_cases c2 : u < -1 ∨ 3 < u
  · have hc : mcal mT (d + 5) 158 [.ref 100, .int x, .int y, .int u] (G, I, L) = some (.inr "java/lang/IllegalArgumentException", (G, I, L)) := by
      simp only [q_X11_cold_, e_X11_cold_0, ↓vB lB, ↓vP lP, ↓vT lT, ↓vH lH, ↓vS lS, nr_ok (d + 3) (L := L) lB lP lH s1 c0, nw_ok (d + 3) c1 (G, I, L), nw_no (d + 3) c2 (G, I, L), mcV_v, mcV_e, mthr_e]
    refine Ste_e (k := 2) q g1 g2 hz (by decide) (w_cold_A (d + 5) hc lB.1) fun lM => ?_
    simp only [q_X12_cold_, e_X12_cold_0, e_X12_cold_41, e_X12_cold_42, e_X12_cold_49, ↓vM lM, up2_e, r_within, mcI_v, ↓mcI_of (ri_ok (d + 3) (L := L) (I := (va_up I 219 (va_up (I 219) 0 0))) 1 lM I00 (by decide) (by rw [I01]; exact s2) s3 c0), wi_1 (x := y) (a := -9999) (b := 9999) c1, wi_0 (x := u) (a := -1) (b := 3) c2, ↓mcI_of (r_may1 (d + 4) 1 lM (I := (va_up I 219 (va_up (I 219) 0 0))) (L := L) I00), ↓mcI_of (r_may1 (d + 4) 2 lM (I := (va_up I 219 (va_up (I 219) 0 0))) (L := L) I00), ↓mcI_of (r_may0 (d + 4) 2 lM (I := (va_up I 219 (va_up (I 219) 0 0))) (L := L) I00 (by decide)), up_eq, up_up, if_true, if_neg z1, mb0]
  obtain ⟨k0, hk0, rfl⟩ := i_rm (by omega) c0
  obtain ⟨d0, d1, d2, d3⟩ := hD.1
  have ee : ∀ b c, b < hN → c < 7 → cEn I 195 w b k0 c = I 228 (56 * (hN - 1 - b) + 7 * k0 + c) := by
    intro b c hb hc
    have := hD.2.1 b (7 * k0 + c) hb (by omega)
    unfold cEn
    rw [Nat.add_assoc, Nat.add_assoc]
    exact this
  have hc : mcal mT (d + 5) 158 [.ref 100, .int (Int32.ofNat k0), .int y, .int u] (G, I, L) = some (.inl (some (.int (ccn (fun b => cEn I 195 w b k0 0) (fun b => dre (cEn I 195 w b k0 2) (cEn I 195 w b k0 3) (cEn I 195 w b k0 4) (cEn I 195 w b k0 5)) y u hN))), (G, I, L)) := by
    simp (disch := omega) only [q_X11_cold_, e_X11_cold_0, ↓vB lB, ↓vP lP, ↓vT lT, ↓vH lH, ↓vS lS, nr_ok (d + 3) (L := L) lB lP lH s1 c0, nw_ok (d + 3) c1 (G, I, L), nw_ok (d + 3) c2 (G, I, L), mcV_v]
    exact c_cold (d + 1) y u lB lD (by omega) d0 d1 d2 d3
  have ev : ccn (fun b => cEn I 195 w b k0 0) (fun b => dre (cEn I 195 w b k0 2) (cEn I 195 w b k0 3) (cEn I 195 w b k0 4) (cEn I 195 w b k0 5)) y u hN = ccn (fun b => I 228 (56 * (hN - 1 - b) + 7 * k0 + 0)) (fun b => dre (I 228 (56 * (hN - 1 - b) + 7 * k0 + 2)) (I 228 (56 * (hN - 1 - b) + 7 * k0 + 3)) (I 228 (56 * (hN - 1 - b) + 7 * k0 + 4)) (I 228 (56 * (hN - 1 - b) + 7 * k0 + 5))) y u hN := ccn_c hN (fun b hb => ee b 0 hb (by decide)) (fun b hb => by rw [ee b 2 hb (by decide), ee b 3 hb (by decide), ee b 4 hb (by decide), ee b 5 hb (by decide)])
  refine Ste_q q g1 g2 hz (w_cold (d + 5) hc lB.1 o1 o2) fun L' => ?_
  have rc := r_cold (d + 2) (J := (va_up I 219 (va_up (I 219) 0 0))) (K := L') (k0 := k0) y u lM (by rw [up_eq, up_ne (by decide)]; exact hHN) d1 (by omega)
  have J228 : (va_up I 219 (va_up (I 219) 0 0)) 228 = I 228 := up_ne (by decide)
  rw [J228] at rc
  simp (disch := omega) only [q_X12_cold_, e_X12_cold_0, e_X12_cold_41, e_X12_cold_42, e_X12_cold_49, e_X12_cold_51, ↓vM lM, up2_e, r_within, mcI_v, ↓mcI_of (ri_ok (d + 3) (L := L') (I := (va_up I 219 (va_up (I 219) 0 0))) 1 lM I00 (by decide) (by rw [I01]; exact s2) s3 c0), wi_1 (x := y) (a := -9999) (b := 9999) c1, wi_1 (x := u) (a := -1) (b := 3) c2, ↓mcI_of (r_may1 (d + 4) 1 lM (I := (va_up I 219 (va_up (I 219) 0 0))) (L := L') I00), ↓mcI_of (r_may1 (d + 4) 2 lM (I := (va_up I 219 (va_up (I 219) 0 0))) (L := L') I00), if_neg z1, rc, ev]
end
