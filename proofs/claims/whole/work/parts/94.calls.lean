/-! guards -/
theorem nw_ok (d : Nat) {x a b : Int32} (h : ¬ (x < a ∨ b < x)) (hp : mH) : mcal mT (d + 1) 163 [.int x, .int a, .int b] hp = some (.inl none, hp) := by
  rw [c_needWithin, if_neg fun q => h (Or.inl q), if_pos (Int32.not_lt.mp fun q => h (Or.inr q))]
theorem nw_no (d : Nat) {x a b : Int32} (h : x < a ∨ b < x) (hp : mH) : mcal mT (d + 1) 163 [.int x, .int a, .int b] hp = some (.inr "java/lang/IllegalArgumentException", hp) := by
  rw [c_needWithin]
  by_cases c : x < a
  · rw [if_pos c]
  · rw [if_neg c, if_neg (Int32.not_le.mpr (h.resolve_left c))]
theorem np_ok (d : Nat) {x : Int32} (h : ¬ (x < 0 ∨ 3 < x)) (hp : mH) : mcal mT (d + 2) 165 [.int x] hp = some (.inl none, hp) := by
  obtain ⟨G, I, L⟩ := hp
  simp only [q_X11_needPipe_, e_X11_needPipe_0, ↓mcV_of (nw_ok d h (G, I, L))]
theorem np_no (d : Nat) {x : Int32} (h : x < 0 ∨ 3 < x) (hp : mH) : mcal mT (d + 2) 165 [.int x] hp = some (.inr "java/lang/IllegalArgumentException", hp) := by
  obtain ⟨G, I, L⟩ := hp
  simp only [q_X11_needPipe_, e_X11_needPipe_0, nw_no d h (G, I, L), mcV_e, mthr_e]
theorem no_ok (d : Nat) {x : Int32} (h : ¬ (x < -4000 ∨ 4000 < x)) (hp : mH) : mcal mT (d + 2) 164 [.int x] hp = some (.inl none, hp) := by
  obtain ⟨G, I, L⟩ := hp
  simp only [q_X11_needOut_, e_X11_needOut_0, ↓mcV_of (nw_ok d h (G, I, L))]
theorem no_no (d : Nat) {x : Int32} (h : x < -4000 ∨ 4000 < x) (hp : mH) : mcal mT (d + 2) 164 [.int x] hp = some (.inr "java/lang/IllegalArgumentException", hp) := by
  obtain ⟨G, I, L⟩ := hp
  simp only [q_X11_needOut_, e_X11_needOut_0, nw_no d h (G, I, L), mcV_e, mthr_e]
section
variable {G : mG} {I : Nat → Nat → Int32} {L : Nat → Nat → Int64} {h hs bl bs cl cs nr n : Nat}
theorem nr_ok (d : Nat) {x : Int32} (lB : LayB G hs bl bs cl cs) (lP : LayP G 117 h 132 139 153) (lH : LayH G h) (s1 : I h 1 = Int32.ofNat nr) (c : ¬ (x < 0 ∨ ¬ x < Int32.ofNat nr)) : mcal mT (d + 1) 166 [.ref 100, .int x] (G, I, L) = some (.inl none, (G, I, L)) := by
  have c1 : ¬ x < 0 := fun q => c (Or.inl q)
  have c2 : x < Int32.ofNat nr := Decidable.not_not.mp fun q => c (Or.inr q)
  simp only [q_X11_needRoom_, e_X11_needRoom_0, if_neg c1, ↓vB lB, ↓vP lP, ↓vH lH, s1, if_pos c2, e_X11_needRoom_26]
theorem nr_no (d : Nat) {x : Int32} (lB : LayB G hs bl bs cl cs) (lP : LayP G 117 h 132 139 153) (lH : LayH G h) (s1 : I h 1 = Int32.ofNat nr) (c : x < 0 ∨ ¬ x < Int32.ofNat nr) : mcal mT (d + 1) 166 [.ref 100, .int x] (G, I, L) = some (.inr "java/lang/IndexOutOfBoundsException", (G, I, L)) := by
  by_cases c1 : x < 0
  · simp only [q_X11_needRoom_, e_X11_needRoom_0, if_pos c1, e_X11_needRoom_18]
  · simp only [q_X11_needRoom_, e_X11_needRoom_0, if_neg c1, ↓vB lB, ↓vP lP, ↓vH lH, s1, if_neg (c.resolve_left c1), e_X11_needRoom_18]
theorem nk_ok (d : Nat) {x : Int32} (lB : LayB G hs bl bs cl cs) (lP : LayP G 117 h 132 139 153) (lH : LayH G h) (s1 : I h 10 = Int32.ofNat n) (c : ¬ (x < 0 ∨ ¬ x < Int32.ofNat n)) : mcal mT (d + 1) 167 [.ref 100, .int x] (G, I, L) = some (.inl none, (G, I, L)) := by
  have c1 : ¬ x < 0 := fun q => c (Or.inl q)
  have c2 : x < Int32.ofNat n := Decidable.not_not.mp fun q => c (Or.inr q)
  simp only [q_X11_needRadiator_, e_X11_needRadiator_0, if_neg c1, ↓vB lB, ↓vP lP, ↓vH lH, s1, if_pos c2, e_X11_needRadiator_26]
theorem nk_no (d : Nat) {x : Int32} (lB : LayB G hs bl bs cl cs) (lP : LayP G 117 h 132 139 153) (lH : LayH G h) (s1 : I h 10 = Int32.ofNat n) (c : x < 0 ∨ ¬ x < Int32.ofNat n) : mcal mT (d + 1) 167 [.ref 100, .int x] (G, I, L) = some (.inr "java/util/NoSuchElementException", (G, I, L)) := by
  by_cases c1 : x < 0
  · simp only [q_X11_needRadiator_, e_X11_needRadiator_0, if_pos c1, e_X11_needRadiator_18]
  · simp only [q_X11_needRadiator_, e_X11_needRadiator_0, if_neg c1, ↓vB lB, ↓vP lP, ↓vH lH, s1, if_neg (c.resolve_left c1), e_X11_needRadiator_18]
theorem nh_ok (d : Nat) (lB : LayB G hs bl bs cl cs) (lP : LayP G 117 h 132 139 153) (lH : LayH G h) (s1 : I h 1 = Int32.ofNat nr) (s3 : nr ≤ 8) (c : ¬ nr = 0) : mcal mT (d + 1) 170 [.ref 100] (G, I, L) = some (.inl none, (G, I, L)) := by
  have c1 : (0 : Int32) < Int32.ofNat nr := (i_lt (a := 0) (by decide) (by omega)).mpr (by omega)
  simp only [q_X11_needHouse_, e_X11_needHouse_0, ↓vB lB, ↓vP lP, ↓vH lH, s1, if_pos c1, e_X11_needHouse_21]
theorem nh_no (d : Nat) (lB : LayB G hs bl bs cl cs) (lP : LayP G 117 h 132 139 153) (lH : LayH G h) (s1 : I h 1 = Int32.ofNat nr) (c : nr = 0) : mcal mT (d + 1) 170 [.ref 100] (G, I, L) = some (.inr "java/lang/IllegalStateException", (G, I, L)) := by
  have c1 : ¬ (0 : Int32) < Int32.ofNat nr := by rw [c]; decide
  simp only [q_X11_needHouse_, e_X11_needHouse_0, ↓vB lB, ↓vP lP, ↓vH lH, s1, if_neg c1]
theorem i_rm {x : Int32} {n : Nat} (hn : n < 2147483648) (c : ¬ (x < 0 ∨ ¬ x < Int32.ofNat n)) : ∃ k, k < n ∧ x = Int32.ofNat k := i_in (fun q => c (Or.inl q)) hn (Decidable.not_not.mp fun q => c (Or.inr q))
end
section
variable {G : mG} {I : Nat → Nat → Int32} {L : Nat → Nat → Int64} {nr n : Nat}
theorem ri_ok (d : Nat) {x : Int32} (c : Int32) (lM : LayM G 219) (h0 : I 219 0 = 0) (hc : ¬ c = 0) (s2 : I 220 163 = Int32.ofNat nr) (s3 : nr ≤ 8) (p : ¬ (x < 0 ∨ ¬ x < Int32.ofNat nr)) : mcal mT (d + 2) 231 [.ref 219, .int x, .int c] (G, I, L) = some (.inl (some (.int 1)), (G, I, L)) := by
  rw [r_isRoom d x c lM h0 hc s2 s3, if_neg p]
theorem ri_no (d : Nat) {x : Int32} (c : Int32) (lM : LayM G 219) (h0 : I 219 0 = 0) (hc : ¬ c = 0) (s2 : I 220 163 = Int32.ofNat nr) (s3 : nr ≤ 8) (p : x < 0 ∨ ¬ x < Int32.ofNat nr) : mcal mT (d + 2) 231 [.ref 219, .int x, .int c] (G, I, L) = some (.inl (some (.int 0)), (G, va_up I 219 (va_up (I 219) 0 c), L)) := by
  rw [r_isRoom d x c lM h0 hc s2 s3, if_pos p]
theorem rk_ok (d : Nat) {x : Int32} (lM : LayM G 219) (h0 : I 219 0 = 0) (s2 : I 220 164 = Int32.ofNat n) (s3 : n ≤ 8) (p : ¬ (x < 0 ∨ ¬ x < Int32.ofNat n)) : mcal mT (d + 2) 232 [.ref 219, .int x] (G, I, L) = some (.inl (some (.int 1)), (G, I, L)) := by
  rw [r_isRadiator d x lM h0 s2 s3, if_neg p]
theorem rk_no (d : Nat) {x : Int32} (lM : LayM G 219) (h0 : I 219 0 = 0) (s2 : I 220 164 = Int32.ofNat n) (s3 : n ≤ 8) (p : x < 0 ∨ ¬ x < Int32.ofNat n) : mcal mT (d + 2) 232 [.ref 219, .int x] (G, I, L) = some (.inl (some (.int 0)), (G, va_up I 219 (va_up (I 219) 0 1), L)) := by
  rw [r_isRadiator d x lM h0 s2 s3, if_pos p]
theorem rh_ok (d : Nat) (c : Int32) (lM : LayM G 219) (h0 : I 219 0 = 0) (hc : ¬ c = 0) (s2 : I 220 163 = Int32.ofNat nr) (s3 : nr ≤ 8) (p : ¬ nr = 0) : mcal mT (d + 2) 228 [.ref 219, .int c] (G, I, L) = some (.inl (some (.int 1)), (G, I, L)) := by
  rw [r_isHouse d c lM h0 hc s2 s3, if_neg p]
theorem rh_no (d : Nat) (c : Int32) (lM : LayM G 219) (h0 : I 219 0 = 0) (hc : ¬ c = 0) (s2 : I 220 163 = Int32.ofNat nr) (s3 : nr ≤ 8) (p : nr = 0) : mcal mT (d + 2) 228 [.ref 219, .int c] (G, I, L) = some (.inl (some (.int 0)), (G, va_up I 219 (va_up (I 219) 0 c), L)) := by
  rw [r_isHouse d c lM h0 hc s2 s3, if_pos p]
end
section
variable {z h hs bl bs cl cs nr n nh M hN w lc mc kc ta : Nat} {rm pi mk : Nat → Nat} {G : mG} {I : Nat → Nat → Int32} {L : Nat → Nat → Int64}
theorem ca_dead (d : Nat) (q : Rel z h hs bl bs cl cs nr n nh M hN w lc mc kc ta rm pi mk G I L) (g1 : G.1 ≤ 252 + z + 25 * kc) (g2 : G.2.1 ≤ 60000 + 6 * z + 4000 * kc) (hz : z + 1 ≤ 512) (x : Int32) : Ste (d + 6) 323 272 [.int x] (z + 1) G I L := by
  obtain ⟨lB, lX, lP, -, ⟨lH1, lH2⟩, ⟨lS, -⟩, ⟨lT, -⟩, ⟨lU, -⟩, lD, -, -, lM, ⟨o1, o2⟩, -, hh, -⟩ := id q.1
  have ho := q.2.1
  obtain ⟨s1, s2, s3, s4, s5, s6⟩ := ho_sz ho
  have lH : LayH G h := by
    rcases hh with ⟨a, -⟩ | ⟨a, -⟩
    · rw [a]; exact lH1
    · rw [a]; exact lH2
  have hb : 103 ≤ h ∧ h + 14 ≤ 132 := by omega
  obtain ⟨-, -, ⟨hF, hHN⟩, hS, ⟨hT, hMz⟩, hU, hD, hTp, hEg, hLg, -, -, -, -⟩ := id q
  have z1 : ¬ (1 : Int32) = 0 := by decide
  have I00 : (va_up I 219 (va_up (I 219) 0 0)) 219 0 = 0 := by rw [up_eq, up_eq]
  have I01 : (va_up I 219 (va_up (I 219) 0 0)) 220 = I 220 := up_ne (by decide)
  by_cases c0 : x < 0 ∨ 3 < x
  · have hc : mcal mT (d + 5) 113 [.ref 100, .int x] (G, I, L) = some (.inr "java/lang/IllegalArgumentException", (G, I, L)) := by
      simp only [q_X11_dead_, e_X11_dead_0, ↓vB lB, ↓vP lP, ↓vT lT, ↓vH lH, ↓vS lS, np_no (d + 2) c0 (G, I, L), mcV_v, mcV_e, mthr_e]
    refine Ste_e (k := 1) q g1 g2 hz (by decide) (w_dead_A (d + 5) hc lB.1) fun lM => ?_
    simp only [q_X12_dead_, e_X12_dead_0, e_X12_dead_21, ↓vM lM, up2_e, r_within, mcI_v, wi_0 (x := x) (a := 0) (b := 3) c0, ↓mcI_of (r_may0 (d + 4) 1 lM (I := (va_up I 219 (va_up (I 219) 0 0))) (L := L) I00 (by decide)), up_eq, up_up, if_true, if_neg z1, mb0]
  obtain ⟨k0, hk0, rfl⟩ := i_rng (n := 3) c0 (by decide)
  have e : I 152 k0 = I 223 (168 + k0) := hT.2.2.2.2.2.2.2.2 k0 (by omega)
  have hc : mcal mT (d + 5) 113 [.ref 100, .int (Int32.ofNat k0)] (G, I, L) = some (.inl (some (.int (I 152 k0))), (G, I, L)) := by
    simp (disch := omega) only [q_X11_dead_, e_X11_dead_0, ↓vB lB, ↓vP lP, ↓vT lT, ↓vH lH, ↓vS lS, np_ok (d + 2) c0 (G, I, L), mcV_v, e]
  refine Ste_q q g1 g2 hz (w_dead (d + 5) hc lB.1 o1 o2) fun L' => ?_
  simp (disch := omega) only [q_X12_dead_, e_X12_dead_0, e_X12_dead_21, ↓vM lM, up2_e, r_within, mcI_v, wi_1 (x := (Int32.ofNat k0)) (a := 0) (b := 3) c0, ↓mcI_of (r_may1 (d + 4) 1 lM (I := (va_up I 219 (va_up (I 219) 0 0))) (L := L') I00), up_ne, if_neg z1, ixA, ixM, i_add, ixZ, e]
theorem ca_wear (d : Nat) (q : Rel z h hs bl bs cl cs nr n nh M hN w lc mc kc ta rm pi mk G I L) (g1 : G.1 ≤ 252 + z + 25 * kc) (g2 : G.2.1 ≤ 60000 + 6 * z + 4000 * kc) (hz : z + 1 ≤ 512) (x : Int32) : Ste (d + 6) 328 277 [.int x] (z + 1) G I L := by
  obtain ⟨lB, lX, lP, -, ⟨lH1, lH2⟩, ⟨lS, -⟩, ⟨lT, -⟩, ⟨lU, -⟩, lD, -, -, lM, ⟨o1, o2⟩, -, hh, -⟩ := id q.1
  have ho := q.2.1
  obtain ⟨s1, s2, s3, s4, s5, s6⟩ := ho_sz ho
  have lH : LayH G h := by
    rcases hh with ⟨a, -⟩ | ⟨a, -⟩
    · rw [a]; exact lH1
    · rw [a]; exact lH2
  have hb : 103 ≤ h ∧ h + 14 ≤ 132 := by omega
  obtain ⟨-, -, ⟨hF, hHN⟩, hS, ⟨hT, hMz⟩, hU, hD, hTp, hEg, hLg, -, -, -, -⟩ := id q
  have z1 : ¬ (1 : Int32) = 0 := by decide
  have I00 : (va_up I 219 (va_up (I 219) 0 0)) 219 0 = 0 := by rw [up_eq, up_eq]
  have I01 : (va_up I 219 (va_up (I 219) 0 0)) 220 = I 220 := up_ne (by decide)
  by_cases c0 : x < 0 ∨ 999 < x
  · have hc : mcal mT (d + 5) 114 [.ref 100, .int x] (G, I, L) = some (.inr "java/lang/IllegalArgumentException", (G, I, L)) := by
      simp only [q_X11_wear_, e_X11_wear_0, ↓vB lB, ↓vP lP, ↓vT lT, ↓vH lH, ↓vS lS, nw_no (d + 3) c0 (G, I, L), mcV_v, mcV_e, mthr_e]
    refine Ste_e (k := 1) q g1 g2 hz (by decide) (w_wear_A (d + 5) hc lB.1) fun lM => ?_
    simp only [q_X12_wear_, e_X12_wear_0, e_X12_wear_23, ↓vM lM, up2_e, r_within, mcI_v, wi_0 (x := x) (a := 0) (b := 999) c0, ↓mcI_of (r_may0 (d + 4) 1 lM (I := (va_up I 219 (va_up (I 219) 0 0))) (L := L) I00 (by decide)), up_eq, up_up, if_true, if_neg z1, mb0]
  have e1 : I 139 3 = I 223 72 := hT.2.2.2.2.1.1
  have e2 : I 139 5 = I 223 172 := hT.2.2.2.2.1.2.2.2
  have hc : mcal mT (d + 5) 114 [.ref 100, .int x] (G, I, L) = some (.inl (some (.int (I 139 3 * x + I 139 5))), (G, I, L)) := by
    simp (disch := omega) only [q_X11_wear_, e_X11_wear_0, ↓vB lB, ↓vP lP, ↓vT lT, ↓vH lH, ↓vS lS, nw_ok (d + 3) c0 (G, I, L), mcV_v, e1, e2]
  refine Ste_q q g1 g2 hz (w_wear (d + 5) hc lB.1 o1 o2) fun L' => ?_
  simp (disch := omega) only [q_X12_wear_, e_X12_wear_0, e_X12_wear_23, ↓vM lM, up2_e, r_within, mcI_v, wi_1 (x := x) (a := 0) (b := 999) c0, ↓mcI_of (r_may1 (d + 4) 1 lM (I := (va_up I 219 (va_up (I 219) 0 0))) (L := L') I00), up_ne, if_neg z1, ixA, ixM, i_add, ixZ, e1, e2]
theorem ca_clock (d : Nat) (q : Rel z h hs bl bs cl cs nr n nh M hN w lc mc kc ta rm pi mk G I L) (g1 : G.1 ≤ 252 + z + 25 * kc) (g2 : G.2.1 ≤ 60000 + 6 * z + 4000 * kc) (hz : z + 1 ≤ 512) (x : Int32) : Ste (d + 6) 306 230 [.int x] (z + 1) G I L := by
  obtain ⟨lB, lX, lP, -, ⟨lH1, lH2⟩, ⟨lS, -⟩, ⟨lT, -⟩, ⟨lU, -⟩, lD, -, -, lM, ⟨o1, o2⟩, -, hh, -⟩ := id q.1
  have ho := q.2.1
  obtain ⟨s1, s2, s3, s4, s5, s6⟩ := ho_sz ho
  have lH : LayH G h := by
    rcases hh with ⟨a, -⟩ | ⟨a, -⟩
    · rw [a]; exact lH1
    · rw [a]; exact lH2
  have hb : 103 ≤ h ∧ h + 14 ≤ 132 := by omega
  obtain ⟨-, -, ⟨hF, hHN⟩, hS, ⟨hT, hMz⟩, hU, hD, hTp, hEg, hLg, -, -, -, -⟩ := id q
  have z1 : ¬ (1 : Int32) = 0 := by decide
  have I00 : (va_up I 219 (va_up (I 219) 0 0)) 219 0 = 0 := by rw [up_eq, up_eq]
  have I01 : (va_up I 219 (va_up (I 219) 0 0)) 220 = I 220 := up_ne (by decide)
  by_cases c0 : x < 0 ∨ Int32.ofNat 3 < x
  · have hc : mcal mT (d + 5) 111 [.ref 100, .int x] (G, I, L) = some (.inr "java/lang/IllegalArgumentException", (G, I, L)) := by
      simp only [q_X11_clock_, e_X11_clock_0, e_X11_clock_63, ↓vB lB, ↓vP lP, ↓vT lT, ↓vH lH, ↓vS lS, if_neg (show ¬ x = 0 from i_out (n := 3) (k := 0) c0 (by decide) (by decide)), if_neg (show ¬ x = 1 from i_out (n := 3) (k := 1) c0 (by decide) (by decide)), if_neg (show ¬ x = 2 from i_out (n := 3) (k := 2) c0 (by decide) (by decide)), if_neg (show ¬ x = 3 from i_out (n := 3) (k := 3) c0 (by decide) (by decide)), mcV_v, mcV_e, mthr_e]
    refine Ste_e (k := 1) q g1 g2 hz (by decide) (w_clock_A (d + 5) hc lB.1) fun lM => ?_
    simp only [q_X12_clock_, e_X12_clock_0, ↓vM lM, up2_e, r_within, mcI_v, wi_0 (x := x) (a := 0) (b := 3) c0, ↓mcI_of (r_may0 (d + 4) 1 lM (I := (va_up I 219 (va_up (I 219) 0 0))) (L := L) I00 (by decide)), up_eq, up_up, if_true, if_neg z1, mb0]
  obtain ⟨k, hk, rfl⟩ := i_rng c0 (by decide)
  have key : ∀ v, mcal mT (d + 5) 111 [.ref 100, .int (Int32.ofNat k)] (G, I, L) = some (.inl (some (.int v)), (G, I, L)) → (∀ L', f_X12_clock (d + 5) 21 [.ref 219, .int (Int32.ofNat k)] [] (G, (va_up I 219 (va_up (I 219) 0 0)), L') = some (.inl (some (.int v)), (G, (va_up I 219 (va_up (I 219) 0 0)), L'))) → Ste (d + 6) 306 230 [.int (Int32.ofNat k)] (z + 1) G I L := by
    intro v hc hr
    refine Ste_q q g1 g2 hz (w_clock (d + 5) hc lB.1 o1 o2) fun L' => ?_
    simp (disch := omega) only [q_X12_clock_, e_X12_clock_0, ↓vM lM, up2_e, r_within, mcI_v, wi_1 (x := (Int32.ofNat k)) (a := 0) (b := 3) c0, ↓mcI_of (r_may1 (d + 4) 1 lM (I := (va_up I 219 (va_up (I 219) 0 0))) (L := L') I00), if_neg z1]
    exact hr L'
  match k, hk with
  | 0, _ =>
    refine key (I 139 0) (by simp (disch := omega) only [q_X11_clock_, e_X11_clock_0, e_X11_clock_63, e_X11_clock_40, ↓vB lB, ↓vP lP, ↓vT lT, ↓vH lH, ↓vS lS, if_pos (show Int32.ofNat 0 = 0 by decide), mcV_v, show I 139 0 = I 223 71 from hT.1.1.trans hT.1.2.symm]) fun L' => ?_
    simp (disch := omega) only [e_X12_clock_21, e_X12_clock_35, e_X12_clock_50, e_X12_clock_69, if_pos (show Int32.ofNat 0 = 0 by decide), ↓vM lM, up_ne, ixA, ixZ, show I 139 0 = I 223 71 from hT.1.1.trans hT.1.2.symm]
  | 1, _ =>
    refine key (I 139 3) (by simp (disch := omega) only [q_X11_clock_, e_X11_clock_0, e_X11_clock_63, e_X11_clock_45, ↓vB lB, ↓vP lP, ↓vT lT, ↓vH lH, ↓vS lS, if_neg (show ¬ Int32.ofNat 1 = 0 by decide), if_pos (show Int32.ofNat 1 = 1 by decide), mcV_v, mcV_v]) fun L' => ?_
    simp (disch := omega) only [e_X12_clock_21, e_X12_clock_35, e_X12_clock_50, e_X12_clock_69, if_neg (show ¬ Int32.ofNat 1 = 0 by decide), if_pos (show Int32.ofNat 1 = 1 by decide), ↓vM lM, up_ne, ixA, ixZ, show I 139 3 = I 223 72 from hT.2.2.2.2.1.1]
  | 2, _ =>
    refine key (I 139 4) (by simp (disch := omega) only [q_X11_clock_, e_X11_clock_0, e_X11_clock_63, e_X11_clock_50, ↓vB lB, ↓vP lP, ↓vT lT, ↓vH lH, ↓vS lS, if_neg (show ¬ Int32.ofNat 2 = 0 by decide), if_neg (show ¬ Int32.ofNat 2 = 1 by decide), if_pos (show Int32.ofNat 2 = 2 by decide), mcV_v, mcV_v]) fun L' => ?_
    simp (disch := omega) only [e_X12_clock_21, e_X12_clock_35, e_X12_clock_50, e_X12_clock_69, if_neg (show ¬ Int32.ofNat 2 = 0 by decide), if_neg (show ¬ Int32.ofNat 2 = 1 by decide), if_pos (show Int32.ofNat 2 = 2 by decide), ↓vM lM, up_ne, ixA, ixZ, show I 139 4 = I 223 73 from hT.2.2.2.2.1.2.1]
  | 3, _ =>
    refine key (hou (I 139 0)) (by simp (disch := omega) only [q_X11_clock_, e_X11_clock_0, e_X11_clock_63, e_X11_clock_55, ↓vB lB, ↓vP lP, ↓vT lT, ↓vH lH, ↓vS lS, if_neg (show ¬ Int32.ofNat 3 = 0 by decide), if_neg (show ¬ Int32.ofNat 3 = 1 by decide), if_neg (show ¬ Int32.ofNat 3 = 2 by decide), if_pos (show Int32.ofNat 3 = 3 by decide), mcV_v, c_hourOf, mcI_v]) fun L' => ?_
    simp (disch := omega) only [e_X12_clock_21, e_X12_clock_35, e_X12_clock_50, e_X12_clock_65, e_X12_clock_69, if_neg (show ¬ Int32.ofNat 3 = 0 by decide), if_neg (show ¬ Int32.ofNat 3 = 1 by decide), if_neg (show ¬ Int32.ofNat 3 = 2 by decide), if_pos (show Int32.ofNat 3 = 3 by decide), ↓vM lM, up_ne, ixA, ixZ, ↓mcI_of (r_hour (d + 4) lM), show I 139 0 = I 223 71 from hT.1.1.trans hT.1.2.symm]
theorem ca_wall (d : Nat) (q : Rel z h hs bl bs cl cs nr n nh M hN w lc mc kc ta rm pi mk G I L) (g1 : G.1 ≤ 252 + z + 25 * kc) (g2 : G.2.1 ≤ 60000 + 6 * z + 4000 * kc) (hz : z + 1 ≤ 512) (x : Int32) (y : Int32) : Ste (d + 6) 298 234 [.int x, .int y] (z + 1) G I L := by
  obtain ⟨lB, lX, lP, -, ⟨lH1, lH2⟩, ⟨lS, -⟩, ⟨lT, -⟩, ⟨lU, -⟩, lD, -, -, lM, ⟨o1, o2⟩, -, hh, -⟩ := id q.1
  have ho := q.2.1
  obtain ⟨s1, s2, s3, s4, s5, s6⟩ := ho_sz ho
  have lH : LayH G h := by
    rcases hh with ⟨a, -⟩ | ⟨a, -⟩
    · rw [a]; exact lH1
    · rw [a]; exact lH2
  have hb : 103 ≤ h ∧ h + 14 ≤ 132 := by omega
  obtain ⟨-, -, ⟨hF, hHN⟩, hS, ⟨hT, hMz⟩, hU, hD, hTp, hEg, hLg, -, -, -, -⟩ := id q
  have z1 : ¬ (1 : Int32) = 0 := by decide
  have I00 : (va_up I 219 (va_up (I 219) 0 0)) 219 0 = 0 := by rw [up_eq, up_eq]
  have I01 : (va_up I 219 (va_up (I 219) 0 0)) 220 = I 220 := up_ne (by decide)
  by_cases c0 : x < 0 ∨ ¬ x < Int32.ofNat nr
  · have hc : mcal mT (d + 5) 108 [.ref 100, .int x, .int y] (G, I, L) = some (.inr "java/lang/IndexOutOfBoundsException", (G, I, L)) := by
      simp only [q_X11_wall_, e_X11_wall_0, ↓vB lB, ↓vP lP, ↓vT lT, ↓vH lH, ↓vS lS, nr_no (d + 3) (L := L) lB lP lH s1 c0, mcV_v, mcV_e, mthr_e]
    refine Ste_e (k := 1) q g1 g2 hz (by decide) (w_wall_I (d + 5) hc lB.1) fun lM => ?_
    simp only [q_X12_wall_, e_X12_wall_0, e_X12_wall_23, e_X12_wall_25, ↓vM lM, up2_e, r_within, mcI_v, ↓mcI_of (ri_no (d + 3) (L := L) (I := (va_up I 219 (va_up (I 219) 0 0))) 1 lM I00 (by decide) (by rw [I01]; exact s2) s3 c0), ↓mcI_of (r_may0 (d + 4) 1 lM (I := (va_up I 219 (va_up (I 219) 0 0))) (L := L) I00 (by decide)), up_eq, up_up, if_true, if_neg z1, mb0]
  by_cases c1 : y < 0 ∨ ¬ y < Int32.ofNat nr
  · have hc : mcal mT (d + 5) 108 [.ref 100, .int x, .int y] (G, I, L) = some (.inr "java/lang/IndexOutOfBoundsException", (G, I, L)) := by
      simp only [q_X11_wall_, e_X11_wall_0, ↓vB lB, ↓vP lP, ↓vT lT, ↓vH lH, ↓vS lS, nr_ok (d + 3) (L := L) lB lP lH s1 c0, nr_no (d + 3) (L := L) lB lP lH s1 c1, mcV_v, mcV_e, mthr_e]
    refine Ste_e (k := 1) q g1 g2 hz (by decide) (w_wall_I (d + 5) hc lB.1) fun lM => ?_
    simp only [q_X12_wall_, e_X12_wall_0, e_X12_wall_23, e_X12_wall_25, ↓vM lM, up2_e, r_within, mcI_v, ↓mcI_of (ri_ok (d + 3) (L := L) (I := (va_up I 219 (va_up (I 219) 0 0))) 1 lM I00 (by decide) (by rw [I01]; exact s2) s3 c0), ↓mcI_of (ri_no (d + 3) (L := L) (I := (va_up I 219 (va_up (I 219) 0 0))) 1 lM I00 (by decide) (by rw [I01]; exact s2) s3 c1), ↓mcI_of (r_may1 (d + 4) 1 lM (I := (va_up I 219 (va_up (I 219) 0 0))) (L := L) I00), ↓mcI_of (r_may0 (d + 4) 1 lM (I := (va_up I 219 (va_up (I 219) 0 0))) (L := L) I00 (by decide)), up_eq, up_up, if_true, if_neg z1, mb0]
  obtain ⟨k0, hk0, rfl⟩ := i_rm (by omega) c0
  obtain ⟨k1, hk1, rfl⟩ := i_rm (by omega) c1
  have wl : ∀ a b, a < nr → b < nr → I (h + 3) (a * 8 + b) = I 220 (56 + 8 * a + b) := by
    rcases ho with ⟨a, -⟩ | ⟨-, b, -⟩
    · intro x y hx; omega
    · exact fun x y hx hy => (b.2.2.2.2.1 x y hx hy).1
  have e := wl k0 k1 hk0 hk1
  have hc : mcal mT (d + 5) 108 [.ref 100, .int (Int32.ofNat k0), .int (Int32.ofNat k1)] (G, I, L) = some (.inl (some (.int (I (h + 3) (k0 * 8 + k1)))), (G, I, L)) := by
    simp (disch := omega) only [q_X11_wall_, e_X11_wall_0, ↓vB lB, ↓vP lP, ↓vT lT, ↓vH lH, ↓vS lS, nr_ok (d + 3) (L := L) lB lP lH s1 c0, nr_ok (d + 3) (L := L) lB lP lH s1 c1, mcV_v, i_m8, e]
  refine Ste_q q g1 g2 hz (w_wall (d + 5) hc lB.1 o1 o2) fun L' => ?_
  simp (disch := omega) only [q_X12_wall_, e_X12_wall_0, e_X12_wall_23, e_X12_wall_25, ↓vM lM, up2_e, r_within, mcI_v, ↓mcI_of (ri_ok (d + 3) (L := L') (I := (va_up I 219 (va_up (I 219) 0 0))) 1 lM I00 (by decide) (by rw [I01]; exact s2) s3 c0), ↓mcI_of (ri_ok (d + 3) (L := L') (I := (va_up I 219 (va_up (I 219) 0 0))) 1 lM I00 (by decide) (by rw [I01]; exact s2) s3 c1), ↓mcI_of (r_may1 (d + 4) 1 lM (I := (va_up I 219 (va_up (I 219) 0 0))) (L := L') I00), up_ne, if_neg z1, ixA, ixM, i_add, ixZ, i_m8, e]
theorem ca_room (d : Nat) (q : Rel z h hs bl bs cl cs nr n nh M hN w lc mc kc ta rm pi mk G I L) (g1 : G.1 ≤ 252 + z + 25 * kc) (g2 : G.2.1 ≤ 60000 + 6 * z + 4000 * kc) (hz : z + 1 ≤ 512) (x : Int32) (y : Int32) : Ste (d + 6) 297 233 [.int x, .int y] (z + 1) G I L := by
  obtain ⟨lB, lX, lP, -, ⟨lH1, lH2⟩, ⟨lS, -⟩, ⟨lT, -⟩, ⟨lU, -⟩, lD, -, -, lM, ⟨o1, o2⟩, -, hh, -⟩ := id q.1
  have ho := q.2.1
  obtain ⟨s1, s2, s3, s4, s5, s6⟩ := ho_sz ho
  have lH : LayH G h := by
    rcases hh with ⟨a, -⟩ | ⟨a, -⟩
    · rw [a]; exact lH1
    · rw [a]; exact lH2
  have hb : 103 ≤ h ∧ h + 14 ≤ 132 := by omega
  obtain ⟨-, -, ⟨hF, hHN⟩, hS, ⟨hT, hMz⟩, hU, hD, hTp, hEg, hLg, -, -, -, -⟩ := id q
  have z1 : ¬ (1 : Int32) = 0 := by decide
  have I00 : (va_up I 219 (va_up (I 219) 0 0)) 219 0 = 0 := by rw [up_eq, up_eq]
  have I01 : (va_up I 219 (va_up (I 219) 0 0)) 220 = I 220 := up_ne (by decide)
  by_cases c0 : x < 0 ∨ ¬ x < Int32.ofNat nr
  · have hc : mcal mT (d + 5) 107 [.ref 100, .int x, .int y] (G, I, L) = some (.inr "java/lang/IndexOutOfBoundsException", (G, I, L)) := by
      simp only [q_X11_room_, e_X11_room_0, e_X11_room_155, ↓vB lB, ↓vP lP, ↓vT lT, ↓vH lH, ↓vS lS, nr_no (d + 3) (L := L) lB lP lH s1 c0, mcV_v, mcV_e, mthr_e]
    refine Ste_e (k := 1) q g1 g2 hz (by decide) (w_room_I (d + 5) hc lB.1) fun lM => ?_
    simp only [q_X12_room_, e_X12_room_0, e_X12_room_29, ↓vM lM, up2_e, r_within, mcI_v, ↓mcI_of (ri_no (d + 3) (L := L) (I := (va_up I 219 (va_up (I 219) 0 0))) 1 lM I00 (by decide) (by rw [I01]; exact s2) s3 c0), ↓mcI_of (r_may0 (d + 4) 1 lM (I := (va_up I 219 (va_up (I 219) 0 0))) (L := L) I00 (by decide)), up_eq, up_up, if_true, if_neg z1, mb0]
  by_cases c1 : y < 0 ∨ Int32.ofNat 9 < y
  · have hc : mcal mT (d + 5) 107 [.ref 100, .int x, .int y] (G, I, L) = some (.inr "java/lang/IllegalArgumentException", (G, I, L)) := by
      simp only [q_X11_room_, e_X11_room_0, e_X11_room_155, ↓vB lB, ↓vP lP, ↓vT lT, ↓vH lH, ↓vS lS, nr_ok (d + 3) (L := L) lB lP lH s1 c0, if_neg (show ¬ y = 0 from i_out (n := 9) (k := 0) c1 (by decide) (by decide)), if_neg (show ¬ y = 1 from i_out (n := 9) (k := 1) c1 (by decide) (by decide)), if_neg (show ¬ y = 2 from i_out (n := 9) (k := 2) c1 (by decide) (by decide)), if_neg (show ¬ y = 3 from i_out (n := 9) (k := 3) c1 (by decide) (by decide)), if_neg (show ¬ y = 4 from i_out (n := 9) (k := 4) c1 (by decide) (by decide)), if_neg (show ¬ y = 5 from i_out (n := 9) (k := 5) c1 (by decide) (by decide)), if_neg (show ¬ y = 6 from i_out (n := 9) (k := 6) c1 (by decide) (by decide)), if_neg (show ¬ y = 7 from i_out (n := 9) (k := 7) c1 (by decide) (by decide)), if_neg (show ¬ y = 8 from i_out (n := 9) (k := 8) c1 (by decide) (by decide)), if_neg (show ¬ y = 9 from i_out (n := 9) (k := 9) c1 (by decide) (by decide)), mcV_v, mcV_e, mthr_e]
    refine Ste_e (k := 2) q g1 g2 hz (by decide) (w_room_A (d + 5) hc lB.1) fun lM => ?_
    simp only [q_X12_room_, e_X12_room_0, e_X12_room_29, ↓vM lM, up2_e, r_within, mcI_v, ↓mcI_of (ri_ok (d + 3) (L := L) (I := (va_up I 219 (va_up (I 219) 0 0))) 1 lM I00 (by decide) (by rw [I01]; exact s2) s3 c0), wi_0 (x := y) (a := 0) (b := 9) c1, ↓mcI_of (r_may1 (d + 4) 1 lM (I := (va_up I 219 (va_up (I 219) 0 0))) (L := L) I00), ↓mcI_of (r_may0 (d + 4) 2 lM (I := (va_up I 219 (va_up (I 219) 0 0))) (L := L) I00 (by decide)), up_eq, up_up, if_true, if_neg z1, mb0]
  obtain ⟨k0, hk0, rfl⟩ := i_rm (by omega) c0
  obtain ⟨⟨m1, m2⟩, t2, ⟨t3, t4⟩, ⟨t5, t6⟩, ⟨t7, t8, t9, t10⟩, t11, t12, t13, t14⟩ := id hT
  obtain ⟨l1, l2, l3, l4, l5⟩ := t11 k0 hk0
  have r1 : I 140 k0 = I 223 k0 := (t2 k0 hk0).1
  have r4 : (I 139 1 >>> (Int32.ofNat k0 &&& 31)) &&& 1 = I 223 (32 + k0) := (t4 k0 (by omega)).symm
  have r5 : I 141 k0 = I 223 (74 + k0) := l1
  have r6 : I 142 k0 = I 223 (82 + k0) := l2
  have r7 : I 143 k0 = I 223 (90 + k0) := l3
  have r8 : I 144 k0 = I 223 (98 + k0) := l4
  have r9 : I 145 k0 = I 223 (106 + k0) := l5
  have r0 : I (h + 1) k0 = I 220 k0 ∧ I (h + 4) k0 = I 220 (16 + k0) ∧ I (h + 5) k0 = I 220 (24 + k0) := by
    rcases ho with ⟨a, -⟩ | ⟨-, b, -⟩
    · omega
    · exact ⟨(b.2.1 k0 hk0).1, (b.2.2.1 k0 hk0).1, (b.2.2.1 k0 hk0).2⟩
  obtain ⟨q0, q2, q3⟩ := r0
  obtain ⟨k, hk, rfl⟩ := i_rng c1 (by decide)
  have key : ∀ v, mcal mT (d + 5) 107 [.ref 100, .int (Int32.ofNat k0), .int (Int32.ofNat k)] (G, I, L) = some (.inl (some (.int v)), (G, I, L)) → (∀ L', f_X12_room (d + 5) 31 [.ref 219, .int (Int32.ofNat k0), .int (Int32.ofNat k)] [] (G, (va_up I 219 (va_up (I 219) 0 0)), L') = some (.inl (some (.int v)), (G, (va_up I 219 (va_up (I 219) 0 0)), L'))) → Ste (d + 6) 297 233 [.int (Int32.ofNat k0), .int (Int32.ofNat k)] (z + 1) G I L := by
    intro v hc hr
    refine Ste_q q g1 g2 hz (w_room (d + 5) hc lB.1 o1 o2) fun L' => ?_
    simp (disch := omega) only [q_X12_room_, e_X12_room_0, e_X12_room_29, ↓vM lM, up2_e, r_within, mcI_v, ↓mcI_of (ri_ok (d + 3) (L := L') (I := (va_up I 219 (va_up (I 219) 0 0))) 1 lM I00 (by decide) (by rw [I01]; exact s2) s3 c0), wi_1 (x := (Int32.ofNat k)) (a := 0) (b := 9) c1, ↓mcI_of (r_may1 (d + 4) 1 lM (I := (va_up I 219 (va_up (I 219) 0 0))) (L := L') I00), ↓mcI_of (r_may1 (d + 4) 2 lM (I := (va_up I 219 (va_up (I 219) 0 0))) (L := L') I00), if_neg z1]
    exact hr L'
  match k, hk with
  | 0, _ =>
    refine key (I (h + 1) k0) (by simp (disch := omega) only [q_X11_room_, e_X11_room_0, e_X11_room_155, e_X11_room_76, ↓vB lB, ↓vP lP, ↓vT lT, ↓vH lH, ↓vS lS, nr_ok (d + 3) (L := L) lB lP lH s1 c0, if_pos (show Int32.ofNat 0 = 0 by decide), mcV_v, mcV_v]) fun L' => ?_
    simp (disch := omega) only [e_X12_room_31, e_X12_room_84, if_pos (show Int32.ofNat 0 = 0 by decide), ↓vM lM, up_ne, ixA, ixZ, q0]
  | 1, _ =>
    refine key (I 140 k0) (by simp (disch := omega) only [q_X11_room_, e_X11_room_0, e_X11_room_155, e_X11_room_83, ↓vB lB, ↓vP lP, ↓vT lT, ↓vH lH, ↓vS lS, nr_ok (d + 3) (L := L) lB lP lH s1 c0, if_neg (show ¬ Int32.ofNat 1 = 0 by decide), if_pos (show Int32.ofNat 1 = 1 by decide), mcV_v, mcV_v]) fun L' => ?_
    simp (disch := omega) only [e_X12_room_31, e_X12_room_93, if_neg (show ¬ Int32.ofNat 1 = 0 by decide), if_pos (show Int32.ofNat 1 = 1 by decide), ↓vM lM, up_ne, ixA, ixZ, r1]
  | 2, _ =>
    refine key (I (h + 4) k0) (by simp (disch := omega) only [q_X11_room_, e_X11_room_0, e_X11_room_155, e_X11_room_91, ↓vB lB, ↓vP lP, ↓vT lT, ↓vH lH, ↓vS lS, nr_ok (d + 3) (L := L) lB lP lH s1 c0, if_neg (show ¬ Int32.ofNat 2 = 0 by decide), if_neg (show ¬ Int32.ofNat 2 = 1 by decide), if_pos (show Int32.ofNat 2 = 2 by decide), mcV_v, mcV_v]) fun L' => ?_
    simp (disch := omega) only [e_X12_room_31, e_X12_room_102, if_neg (show ¬ Int32.ofNat 2 = 0 by decide), if_neg (show ¬ Int32.ofNat 2 = 1 by decide), if_pos (show Int32.ofNat 2 = 2 by decide), ↓vM lM, up_ne, ixA, ixZ, q2]
  | 3, _ =>
    refine key (I (h + 5) k0) (by simp (disch := omega) only [q_X11_room_, e_X11_room_0, e_X11_room_155, e_X11_room_98, ↓vB lB, ↓vP lP, ↓vT lT, ↓vH lH, ↓vS lS, nr_ok (d + 3) (L := L) lB lP lH s1 c0, if_neg (show ¬ Int32.ofNat 3 = 0 by decide), if_neg (show ¬ Int32.ofNat 3 = 1 by decide), if_neg (show ¬ Int32.ofNat 3 = 2 by decide), if_pos (show Int32.ofNat 3 = 3 by decide), mcV_v, mcV_v]) fun L' => ?_
    simp (disch := omega) only [e_X12_room_31, e_X12_room_112, if_neg (show ¬ Int32.ofNat 3 = 0 by decide), if_neg (show ¬ Int32.ofNat 3 = 1 by decide), if_neg (show ¬ Int32.ofNat 3 = 2 by decide), if_pos (show Int32.ofNat 3 = 3 by decide), ↓vM lM, up_ne, ixA, ixZ, q3]
  | 4, _ =>
    refine key ((I 139 1 >>> (Int32.ofNat k0 &&& 31)) &&& 1) (by simp (disch := omega) only [q_X11_room_, e_X11_room_0, e_X11_room_155, e_X11_room_105, ↓vB lB, ↓vP lP, ↓vT lT, ↓vH lH, ↓vS lS, nr_ok (d + 3) (L := L) lB lP lH s1 c0, if_neg (show ¬ Int32.ofNat 4 = 0 by decide), if_neg (show ¬ Int32.ofNat 4 = 1 by decide), if_neg (show ¬ Int32.ofNat 4 = 2 by decide), if_neg (show ¬ Int32.ofNat 4 = 3 by decide), if_pos (show Int32.ofNat 4 = 4 by decide), mcV_v, mcV_v]) fun L' => ?_
    simp (disch := omega) only [e_X12_room_31, e_X12_room_122, if_neg (show ¬ Int32.ofNat 4 = 0 by decide), if_neg (show ¬ Int32.ofNat 4 = 1 by decide), if_neg (show ¬ Int32.ofNat 4 = 2 by decide), if_neg (show ¬ Int32.ofNat 4 = 3 by decide), if_pos (show Int32.ofNat 4 = 4 by decide), ↓vM lM, up_ne, ixA, ixZ, r4]
  | 5, _ =>
    refine key (I 141 k0) (by simp (disch := omega) only [q_X11_room_, e_X11_room_0, e_X11_room_155, e_X11_room_115, ↓vB lB, ↓vP lP, ↓vT lT, ↓vH lH, ↓vS lS, nr_ok (d + 3) (L := L) lB lP lH s1 c0, if_neg (show ¬ Int32.ofNat 5 = 0 by decide), if_neg (show ¬ Int32.ofNat 5 = 1 by decide), if_neg (show ¬ Int32.ofNat 5 = 2 by decide), if_neg (show ¬ Int32.ofNat 5 = 3 by decide), if_neg (show ¬ Int32.ofNat 5 = 4 by decide), if_pos (show Int32.ofNat 5 = 5 by decide), mcV_v, mcV_v]) fun L' => ?_
    simp (disch := omega) only [e_X12_room_31, e_X12_room_132, if_neg (show ¬ Int32.ofNat 5 = 0 by decide), if_neg (show ¬ Int32.ofNat 5 = 1 by decide), if_neg (show ¬ Int32.ofNat 5 = 2 by decide), if_neg (show ¬ Int32.ofNat 5 = 3 by decide), if_neg (show ¬ Int32.ofNat 5 = 4 by decide), if_pos (show Int32.ofNat 5 = 5 by decide), ↓vM lM, up_ne, ixA, ixZ, r5]
  | 6, _ =>
    refine key (I 142 k0) (by simp (disch := omega) only [q_X11_room_, e_X11_room_0, e_X11_room_155, e_X11_room_123, ↓vB lB, ↓vP lP, ↓vT lT, ↓vH lH, ↓vS lS, nr_ok (d + 3) (L := L) lB lP lH s1 c0, if_neg (show ¬ Int32.ofNat 6 = 0 by decide), if_neg (show ¬ Int32.ofNat 6 = 1 by decide), if_neg (show ¬ Int32.ofNat 6 = 2 by decide), if_neg (show ¬ Int32.ofNat 6 = 3 by decide), if_neg (show ¬ Int32.ofNat 6 = 4 by decide), if_neg (show ¬ Int32.ofNat 6 = 5 by decide), if_pos (show Int32.ofNat 6 = 6 by decide), mcV_v, mcV_v]) fun L' => ?_
    simp (disch := omega) only [e_X12_room_31, e_X12_room_142, if_neg (show ¬ Int32.ofNat 6 = 0 by decide), if_neg (show ¬ Int32.ofNat 6 = 1 by decide), if_neg (show ¬ Int32.ofNat 6 = 2 by decide), if_neg (show ¬ Int32.ofNat 6 = 3 by decide), if_neg (show ¬ Int32.ofNat 6 = 4 by decide), if_neg (show ¬ Int32.ofNat 6 = 5 by decide), if_pos (show Int32.ofNat 6 = 6 by decide), ↓vM lM, up_ne, ixA, ixZ, r6]
  | 7, _ =>
    refine key (I 143 k0) (by simp (disch := omega) only [q_X11_room_, e_X11_room_0, e_X11_room_155, e_X11_room_131, ↓vB lB, ↓vP lP, ↓vT lT, ↓vH lH, ↓vS lS, nr_ok (d + 3) (L := L) lB lP lH s1 c0, if_neg (show ¬ Int32.ofNat 7 = 0 by decide), if_neg (show ¬ Int32.ofNat 7 = 1 by decide), if_neg (show ¬ Int32.ofNat 7 = 2 by decide), if_neg (show ¬ Int32.ofNat 7 = 3 by decide), if_neg (show ¬ Int32.ofNat 7 = 4 by decide), if_neg (show ¬ Int32.ofNat 7 = 5 by decide), if_neg (show ¬ Int32.ofNat 7 = 6 by decide), if_pos (show Int32.ofNat 7 = 7 by decide), mcV_v, mcV_v]) fun L' => ?_
    simp (disch := omega) only [e_X12_room_31, e_X12_room_152, if_neg (show ¬ Int32.ofNat 7 = 0 by decide), if_neg (show ¬ Int32.ofNat 7 = 1 by decide), if_neg (show ¬ Int32.ofNat 7 = 2 by decide), if_neg (show ¬ Int32.ofNat 7 = 3 by decide), if_neg (show ¬ Int32.ofNat 7 = 4 by decide), if_neg (show ¬ Int32.ofNat 7 = 5 by decide), if_neg (show ¬ Int32.ofNat 7 = 6 by decide), if_pos (show Int32.ofNat 7 = 7 by decide), ↓vM lM, up_ne, ixA, ixZ, r7]
  | 8, _ =>
    refine key (I 144 k0) (by simp (disch := omega) only [q_X11_room_, e_X11_room_0, e_X11_room_155, e_X11_room_139, ↓vB lB, ↓vP lP, ↓vT lT, ↓vH lH, ↓vS lS, nr_ok (d + 3) (L := L) lB lP lH s1 c0, if_neg (show ¬ Int32.ofNat 8 = 0 by decide), if_neg (show ¬ Int32.ofNat 8 = 1 by decide), if_neg (show ¬ Int32.ofNat 8 = 2 by decide), if_neg (show ¬ Int32.ofNat 8 = 3 by decide), if_neg (show ¬ Int32.ofNat 8 = 4 by decide), if_neg (show ¬ Int32.ofNat 8 = 5 by decide), if_neg (show ¬ Int32.ofNat 8 = 6 by decide), if_neg (show ¬ Int32.ofNat 8 = 7 by decide), if_pos (show Int32.ofNat 8 = 8 by decide), mcV_v, mcV_v]) fun L' => ?_
    simp (disch := omega) only [e_X12_room_31, e_X12_room_162, if_neg (show ¬ Int32.ofNat 8 = 0 by decide), if_neg (show ¬ Int32.ofNat 8 = 1 by decide), if_neg (show ¬ Int32.ofNat 8 = 2 by decide), if_neg (show ¬ Int32.ofNat 8 = 3 by decide), if_neg (show ¬ Int32.ofNat 8 = 4 by decide), if_neg (show ¬ Int32.ofNat 8 = 5 by decide), if_neg (show ¬ Int32.ofNat 8 = 6 by decide), if_neg (show ¬ Int32.ofNat 8 = 7 by decide), if_pos (show Int32.ofNat 8 = 8 by decide), ↓vM lM, up_ne, ixA, ixZ, r8]
  | 9, _ =>
    refine key (I 145 k0) (by simp (disch := omega) only [q_X11_room_, e_X11_room_0, e_X11_room_155, e_X11_room_147, ↓vB lB, ↓vP lP, ↓vT lT, ↓vH lH, ↓vS lS, nr_ok (d + 3) (L := L) lB lP lH s1 c0, if_neg (show ¬ Int32.ofNat 9 = 0 by decide), if_neg (show ¬ Int32.ofNat 9 = 1 by decide), if_neg (show ¬ Int32.ofNat 9 = 2 by decide), if_neg (show ¬ Int32.ofNat 9 = 3 by decide), if_neg (show ¬ Int32.ofNat 9 = 4 by decide), if_neg (show ¬ Int32.ofNat 9 = 5 by decide), if_neg (show ¬ Int32.ofNat 9 = 6 by decide), if_neg (show ¬ Int32.ofNat 9 = 7 by decide), if_neg (show ¬ Int32.ofNat 9 = 8 by decide), if_pos (show Int32.ofNat 9 = 9 by decide), mcV_v, mcV_v]) fun L' => ?_
    simp (disch := omega) only [e_X12_room_31, e_X12_room_172, if_neg (show ¬ Int32.ofNat 9 = 0 by decide), if_neg (show ¬ Int32.ofNat 9 = 1 by decide), if_neg (show ¬ Int32.ofNat 9 = 2 by decide), if_neg (show ¬ Int32.ofNat 9 = 3 by decide), if_neg (show ¬ Int32.ofNat 9 = 4 by decide), if_neg (show ¬ Int32.ofNat 9 = 5 by decide), if_neg (show ¬ Int32.ofNat 9 = 6 by decide), if_neg (show ¬ Int32.ofNat 9 = 7 by decide), if_neg (show ¬ Int32.ofNat 9 = 8 by decide), if_pos (show Int32.ofNat 9 = 9 by decide), ↓vM lM, up_ne, ixA, ixZ, r9]
end
