/-! call: count -/
def ishu (x k : Int32) : Int32 := (Int32.toUInt32 x >>> (Int32.toUInt32 k &&& Int32.toUInt32 31)).toInt32
def ib1 (x : Int32) : Int32 := x - (ishu x 1 &&& 1431655765)
def ib2 (x : Int32) : Int32 := (x &&& 858993459) + (ishu x 2 &&& 858993459)
def ib3 (x : Int32) : Int32 := (x + ishu x 4) &&& 252645135
def ib4 (x : Int32) : Int32 := x + ishu x 8
def ib5 (x : Int32) : Int32 := x + ishu x 16
theorem c_ibc (d : Nat) (x : Int32) (G : mG) (I : Nat → Nat → Int32) (L : Nat → Nat → Int64) : mcal mT (d + 1) 290 [.int x] (G, I, L) = some (.inl (some (.int (ib5 (ib4 (ib3 (ib2 (ib1 x)))) &&& 63))), (G, I, L)) := by
  rw [q_J6_bitCount_0f7a4_, e_J6_bitCount_0f7a4_0]
  rfl
theorem ibc_8 : ∀ j, j < 256 → ib5 (ib4 (ib3 (ib2 (ib1 (Int32.ofNat j))))) &&& 63 = acs (btv (Int32.ofNat j)) 8 := by decide +kernel
theorem ibc_4 : ∀ j, j < 16 → ib5 (ib4 (ib3 (ib2 (ib1 (Int32.ofNat j))))) &&& 63 = acs (btv (Int32.ofNat j)) 4 := by decide +kernel
theorem rng_n {x : Int32} {b : Nat} (h : irng x 0 b) : ∃ j, j < b + 1 ∧ x = Int32.ofNat j := by
  have l := Int32.toInt_lt x
  refine ⟨x.toInt.toNat, by have := h.1; have := h.2; omega, ?_⟩
  apply i_inj
  rw [i_of (by have := h.1; omega)]
  have := h.1
  omega
theorem tap_v {I : Nat → Nat → Int32} {h n k : Nat} : tap I h n k = 0 ∨ tap I h n k = 1 := by
  unfold tap
  by_cases c : k < n
  · rw [if_pos c]
    by_cases c2 : I (h + 12) k = 0
    · rw [if_pos c2]; exact Or.inl rfl
    · rw [if_neg c2]; exact Or.inr rfl
  · rw [if_neg c]; exact Or.inl rfl
section
variable {z h hs bl bs cl cs nr n nh M hN w lc mc kc ta : Nat} {rm pi mk : Nat → Nat} {G : mG} {I : Nat → Nat → Int32} {L : Nat → Nat → Int64}
theorem ca_count (d : Nat) (q : Rel z h hs bl bs cl cs nr n nh M hN w lc mc kc ta rm pi mk G I L) (g1 : G.1 ≤ 252 + z + 25 * kc) (g2 : G.2.1 ≤ 60000 + 6 * z + 4000 * kc) (hz : z + 1 ≤ 512) (x : Int32) : Ste2 (d + 6) 115 288 [.int x] (z + 1) G I L := by
  obtain ⟨lB, lX, lP, -, ⟨lH1, lH2⟩, ⟨lS, -⟩, ⟨lT, -⟩, ⟨lU, -⟩, lD, -, -, lM, ⟨o1, o2⟩, -, hh, -⟩ := id q.1
  have ho := q.2.1
  obtain ⟨s1, s2, s3, s4, s5, s6⟩ := ho_sz ho
  have lH : LayH G h := by
    rcases hh with ⟨a, -⟩ | ⟨a, -⟩
    · rw [a]; exact lH1
    · rw [a]; exact lH2
  have hb : 103 ≤ h ∧ h + 14 ≤ 132 := by omega
  obtain ⟨-, -, ⟨hF, hHN⟩, hS, ⟨hT, hMz⟩, hU, hD, hTp, hEg, hLg, -, -, -, -⟩ := id q
  have z1 : ¬ (1 : Int32) = 0 := by decide
  have I00 : (va_up I 219 (va_up (I 219) 0 0)) 219 0 = 0 := by rw [up_eq, up_eq]
  have I01 : (va_up I 219 (va_up (I 219) 0 0)) 220 = I 220 := up_ne (by decide)
  have ht := ho_tp ho
  have t3 := hT.2.2.1
  have t4 := hT.2.2.2.1
  have hDi := hD.1
  have hMk := q.2.2.2.2.2.2.2.2.2.2.2.2.1.1
  have rq : ∀ X, f_X12_count (d + 5) 0 [.ref 219, .int x, mU, mU] [] (G, I, L) = X → mcal mT (d + 6) 288 [.ref 219, .int x] (G, I, L) = X := fun X p => by rw [q_X12_count_]; exact p
  by_cases c0 : x < 0 ∨ 8 < x
  · have hn : ∀ m, m ≤ 8 → ¬ x = Int32.ofNat m := fun m hm => i_out (n := 8) c0 hm (by decide)
    refine Ste2_q q g1 g2 hz (v := -1) ?_ ?_
    · rw [q_X11_count_, e_X11_count_0]
      simp only [↓if_neg (show ¬ x = 0 from hn 0 (by decide)), ↓if_neg (show ¬ x = 1 from hn 1 (by decide)), ↓if_neg (show ¬ x = 2 from hn 2 (by decide)), ↓if_neg (show ¬ x = 3 from hn 3 (by decide)), ↓if_neg (show ¬ x = 4 from hn 4 (by decide)), ↓if_neg (show ¬ x = 5 from hn 5 (by decide)), ↓if_neg (show ¬ x = 6 from hn 6 (by decide)), ↓if_neg (show ¬ x = 7 from hn 7 (by decide)), ↓if_neg (show ¬ x = 8 from hn 8 (by decide)), e_X11_count_133]
    · rw [q_X12_count_, e_X12_count_0]
      simp only [↓vM lM, ↓if_neg (show ¬ x = 0 from hn 0 (by decide)), ↓if_neg (show ¬ x = 1 from hn 1 (by decide)), ↓if_neg (show ¬ x = 2 from hn 2 (by decide)), ↓if_neg (show ¬ x = 3 from hn 3 (by decide)), ↓if_neg (show ¬ x = 4 from hn 4 (by decide)), ↓if_neg (show ¬ x = 5 from hn 5 (by decide)), ↓if_neg (show ¬ x = 6 from hn 6 (by decide)), ↓if_neg (show ¬ x = 7 from hn 7 (by decide)), ↓if_neg (show ¬ x = 8 from hn 8 (by decide)), up2_e, e_X12_count_212]
  obtain ⟨m, hm, rfl⟩ := i_rng (n := 8) c0 (by decide)
  rcases (show m = 0 ∨ m = 1 ∨ m = 2 ∨ m = 3 ∨ m = 4 ∨ m = 5 ∨ m = 6 ∨ m = 7 ∨ m = 8 by omega) with rfl | rfl | rfl | rfl | rfl | rfl | rfl | rfl | rfl
  · skip
    refine Ste2_q q g1 g2 hz (v := Int32.ofNat lc) ?_ ?_
    · rw [q_X11_count_, e_X11_count_0]
      simp only [↓if_pos (show Int32.ofNat 0 = 0 by decide)]
      simp only [e_X11_count_52, ↓vB lB, hLg.1.1]
    · rw [q_X12_count_, e_X12_count_0]
      simp only [↓vM lM, ↓if_pos (show Int32.ofNat 0 = 0 by decide), up2_e]
      simp (disch := omega) only [e_X12_count_60, ↓vM lM, up_eq, up_ne, hLg.1.2.1]
  · skip
    refine Ste2_q q g1 g2 hz (v := Int32.ofNat mc) ?_ ?_
    · rw [q_X11_count_, e_X11_count_0]
      simp only [↓if_neg (show ¬ Int32.ofNat 1 = 0 by decide), ↓if_pos (show Int32.ofNat 1 = 1 by decide)]
      simp only [e_X11_count_57, ↓vB lB, hMk.1]
    · rw [q_X12_count_, e_X12_count_0]
      simp only [↓vM lM, ↓if_neg (show ¬ Int32.ofNat 1 = 0 by decide), ↓if_pos (show Int32.ofNat 1 = 1 by decide), up2_e]
      simp (disch := omega) only [e_X12_count_65, ↓vM lM, up_eq, up_ne, hMk.2.1]
  · skip
    refine Ste2_q q g1 g2 hz (v := Int32.ofNat ta) ?_ ?_
    · rw [q_X11_count_, e_X11_count_0]
      simp only [↓if_neg (show ¬ Int32.ofNat 2 = 0 by decide), ↓if_neg (show ¬ Int32.ofNat 2 = 1 by decide), ↓if_pos (show Int32.ofNat 2 = 2 by decide)]
      simp only [e_X11_count_62, ↓vB lB, ↓vX lX, hTp.1]
    · rw [q_X12_count_, e_X12_count_0]
      simp only [↓vM lM, ↓if_neg (show ¬ Int32.ofNat 2 = 0 by decide), ↓if_neg (show ¬ Int32.ofNat 2 = 1 by decide), ↓if_pos (show Int32.ofNat 2 = 2 by decide), up2_e]
      simp (disch := omega) only [e_X12_count_70, ↓vM lM, up_eq, up_ne, hTp.2.1]
  · obtain ⟨j, hj, ej⟩ := rng_n (b := 255) (show irng (I 139 1) 0 255 from t3.1)
    have bc := c_ibc (d + 4) (I 139 1) G I L
    have ev : ib5 (ib4 (ib3 (ib2 (ib1 (I 139 1))))) &&& 63 = acs (btv (I 139 1)) 8 := by rw [ej]; exact ibc_8 j hj
    rw [ev] at bc
    have A := loopy (fun i (s : Int32) => f_X12_count (d + 5) 77 [.ref 219, mU, .int s, .int i] [] (G, va_up I 219 (va_up (I 219) 0 0), L)) (fun k => acs (btv (I 139 1)) k) 8 0 rfl (by
      intro k hk
      try dsimp only
      rw [e_X12_count_77, if_neg (show ¬ (8 : Int32) ≤ Int32.ofNat k from i_ng (a := 8) hk (by decide))]
      have e : I 223 (32 + k) = btv (I 139 1) k := t3.2 k hk
      simp (disch := omega) only [↓vM lM, ixA, up_ne, i_one, e]
      rfl)
    try dsimp only at A
    refine Ste2_q q g1 g2 hz (v := acs (btv (I 139 1)) 8) ?_ ?_
    · rw [q_X11_count_, e_X11_count_0]
      simp only [↓if_neg (show ¬ Int32.ofNat 3 = 0 by decide), ↓if_neg (show ¬ Int32.ofNat 3 = 1 by decide), ↓if_neg (show ¬ Int32.ofNat 3 = 2 by decide), ↓if_pos (show Int32.ofNat 3 = 3 by decide)]
      simp only [e_X11_count_70, ↓vB lB, ↓vP lP, ↓vT lT, ↓mcI_of bc]
    · rw [q_X12_count_, e_X12_count_0]
      simp only [↓vM lM, ↓if_neg (show ¬ Int32.ofNat 3 = 0 by decide), ↓if_neg (show ¬ Int32.ofNat 3 = 1 by decide), ↓if_neg (show ¬ Int32.ofNat 3 = 2 by decide), ↓if_pos (show Int32.ofNat 3 = 3 by decide), up2_e]
      rw [e_X12_count_75]
      refine Eq.trans A ?_
      rw [e_X12_count_77, if_pos (by decide), e_X12_count_101]
  · obtain ⟨j, hj, ej⟩ := rng_n (b := 15) (show irng (I 139 2) 0 15 from t4.1)
    have bc := c_ibc (d + 4) (I 139 2) G I L
    have ev : ib5 (ib4 (ib3 (ib2 (ib1 (I 139 2))))) &&& 63 = acs (btv (I 139 2)) 4 := by rw [ej]; exact ibc_4 j hj
    rw [ev] at bc
    have A := loopy (fun i (s : Int32) => f_X12_count (d + 5) 105 [.ref 219, mU, .int s, .int i] [] (G, va_up I 219 (va_up (I 219) 0 0), L)) (fun k => acs (btv (I 139 2)) k) 4 0 rfl (by
      intro k hk
      try dsimp only
      rw [e_X12_count_105, if_neg (show ¬ (4 : Int32) ≤ Int32.ofNat k from i_ng (a := 4) hk (by decide))]
      have e : I 223 (40 + k) = btv (I 139 2) k := t4.2 k hk
      simp (disch := omega) only [↓vM lM, ixA, up_ne, i_one, e]
      rfl)
    try dsimp only at A
    refine Ste2_q q g1 g2 hz (v := acs (btv (I 139 2)) 4) ?_ ?_
    · rw [q_X11_count_, e_X11_count_0]
      simp only [↓if_neg (show ¬ Int32.ofNat 4 = 0 by decide), ↓if_neg (show ¬ Int32.ofNat 4 = 1 by decide), ↓if_neg (show ¬ Int32.ofNat 4 = 2 by decide), ↓if_neg (show ¬ Int32.ofNat 4 = 3 by decide), ↓if_pos (show Int32.ofNat 4 = 4 by decide)]
      simp only [e_X11_count_84, ↓vB lB, ↓vP lP, ↓vT lT, ↓mcI_of bc]
    · rw [q_X12_count_, e_X12_count_0]
      simp only [↓vM lM, ↓if_neg (show ¬ Int32.ofNat 4 = 0 by decide), ↓if_neg (show ¬ Int32.ofNat 4 = 1 by decide), ↓if_neg (show ¬ Int32.ofNat 4 = 2 by decide), ↓if_neg (show ¬ Int32.ofNat 4 = 3 by decide), ↓if_pos (show Int32.ofNat 4 = 4 by decide), up2_e]
      rw [e_X12_count_103]
      refine Eq.trans A ?_
      rw [e_X12_count_105, if_pos (by decide), e_X12_count_128]
  · have A := loopy (fun i (s : Int32) => f_X4_taps (d + 4) 4 [.ref h, .int s, .int i] [] (G, I, L)) (fun k => acs (fun k => tap I h n k) k) n 0 rfl (by
      intro k hk
      try dsimp only
      have t := c_hasTap (d + 3) (G := G) (I := I) (L := L) (n := n) (k := k) lH s4 s6 (by omega)
      rw [e_X4_taps_4]
      simp only [↓vH lH, s4, if_neg (i_ng hk (by omega)), ↓mcI_of t]
      show _ = f_X4_taps (d + 4) 4 [.ref h, .int (acs (fun k => tap I h n k) k + tap I h n k), .int (Int32.ofNat (k + 1))] [] (G, I, L)
      rcases (tap_v (I := I) (h := h) (n := n) (k := k)) with c | c
      · rw [if_pos c, c, Int32.add_zero, e_X4_taps_23, i_one]
      · rw [if_neg (by rw [c]; decide), c, e_X4_taps_23, i_one])
    have B := loopy (fun i (s : Int32) => f_X12_count (d + 5) 132 [.ref 219, mU, .int s, .int i] [] (G, va_up I 219 (va_up (I 219) 0 0), L)) (fun k => acs (fun k => tap I h n k) k) n 0 rfl (by
      intro k hk
      try dsimp only
      have t := r_isTap (d + 3) (G := G) (I := I) (J := va_up I 219 (va_up (I 219) 0 0)) (K := L) (h := h) (n := n) (k := k) lM (by rw [I01]; exact s5) s6 (by rw [I01]; exact ht) (by omega)
      rw [e_X12_count_132]
      simp (disch := omega) only [↓vM lM, ↓mcI_of (r_radiators (d + 4) lM), up_ne, s5, if_neg (i_ng hk (by omega)), ↓mcI_of t]
      show _ = f_X12_count (d + 5) 132 [.ref 219, mU, .int (acs (fun k => tap I h n k) k + tap I h n k), .int (Int32.ofNat (k + 1))] [] _
      rcases (tap_v (I := I) (h := h) (n := n) (k := k)) with c | c
      · rw [if_pos c, c, e_X12_count_153, e_X12_count_154, i_one]
      · rw [if_neg (by rw [c]; decide), c, e_X12_count_154, i_one])
    try dsimp only at A B
    have tq : mcal mT (d + 5) 48 [.ref h] (G, I, L) = some (.inl (some (.int (acs (fun k => tap I h n k) n))), (G, I, L)) := by
      rw [q_X4_taps_, e_X4_taps_0]
      refine Eq.trans A ?_
      rw [e_X4_taps_4]
      simp only [↓vH lH, s4, if_pos i_rf, e_X4_taps_29]
    refine Ste2_q q g1 g2 hz (v := acs (fun k => tap I h n k) n) ?_ ?_
    · rw [q_X11_count_, e_X11_count_0]
      simp only [↓if_neg (show ¬ Int32.ofNat 5 = 0 by decide), ↓if_neg (show ¬ Int32.ofNat 5 = 1 by decide), ↓if_neg (show ¬ Int32.ofNat 5 = 2 by decide), ↓if_neg (show ¬ Int32.ofNat 5 = 3 by decide), ↓if_neg (show ¬ Int32.ofNat 5 = 4 by decide), ↓if_pos (show Int32.ofNat 5 = 5 by decide)]
      simp only [e_X11_count_98, ↓vB lB, ↓vP lP, ↓vH lH, ↓mcI_of tq]
    · rw [q_X12_count_, e_X12_count_0]
      simp only [↓vM lM, ↓if_neg (show ¬ Int32.ofNat 5 = 0 by decide), ↓if_neg (show ¬ Int32.ofNat 5 = 1 by decide), ↓if_neg (show ¬ Int32.ofNat 5 = 2 by decide), ↓if_neg (show ¬ Int32.ofNat 5 = 3 by decide), ↓if_neg (show ¬ Int32.ofNat 5 = 4 by decide), ↓if_pos (show Int32.ofNat 5 = 5 by decide), up2_e]
      rw [e_X12_count_130]
      refine Eq.trans B ?_
      rw [e_X12_count_132]
      simp (disch := omega) only [↓vM lM, ↓mcI_of (r_radiators (d + 4) lM), up_ne, s5, if_pos i_rf, e_X12_count_162]
  · skip
    refine Ste2_q q g1 g2 hz (v := Int32.ofNat hN) ?_ ?_
    · rw [q_X11_count_, e_X11_count_0]
      simp only [↓if_neg (show ¬ Int32.ofNat 6 = 0 by decide), ↓if_neg (show ¬ Int32.ofNat 6 = 1 by decide), ↓if_neg (show ¬ Int32.ofNat 6 = 2 by decide), ↓if_neg (show ¬ Int32.ofNat 6 = 3 by decide), ↓if_neg (show ¬ Int32.ofNat 6 = 4 by decide), ↓if_neg (show ¬ Int32.ofNat 6 = 5 by decide), ↓if_pos (show Int32.ofNat 6 = 6 by decide)]
      simp only [e_X11_count_109, ↓vB lB, ↓vD lD, hDi.1]
    · rw [q_X12_count_, e_X12_count_0]
      simp only [↓vM lM, ↓if_neg (show ¬ Int32.ofNat 6 = 0 by decide), ↓if_neg (show ¬ Int32.ofNat 6 = 1 by decide), ↓if_neg (show ¬ Int32.ofNat 6 = 2 by decide), ↓if_neg (show ¬ Int32.ofNat 6 = 3 by decide), ↓if_neg (show ¬ Int32.ofNat 6 = 4 by decide), ↓if_neg (show ¬ Int32.ofNat 6 = 5 by decide), ↓if_pos (show Int32.ofNat 6 = 6 by decide), up2_e]
      simp (disch := omega) only [e_X12_count_164, ↓vM lM, up_eq, up_ne, hHN]
  · skip
    refine Ste2_q q g1 g2 hz (v := Int32.ofNat nh) ?_ ?_
    · rw [q_X11_count_, e_X11_count_0]
      simp only [↓if_neg (show ¬ Int32.ofNat 7 = 0 by decide), ↓if_neg (show ¬ Int32.ofNat 7 = 1 by decide), ↓if_neg (show ¬ Int32.ofNat 7 = 2 by decide), ↓if_neg (show ¬ Int32.ofNat 7 = 3 by decide), ↓if_neg (show ¬ Int32.ofNat 7 = 4 by decide), ↓if_neg (show ¬ Int32.ofNat 7 = 5 by decide), ↓if_neg (show ¬ Int32.ofNat 7 = 6 by decide), ↓if_pos (show Int32.ofNat 7 = 7 by decide)]
      simp only [e_X11_count_117, ↓vB lB, ↓vP lP, ↓vS lS, hS.2.2.2.2.2.1.1]
    · rw [q_X12_count_, e_X12_count_0]
      simp only [↓vM lM, ↓if_neg (show ¬ Int32.ofNat 7 = 0 by decide), ↓if_neg (show ¬ Int32.ofNat 7 = 1 by decide), ↓if_neg (show ¬ Int32.ofNat 7 = 2 by decide), ↓if_neg (show ¬ Int32.ofNat 7 = 3 by decide), ↓if_neg (show ¬ Int32.ofNat 7 = 4 by decide), ↓if_neg (show ¬ Int32.ofNat 7 = 5 by decide), ↓if_neg (show ¬ Int32.ofNat 7 = 6 by decide), ↓if_pos (show Int32.ofNat 7 = 7 by decide), up2_e]
      simp (disch := omega) only [e_X12_count_169, ↓vM lM, up_eq, up_ne, hS.2.2.2.2.2.1.2.1]
  · have k40 : gK G 217 = 20 ∧ gN G 217 = 40 := lB.2.2.2.2.2.2.2.2.2.2.2.2.2.2.2.2.2.2.1
    have kk : ∀ X, gk G 217 20 X = X := fun X => gk_t k40.1
    have A := loopy (fun i (s : Int32) => f_X11_gaugesThere (d + 4) 4 [.ref 100, .int s, .int i] [] (G, I, L)) (fun k => acs (fun k => if I 240 k = -1 then 0 else 1) k) 40 0 rfl (by
      intro k hk
      try dsimp only
      have e : I 217 k = I 240 k := (hEg.2 k hk).1
      rw [e_X11_gaugesThere_4]
      simp (disch := omega) only [↓vB lB, ↓kk, k40.2, if_neg (i_ng hk (by omega)), e]
      show _ = f_X11_gaugesThere (d + 4) 4 [.ref 100, .int (acs (fun k => if I 240 k = -1 then 0 else 1) k + (if I 240 k = -1 then 0 else 1)), .int (Int32.ofNat (k + 1))] [] (G, I, L)
      by_cases c : I 240 k = -1
      · rw [if_pos c, if_pos c, Int32.add_zero, e_X11_gaugesThere_26, i_one]
      · rw [if_neg c, if_neg c, e_X11_gaugesThere_26, i_one])
    have B := loopy (fun i (s : Int32) => f_X12_count (d + 5) 180 [.ref 219, mU, .int s, .int i] [] (G, va_up I 219 (va_up (I 219) 0 0), L)) (fun k => acs (fun k => if I 240 k = -1 then 0 else 1) k) 40 0 rfl (by
      intro k hk
      try dsimp only
      rw [e_X12_count_180, if_neg (show ¬ (40 : Int32) ≤ Int32.ofNat k from i_ng (a := 40) hk (by decide))]
      simp (disch := omega) only [↓vM lM, up_ne]
      show _ = f_X12_count (d + 5) 180 [.ref 219, mU, .int (acs (fun k => if I 240 k = -1 then 0 else 1) k + (if I 240 k = -1 then 0 else 1)), .int (Int32.ofNat (k + 1))] [] _
      by_cases c : I 240 k = -1
      · rw [if_pos c, if_pos c, e_X12_count_202, i_one]
      · rw [if_neg c, if_neg c, e_X12_count_201, e_X12_count_202, i_one])
    try dsimp only at A B
    have tq : mcal mT (d + 5) 116 [.ref 100] (G, I, L) = some (.inl (some (.int (acs (fun k => if I 240 k = -1 then 0 else 1) 40))), (G, I, L)) := by
      rw [q_X11_gaugesThere_, e_X11_gaugesThere_0]
      refine Eq.trans A ?_
      rw [e_X11_gaugesThere_4]
      simp only [↓vB lB, ↓kk, k40.2, if_pos i_rf, e_X11_gaugesThere_32]
    refine Ste2_q q g1 g2 hz (v := acs (fun k => if I 240 k = -1 then 0 else 1) 40) ?_ ?_
    · rw [q_X11_count_, e_X11_count_0]
      simp only [↓if_neg (show ¬ Int32.ofNat 8 = 0 by decide), ↓if_neg (show ¬ Int32.ofNat 8 = 1 by decide), ↓if_neg (show ¬ Int32.ofNat 8 = 2 by decide), ↓if_neg (show ¬ Int32.ofNat 8 = 3 by decide), ↓if_neg (show ¬ Int32.ofNat 8 = 4 by decide), ↓if_neg (show ¬ Int32.ofNat 8 = 5 by decide), ↓if_neg (show ¬ Int32.ofNat 8 = 6 by decide), ↓if_neg (show ¬ Int32.ofNat 8 = 7 by decide), ↓if_pos (show Int32.ofNat 8 = 8 by decide)]
      simp only [e_X11_count_128, ↓vB lB, ↓mcI_of tq]
    · rw [q_X12_count_, e_X12_count_0]
      simp only [↓vM lM, ↓if_neg (show ¬ Int32.ofNat 8 = 0 by decide), ↓if_neg (show ¬ Int32.ofNat 8 = 1 by decide), ↓if_neg (show ¬ Int32.ofNat 8 = 2 by decide), ↓if_neg (show ¬ Int32.ofNat 8 = 3 by decide), ↓if_neg (show ¬ Int32.ofNat 8 = 4 by decide), ↓if_neg (show ¬ Int32.ofNat 8 = 5 by decide), ↓if_neg (show ¬ Int32.ofNat 8 = 6 by decide), ↓if_neg (show ¬ Int32.ofNat 8 = 7 by decide), ↓if_pos (show Int32.ofNat 8 = 8 by decide), up2_e]
      rw [e_X12_count_178]
      refine Eq.trans B ?_
      rw [e_X12_count_180, if_pos (by decide), e_X12_count_210]
end
