/-! the law: its cases -/
section
variable {z p N : Nat} {G : mG} {I : Nat → Nat → Int32} {L : Nat → Nat → Int64}
theorem RelE_f (h : RelE z G I L) : gK G 0 = 31 ∧ gK G 100 = 12 ∧ LayM G 219 ∧ gK G 251 = 21 ∧ gN G 251 = 1 := by
  obtain ⟨h, hs, bl, bs, cl, cs, nr, n, nh, M, hN', w, lc, mc, kc, ta, rm, pi, mk, ⟨⟨lB, -, -, -, -, -, -, -, -, -, -, lM, ⟨o1, o2⟩, o3, -⟩, -⟩, -⟩ := id h
  exact ⟨o3, lB.1, lM, o1, o2⟩
theorem ip (p : Nat) : Int32.ofNat p + 1 = Int32.ofNat (p + 1) ∧ Int32.ofNat p + 2 = Int32.ofNat (p + 2) ∧ Int32.ofNat p + 3 = Int32.ofNat (p + 3) ∧ Int32.ofNat p + 4 = Int32.ofNat (p + 4) ∧ Int32.ofNat p + 5 = Int32.ofNat (p + 5) := ⟨i_add p 1, i_add p 2, i_add p 3, i_add p 4, i_add p 5⟩
def Lst (d p z N : Nat) (I : Nat → Nat → Int32) (X : Option mO) : Prop := ∃ G' I' L', X = f_L_law d 2808 [.ref 0, .ref 100, .ref 219, .ref 251, .int (Int32.ofNat p), mU, mU] [] (G', I', L') ∧ I' 0 = I 0 ∧ gN G' 0 = N ∧ RelE z G' I' L'
theorem lw_feed (d : Nat) (hE : RelE z G I L) (hz : z + 1 ≤ 512) (hN : gN G 0 = N) (hp : p + 6 ≤ N) (hb : N < 2147483648) : Lst (d + 30) p (z + 1) N I (f_L_law (d + 30) 224 [.ref 0, .ref 100, .ref 219, .ref 251, .int (Int32.ofNat p), mU, mU] [] (G, I, L)) := by
  obtain ⟨k0, k1, -⟩ := RelE_f hE
  obtain ⟨h, hs, bl, bs, cl, cs, nr, n, nh, M, hN', w, lc, mc, kc, ta, rm, pi, mk, q, g1, g2⟩ := hE
  have gp : ∀ j f, j < 6 → gx G 0 31 (Int32.ofNat (p + j)) f = f (p + j) := fun j f hj => gx_t k0 (by omega) (by omega)
  obtain ⟨v, G1, I1, L1, I2, L2, c1, c2, c3, c4, c5, c8⟩ := ca_feed (d + 24) q g1 g2 hz (I 0 (p + 1)) (I 0 (p + 2)) (I 0 (p + 3)) (I 0 (p + 4)) (I 0 (p + 5))
  obtain ⟨e0, -, e2, e3, e4⟩ := RelE_f c8
  have c1' : mcal mT (d + 30) 100 [.ref 100, .int (I 0 (p + 1)), .int (I 0 (p + 2)), .int (I 0 (p + 3)), .int (I 0 (p + 4)), .int (I 0 (p + 5))] (G, I, L) = some (.inl (some (.int v)), (G1, I1, L1)) := c1
  have c4' : mcal mT (d + 30) 178 [.ref 219, .int (I 0 (p + 1)), .int (I 0 (p + 2)), .int (I 0 (p + 3)), .int (I 0 (p + 4)), .int (I 0 (p + 5))] (G1, I1, L1) = some (.inl (some (.int v)), (G1, I2, L2)) := c4
  have gq : ∀ j f, j < 6 → gx G1 0 31 (Int32.ofNat (p + j)) f = f (p + j) := fun j f hj => gx_t e0 (by rw [c3]; omega) (by omega)
  refine ⟨G1, I2, L2, ?_, c5, c3.trans hN, c8⟩
  rw [e_L_law_224]
  simp (disch := decide) only [ip, ↓gp, ↓gk_t k1, ↓mcI_of c1', ↓gq, ↓gk_t e2.1, c2, ↓mcI_of c4', if_true]
theorem lw_house (d : Nat) (hE : RelE z G I L) (hz : z + 1 ≤ 512) (hN : gN G 0 = N) (hp : p + 6 ≤ N) (hb : N < 2147483648) : Lst (d + 30) p (z + 1) N I (f_L_law (d + 30) 297 [.ref 0, .ref 100, .ref 219, .ref 251, .int (Int32.ofNat p), mU, mU] [] (G, I, L)) := by
  obtain ⟨k0, k1, -⟩ := RelE_f hE
  obtain ⟨h, hs, bl, bs, cl, cs, nr, n, nh, M, hN', w, lc, mc, kc, ta, rm, pi, mk, q, g1, g2⟩ := hE
  have gp : ∀ j f, j < 6 → gx G 0 31 (Int32.ofNat (p + j)) f = f (p + j) := fun j f hj => gx_t k0 (by omega) (by omega)
  obtain ⟨k, b, G1, I1, L1, I2, L2, c1, c2, c3, c4, c5, c6, c7, c8⟩ := ca_house (d + 19) q g1 g2 hz (I 0 (p + 1))
  obtain ⟨e0, -, e2, e3, e4⟩ := RelE_f c8
  have c1' : mcal mT (d + 30) 294 [.ref 100, .int (I 0 (p + 1)), .ref 251] (G, I, L) = some (.inl (some (.int k)), (G1, I1, L1)) := c1
  have c4' : mcal mT (d + 30) 197 [.ref 219, .int (I 0 (p + 1))] (G1, I1, L1) = some (.inl (some (.int b)), (G1, I2, L2)) := c4
  have gq : ∀ j f, j < 6 → gx G1 0 31 (Int32.ofNat (p + j)) f = f (p + j) := fun j f hj => gx_t e0 (by rw [c3]; omega) (by omega)
  have t := r_thrown (d + 29) (I := I2) (L := L2) e2
  rw [c6] at t
  refine ⟨G1, I2, L2, ?_, c5, c3.trans hN, c8⟩
  rw [e_L_law_297]
  simp (disch := decide) only [ip, ↓gp, ↓gk_t k1, ↓mcI_of c1', ↓gq, ↓gk_t e2.1, c2, ↓mcI_of c4', ↓mcI_of t, if_true]
  rw [e_L_law_333]
  by_cases z0 : k = 0
  · have g0 : ∀ f, gx G1 251 21 0 f = f 0 := fun f => gx_t (j := 0) e3 (by omega) (by decide)
    simp only [if_pos z0, ↓g0, if_pos (lc_0.mpr (c7 z0)), e_L_law_350]
  · rw [if_neg z0, e_L_law_350]
theorem lw_words (d : Nat) (hE : RelE z G I L) (hz : z + 1 ≤ 512) (hN : gN G 0 = N) (hp : p + 6 ≤ N) (hb : N < 2147483648) : Lst (d + 30) p (z + 1) N I (f_L_law (d + 30) 353 [.ref 0, .ref 100, .ref 219, .ref 251, .int (Int32.ofNat p), mU, mU] [] (G, I, L)) := by
  obtain ⟨k0, k1, -⟩ := RelE_f hE
  obtain ⟨h, hs, bl, bs, cl, cs, nr, n, nh, M, hN', w, lc, mc, kc, ta, rm, pi, mk, q, g1, g2⟩ := hE
  have gp : ∀ j f, j < 6 → gx G 0 31 (Int32.ofNat (p + j)) f = f (p + j) := fun j f hj => gx_t k0 (by omega) (by omega)
  obtain ⟨k, b, G1, I1, L1, I2, L2, c1, c2, c3, c4, c5, c6, c7, c8⟩ := ca_words (d + 1) q g1 g2 hz (I 0 (p + 1))
  obtain ⟨e0, -, e2, e3, e4⟩ := RelE_f c8
  have c1' : mcal mT (d + 30) 295 [.ref 100, .int (I 0 (p + 1)), .ref 251] (G, I, L) = some (.inl (some (.int k)), (G1, I1, L1)) := c1
  have c4' : mcal mT (d + 30) 264 [.ref 219, .int (I 0 (p + 1))] (G1, I1, L1) = some (.inl (some (.int b)), (G1, I2, L2)) := c4
  have gq : ∀ j f, j < 6 → gx G1 0 31 (Int32.ofNat (p + j)) f = f (p + j) := fun j f hj => gx_t e0 (by rw [c3]; omega) (by omega)
  have t := r_thrown (d + 29) (I := I2) (L := L2) e2
  rw [c6] at t
  refine ⟨G1, I2, L2, ?_, c5, c3.trans hN, c8⟩
  rw [e_L_law_353]
  simp (disch := decide) only [ip, ↓gp, ↓gk_t k1, ↓mcI_of c1', ↓gq, ↓gk_t e2.1, c2, ↓mcI_of c4', ↓mcI_of t, if_true]
  rw [e_L_law_389]
  by_cases z0 : k = 0
  · have g0 : ∀ f, gx G1 251 21 0 f = f 0 := fun f => gx_t (j := 0) e3 (by omega) (by decide)
    simp only [if_pos z0, ↓g0, if_pos (lc_0.mpr (c7 z0)), e_L_law_406]
  · rw [if_neg z0, e_L_law_406]
theorem lw_fault (d : Nat) (hE : RelE z G I L) (hz : z + 1 ≤ 512) (hN : gN G 0 = N) (hp : p + 6 ≤ N) (hb : N < 2147483648) : Lst (d + 30) p (z + 1) N I (f_L_law (d + 30) 409 [.ref 0, .ref 100, .ref 219, .ref 251, .int (Int32.ofNat p), mU, mU] [] (G, I, L)) := by
  obtain ⟨k0, k1, -⟩ := RelE_f hE
  obtain ⟨h, hs, bl, bs, cl, cs, nr, n, nh, M, hN', w, lc, mc, kc, ta, rm, pi, mk, q, g1, g2⟩ := hE
  have gp : ∀ j f, j < 6 → gx G 0 31 (Int32.ofNat (p + j)) f = f (p + j) := fun j f hj => gx_t k0 (by omega) (by omega)
  obtain ⟨v, G1, I1, L1, I2, L2, c1, c2, c3, c4, c5, c8⟩ := ca_fault (d + 24) q g1 g2 hz 
  obtain ⟨e0, -, e2, e3, e4⟩ := RelE_f c8
  have c1' : mcal mT (d + 30) 104 [.ref 100] (G, I, L) = some (.inl (some (.int v)), (G1, I1, L1)) := c1
  have c4' : mcal mT (d + 30) 198 [.ref 219] (G1, I1, L1) = some (.inl (some (.int v)), (G1, I2, L2)) := c4
  have gq : ∀ j f, j < 6 → gx G1 0 31 (Int32.ofNat (p + j)) f = f (p + j) := fun j f hj => gx_t e0 (by rw [c3]; omega) (by omega)
  refine ⟨G1, I2, L2, ?_, c5, c3.trans hN, c8⟩
  rw [e_L_law_409]
  simp (disch := decide) only [ip, ↓gp, ↓gk_t k1, ↓mcI_of c1', ↓gq, ↓gk_t e2.1, c2, ↓mcI_of c4', if_true]
theorem lw_told (d : Nat) (hE : RelE z G I L) (hz : z + 1 ≤ 512) (hN : gN G 0 = N) (hp : p + 6 ≤ N) (hb : N < 2147483648) : Lst (d + 30) p (z + 1) N I (f_L_law (d + 30) 422 [.ref 0, .ref 100, .ref 219, .ref 251, .int (Int32.ofNat p), mU, mU] [] (G, I, L)) := by
  obtain ⟨k0, k1, -⟩ := RelE_f hE
  obtain ⟨h, hs, bl, bs, cl, cs, nr, n, nh, M, hN', w, lc, mc, kc, ta, rm, pi, mk, q, g1, g2⟩ := hE
  have gp : ∀ j f, j < 6 → gx G 0 31 (Int32.ofNat (p + j)) f = f (p + j) := fun j f hj => gx_t k0 (by omega) (by omega)
  obtain ⟨k, b, G1, I1, L1, I2, L2, c1, c2, c3, c4, c5, c6, c7, c8⟩ := ca_told (d + 27) q g1 g2 hz (I 0 (p + 1))
  obtain ⟨e0, -, e2, e3, e4⟩ := RelE_f c8
  have c1' : mcal mT (d + 30) 296 [.ref 100, .int (I 0 (p + 1)), .ref 251] (G, I, L) = some (.inl (some (.int k)), (G1, I1, L1)) := c1
  have c4' : mcal mT (d + 30) 201 [.ref 219, .int (I 0 (p + 1))] (G1, I1, L1) = some (.inl (some (.int b)), (G1, I2, L2)) := c4
  have gq : ∀ j f, j < 6 → gx G1 0 31 (Int32.ofNat (p + j)) f = f (p + j) := fun j f hj => gx_t e0 (by rw [c3]; omega) (by omega)
  have t := r_thrown (d + 29) (I := I2) (L := L2) e2
  rw [c6] at t
  refine ⟨G1, I2, L2, ?_, c5, c3.trans hN, c8⟩
  rw [e_L_law_422]
  simp (disch := decide) only [ip, ↓gp, ↓gk_t k1, ↓mcI_of c1', ↓gq, ↓gk_t e2.1, c2, ↓mcI_of c4', ↓mcI_of t, if_true]
  rw [e_L_law_458]
  by_cases z0 : k = 0
  · have g0 : ∀ f, gx G1 251 21 0 f = f 0 := fun f => gx_t (j := 0) e3 (by omega) (by decide)
    simp only [if_pos z0, ↓g0, if_pos (lc_0.mpr (c7 z0)), e_L_law_475]
  · rw [if_neg z0, e_L_law_475]
theorem lw_room (d : Nat) (hE : RelE z G I L) (hz : z + 1 ≤ 512) (hN : gN G 0 = N) (hp : p + 6 ≤ N) (hb : N < 2147483648) : Lst (d + 30) p (z + 1) N I (f_L_law (d + 30) 478 [.ref 0, .ref 100, .ref 219, .ref 251, .int (Int32.ofNat p), mU, mU] [] (G, I, L)) := by
  obtain ⟨k0, k1, -⟩ := RelE_f hE
  obtain ⟨h, hs, bl, bs, cl, cs, nr, n, nh, M, hN', w, lc, mc, kc, ta, rm, pi, mk, q, g1, g2⟩ := hE
  have gp : ∀ j f, j < 6 → gx G 0 31 (Int32.ofNat (p + j)) f = f (p + j) := fun j f hj => gx_t k0 (by omega) (by omega)
  obtain ⟨k, b, G1, I1, L1, I2, L2, c1, c2, c3, c4, c5, c6, c7, c8⟩ := ca_room (d + 24) q g1 g2 hz (I 0 (p + 1)) (I 0 (p + 2))
  obtain ⟨e0, -, e2, e3, e4⟩ := RelE_f c8
  have c1' : mcal mT (d + 30) 297 [.ref 100, .int (I 0 (p + 1)), .int (I 0 (p + 2)), .ref 251] (G, I, L) = some (.inl (some (.int k)), (G1, I1, L1)) := c1
  have c4' : mcal mT (d + 30) 233 [.ref 219, .int (I 0 (p + 1)), .int (I 0 (p + 2))] (G1, I1, L1) = some (.inl (some (.int b)), (G1, I2, L2)) := c4
  have gq : ∀ j f, j < 6 → gx G1 0 31 (Int32.ofNat (p + j)) f = f (p + j) := fun j f hj => gx_t e0 (by rw [c3]; omega) (by omega)
  have t := r_thrown (d + 29) (I := I2) (L := L2) e2
  rw [c6] at t
  refine ⟨G1, I2, L2, ?_, c5, c3.trans hN, c8⟩
  rw [e_L_law_478]
  simp (disch := decide) only [ip, ↓gp, ↓gk_t k1, ↓mcI_of c1', ↓gq, ↓gk_t e2.1, c2, ↓mcI_of c4', ↓mcI_of t, if_true]
  rw [e_L_law_526]
  by_cases z0 : k = 0
  · have g0 : ∀ f, gx G1 251 21 0 f = f 0 := fun f => gx_t (j := 0) e3 (by omega) (by decide)
    simp only [if_pos z0, ↓g0, if_pos (lc_0.mpr (c7 z0)), e_L_law_543]
  · rw [if_neg z0, e_L_law_543]
theorem lw_wall (d : Nat) (hE : RelE z G I L) (hz : z + 1 ≤ 512) (hN : gN G 0 = N) (hp : p + 6 ≤ N) (hb : N < 2147483648) : Lst (d + 30) p (z + 1) N I (f_L_law (d + 30) 546 [.ref 0, .ref 100, .ref 219, .ref 251, .int (Int32.ofNat p), mU, mU] [] (G, I, L)) := by
  obtain ⟨k0, k1, -⟩ := RelE_f hE
  obtain ⟨h, hs, bl, bs, cl, cs, nr, n, nh, M, hN', w, lc, mc, kc, ta, rm, pi, mk, q, g1, g2⟩ := hE
  have gp : ∀ j f, j < 6 → gx G 0 31 (Int32.ofNat (p + j)) f = f (p + j) := fun j f hj => gx_t k0 (by omega) (by omega)
  obtain ⟨k, b, G1, I1, L1, I2, L2, c1, c2, c3, c4, c5, c6, c7, c8⟩ := ca_wall (d + 24) q g1 g2 hz (I 0 (p + 1)) (I 0 (p + 2))
  obtain ⟨e0, -, e2, e3, e4⟩ := RelE_f c8
  have c1' : mcal mT (d + 30) 298 [.ref 100, .int (I 0 (p + 1)), .int (I 0 (p + 2)), .ref 251] (G, I, L) = some (.inl (some (.int k)), (G1, I1, L1)) := c1
  have c4' : mcal mT (d + 30) 234 [.ref 219, .int (I 0 (p + 1)), .int (I 0 (p + 2))] (G1, I1, L1) = some (.inl (some (.int b)), (G1, I2, L2)) := c4
  have gq : ∀ j f, j < 6 → gx G1 0 31 (Int32.ofNat (p + j)) f = f (p + j) := fun j f hj => gx_t e0 (by rw [c3]; omega) (by omega)
  have t := r_thrown (d + 29) (I := I2) (L := L2) e2
  rw [c6] at t
  refine ⟨G1, I2, L2, ?_, c5, c3.trans hN, c8⟩
  rw [e_L_law_546]
  simp (disch := decide) only [ip, ↓gp, ↓gk_t k1, ↓mcI_of c1', ↓gq, ↓gk_t e2.1, c2, ↓mcI_of c4', ↓mcI_of t, if_true]
  rw [e_L_law_594]
  by_cases z0 : k = 0
  · have g0 : ∀ f, gx G1 251 21 0 f = f 0 := fun f => gx_t (j := 0) e3 (by omega) (by decide)
    simp only [if_pos z0, ↓g0, if_pos (lc_0.mpr (c7 z0)), e_L_law_611]
  · rw [if_neg z0, e_L_law_611]
theorem lw_radiator (d : Nat) (hE : RelE z G I L) (hz : z + 1 ≤ 512) (hN : gN G 0 = N) (hp : p + 6 ≤ N) (hb : N < 2147483648) : Lst (d + 30) p (z + 1) N I (f_L_law (d + 30) 614 [.ref 0, .ref 100, .ref 219, .ref 251, .int (Int32.ofNat p), mU, mU] [] (G, I, L)) := by
  obtain ⟨k0, k1, -⟩ := RelE_f hE
  obtain ⟨h, hs, bl, bs, cl, cs, nr, n, nh, M, hN', w, lc, mc, kc, ta, rm, pi, mk, q, g1, g2⟩ := hE
  have gp : ∀ j f, j < 6 → gx G 0 31 (Int32.ofNat (p + j)) f = f (p + j) := fun j f hj => gx_t k0 (by omega) (by omega)
  obtain ⟨k, b, G1, I1, L1, I2, L2, c1, c2, c3, c4, c5, c6, c7, c8⟩ := ca_radiator (d + 24) q g1 g2 hz (I 0 (p + 1)) (I 0 (p + 2))
  obtain ⟨e0, -, e2, e3, e4⟩ := RelE_f c8
  have c1' : mcal mT (d + 30) 299 [.ref 100, .int (I 0 (p + 1)), .int (I 0 (p + 2)), .ref 251] (G, I, L) = some (.inl (some (.int k)), (G1, I1, L1)) := c1
  have c4' : mcal mT (d + 30) 237 [.ref 219, .int (I 0 (p + 1)), .int (I 0 (p + 2))] (G1, I1, L1) = some (.inl (some (.int b)), (G1, I2, L2)) := c4
  have gq : ∀ j f, j < 6 → gx G1 0 31 (Int32.ofNat (p + j)) f = f (p + j) := fun j f hj => gx_t e0 (by rw [c3]; omega) (by omega)
  have t := r_thrown (d + 29) (I := I2) (L := L2) e2
  rw [c6] at t
  refine ⟨G1, I2, L2, ?_, c5, c3.trans hN, c8⟩
  rw [e_L_law_614]
  simp (disch := decide) only [ip, ↓gp, ↓gk_t k1, ↓mcI_of c1', ↓gq, ↓gk_t e2.1, c2, ↓mcI_of c4', ↓mcI_of t, if_true]
  rw [e_L_law_662]
  by_cases z0 : k = 0
  · have g0 : ∀ f, gx G1 251 21 0 f = f 0 := fun f => gx_t (j := 0) e3 (by omega) (by decide)
    simp only [if_pos z0, ↓g0, if_pos (lc_0.mpr (c7 z0)), e_L_law_679]
  · rw [if_neg z0, e_L_law_679]
theorem lw_out (d : Nat) (hE : RelE z G I L) (hz : z + 1 ≤ 512) (hN : gN G 0 = N) (hp : p + 6 ≤ N) (hb : N < 2147483648) : Lst (d + 30) p (z + 1) N I (f_L_law (d + 30) 682 [.ref 0, .ref 100, .ref 219, .ref 251, .int (Int32.ofNat p), mU, mU] [] (G, I, L)) := by
  obtain ⟨k0, k1, -⟩ := RelE_f hE
  obtain ⟨h, hs, bl, bs, cl, cs, nr, n, nh, M, hN', w, lc, mc, kc, ta, rm, pi, mk, q, g1, g2⟩ := hE
  have gp : ∀ j f, j < 6 → gx G 0 31 (Int32.ofNat (p + j)) f = f (p + j) := fun j f hj => gx_t k0 (by omega) (by omega)
  obtain ⟨k, b, G1, I1, L1, I2, L2, c1, c2, c3, c4, c5, c6, c7, c8⟩ := ca_out (d + 24) q g1 g2 hz (I 0 (p + 1)) (I 0 (p + 2))
  obtain ⟨e0, -, e2, e3, e4⟩ := RelE_f c8
  have c1' : mcal mT (d + 30) 300 [.ref 100, .int (I 0 (p + 1)), .int (I 0 (p + 2)), .ref 251] (G, I, L) = some (.inl (some (.int k)), (G1, I1, L1)) := c1
  have c4' : mcal mT (d + 30) 238 [.ref 219, .int (I 0 (p + 1)), .int (I 0 (p + 2))] (G1, I1, L1) = some (.inl (some (.int b)), (G1, I2, L2)) := c4
  have gq : ∀ j f, j < 6 → gx G1 0 31 (Int32.ofNat (p + j)) f = f (p + j) := fun j f hj => gx_t e0 (by rw [c3]; omega) (by omega)
  have t := r_thrown (d + 29) (I := I2) (L := L2) e2
  rw [c6] at t
  refine ⟨G1, I2, L2, ?_, c5, c3.trans hN, c8⟩
  rw [e_L_law_682]
  simp (disch := decide) only [ip, ↓gp, ↓gk_t k1, ↓mcI_of c1', ↓gq, ↓gk_t e2.1, c2, ↓mcI_of c4', ↓mcI_of t, if_true]
  rw [e_L_law_730]
  by_cases z0 : k = 0
  · have g0 : ∀ f, gx G1 251 21 0 f = f 0 := fun f => gx_t (j := 0) e3 (by omega) (by decide)
    simp only [if_pos z0, ↓g0, if_pos (lc_0.mpr (c7 z0)), e_L_law_747]
  · rw [if_neg z0, e_L_law_747]
theorem lw_screw (d : Nat) (hE : RelE z G I L) (hz : z + 1 ≤ 512) (hN : gN G 0 = N) (hp : p + 6 ≤ N) (hb : N < 2147483648) : Lst (d + 30) p (z + 1) N I (f_L_law (d + 30) 750 [.ref 0, .ref 100, .ref 219, .ref 251, .int (Int32.ofNat p), mU, mU] [] (G, I, L)) := by
  obtain ⟨k0, k1, -⟩ := RelE_f hE
  obtain ⟨h, hs, bl, bs, cl, cs, nr, n, nh, M, hN', w, lc, mc, kc, ta, rm, pi, mk, q, g1, g2⟩ := hE
  have gp : ∀ j f, j < 6 → gx G 0 31 (Int32.ofNat (p + j)) f = f (p + j) := fun j f hj => gx_t k0 (by omega) (by omega)
  obtain ⟨k, b, G1, I1, L1, I2, L2, c1, c2, c3, c4, c5, c6, c7, c8⟩ := ca_screw (d + 24) q g1 g2 hz (I 0 (p + 1)) (I 0 (p + 2))
  obtain ⟨e0, -, e2, e3, e4⟩ := RelE_f c8
  have c1' : mcal mT (d + 30) 301 [.ref 100, .int (I 0 (p + 1)), .int (I 0 (p + 2)), .ref 251] (G, I, L) = some (.inl (some (.int k)), (G1, I1, L1)) := c1
  have c4' : mcal mT (d + 30) 239 [.ref 219, .int (I 0 (p + 1)), .int (I 0 (p + 2))] (G1, I1, L1) = some (.inl (some (.int b)), (G1, I2, L2)) := c4
  have gq : ∀ j f, j < 6 → gx G1 0 31 (Int32.ofNat (p + j)) f = f (p + j) := fun j f hj => gx_t e0 (by rw [c3]; omega) (by omega)
  have t := r_thrown (d + 29) (I := I2) (L := L2) e2
  rw [c6] at t
  refine ⟨G1, I2, L2, ?_, c5, c3.trans hN, c8⟩
  rw [e_L_law_750]
  simp (disch := decide) only [ip, ↓gp, ↓gk_t k1, ↓mcI_of c1', ↓gq, ↓gk_t e2.1, c2, ↓mcI_of c4', ↓mcI_of t, if_true]
  rw [e_L_law_798]
  by_cases z0 : k = 0
  · have g0 : ∀ f, gx G1 251 21 0 f = f 0 := fun f => gx_t (j := 0) e3 (by omega) (by decide)
    simp only [if_pos z0, ↓g0, if_pos (lc_0.mpr (c7 z0)), e_L_law_815]
  · rw [if_neg z0, e_L_law_815]
theorem lw_open (d : Nat) (hE : RelE z G I L) (hz : z + 1 ≤ 512) (hN : gN G 0 = N) (hp : p + 6 ≤ N) (hb : N < 2147483648) : Lst (d + 30) p (z + 1) N I (f_L_law (d + 30) 818 [.ref 0, .ref 100, .ref 219, .ref 251, .int (Int32.ofNat p), mU, mU] [] (G, I, L)) := by
  obtain ⟨k0, k1, -⟩ := RelE_f hE
  obtain ⟨h, hs, bl, bs, cl, cs, nr, n, nh, M, hN', w, lc, mc, kc, ta, rm, pi, mk, q, g1, g2⟩ := hE
  have gp : ∀ j f, j < 6 → gx G 0 31 (Int32.ofNat (p + j)) f = f (p + j) := fun j f hj => gx_t k0 (by omega) (by omega)
  by_cases y0 : I 0 (p + 2) = 0
  · obtain ⟨k, b, G1, I1, L1, I2, L2, c1, c2, c3, c4, c5, c6, c7, c8⟩ := ca_open (d + 24) q g1 g2 hz (I 0 (p + 1)) 0
    obtain ⟨e0, -, e2, e3, e4⟩ := RelE_f c8
    have c1' : mcal mT (d + 30) 302 [.ref 100, .int (I 0 (p + 1)), .int 0, .ref 251] (G, I, L) = some (.inl (some (.int k)), (G1, I1, L1)) := c1
    have c4' : mcal mT (d + 30) 240 [.ref 219, .int (I 0 (p + 1)), .int 0] (G1, I1, L1) = some (.inl (some (.int b)), (G1, I2, L2)) := c4
    have gq : ∀ j f, j < 6 → gx G1 0 31 (Int32.ofNat (p + j)) f = f (p + j) := fun j f hj => gx_t e0 (by rw [c3]; omega) (by omega)
    have t := r_thrown (d + 29) (I := I2) (L := L2) e2
    rw [c6] at t
    refine ⟨G1, I2, L2, ?_, c5, c3.trans hN, c8⟩
    rw [e_L_law_818]
    simp (disch := decide) only [ip, ↓gp, ↓gk_t k1, if_pos y0, e_L_law_838, e_L_law_839, ↓mcI_of c1', ↓gq, ↓gk_t e2.1, c2, if_pos y0, e_L_law_865, e_L_law_866, ↓mcI_of c4', ↓mcI_of t, if_true]
    rw [e_L_law_882]
    by_cases z0 : k = 0
    · have g0 : ∀ f, gx G1 251 21 0 f = f 0 := fun f => gx_t (j := 0) e3 (by omega) (by decide)
      by_cases b0 : b = 0
      · have l : L2 251 0 = 0 := by rw [c7 z0, if_pos b0]
        simp only [if_pos z0, ↓g0, if_pos b0, e_L_law_899, e_L_law_900, if_pos (lc_0.mpr l), e_L_law_906]
      · have l : L2 251 0 = 1 := by rw [c7 z0, if_neg b0]
        simp only [if_pos z0, ↓g0, if_neg b0, e_L_law_900, if_pos (lc_0.mpr l), e_L_law_906]
    · rw [if_neg z0, e_L_law_906]
  · obtain ⟨k, b, G1, I1, L1, I2, L2, c1, c2, c3, c4, c5, c6, c7, c8⟩ := ca_open (d + 24) q g1 g2 hz (I 0 (p + 1)) 1
    obtain ⟨e0, -, e2, e3, e4⟩ := RelE_f c8
    have c1' : mcal mT (d + 30) 302 [.ref 100, .int (I 0 (p + 1)), .int 1, .ref 251] (G, I, L) = some (.inl (some (.int k)), (G1, I1, L1)) := c1
    have c4' : mcal mT (d + 30) 240 [.ref 219, .int (I 0 (p + 1)), .int 1] (G1, I1, L1) = some (.inl (some (.int b)), (G1, I2, L2)) := c4
    have gq : ∀ j f, j < 6 → gx G1 0 31 (Int32.ofNat (p + j)) f = f (p + j) := fun j f hj => gx_t e0 (by rw [c3]; omega) (by omega)
    have t := r_thrown (d + 29) (I := I2) (L := L2) e2
    rw [c6] at t
    refine ⟨G1, I2, L2, ?_, c5, c3.trans hN, c8⟩
    rw [e_L_law_818]
    simp (disch := decide) only [ip, ↓gp, ↓gk_t k1, if_neg y0, e_L_law_839, ↓mcI_of c1', ↓gq, ↓gk_t e2.1, c2, if_neg y0, e_L_law_866, ↓mcI_of c4', ↓mcI_of t, if_true]
    rw [e_L_law_882]
    by_cases z0 : k = 0
    · have g0 : ∀ f, gx G1 251 21 0 f = f 0 := fun f => gx_t (j := 0) e3 (by omega) (by decide)
      by_cases b0 : b = 0
      · have l : L2 251 0 = 0 := by rw [c7 z0, if_pos b0]
        simp only [if_pos z0, ↓g0, if_pos b0, e_L_law_899, e_L_law_900, if_pos (lc_0.mpr l), e_L_law_906]
      · have l : L2 251 0 = 1 := by rw [c7 z0, if_neg b0]
        simp only [if_pos z0, ↓g0, if_neg b0, e_L_law_900, if_pos (lc_0.mpr l), e_L_law_906]
    · rw [if_neg z0, e_L_law_906]
theorem lw_air (d : Nat) (hE : RelE z G I L) (hz : z + 1 ≤ 512) (hN : gN G 0 = N) (hp : p + 6 ≤ N) (hb : N < 2147483648) : Lst (d + 30) p (z + 1) N I (f_L_law (d + 30) 909 [.ref 0, .ref 100, .ref 219, .ref 251, .int (Int32.ofNat p), mU, mU] [] (G, I, L)) := by
  obtain ⟨k0, k1, -⟩ := RelE_f hE
  obtain ⟨h, hs, bl, bs, cl, cs, nr, n, nh, M, hN', w, lc, mc, kc, ta, rm, pi, mk, q, g1, g2⟩ := hE
  have gp : ∀ j f, j < 6 → gx G 0 31 (Int32.ofNat (p + j)) f = f (p + j) := fun j f hj => gx_t k0 (by omega) (by omega)
  by_cases y0 : I 0 (p + 2) = 0
  · obtain ⟨k, b, G1, I1, L1, I2, L2, c1, c2, c3, c4, c5, c6, c7, c8⟩ := ca_air (d + 24) q g1 g2 hz (I 0 (p + 1)) 0
    obtain ⟨e0, -, e2, e3, e4⟩ := RelE_f c8
    have c1' : mcal mT (d + 30) 303 [.ref 100, .int (I 0 (p + 1)), .int 0, .ref 251] (G, I, L) = some (.inl (some (.int k)), (G1, I1, L1)) := c1
    have c4' : mcal mT (d + 30) 241 [.ref 219, .int (I 0 (p + 1)), .int 0] (G1, I1, L1) = some (.inl (some (.int b)), (G1, I2, L2)) := c4
    have gq : ∀ j f, j < 6 → gx G1 0 31 (Int32.ofNat (p + j)) f = f (p + j) := fun j f hj => gx_t e0 (by rw [c3]; omega) (by omega)
    have t := r_thrown (d + 29) (I := I2) (L := L2) e2
    rw [c6] at t
    refine ⟨G1, I2, L2, ?_, c5, c3.trans hN, c8⟩
    rw [e_L_law_909]
    simp (disch := decide) only [ip, ↓gp, ↓gk_t k1, if_pos y0, e_L_law_929, e_L_law_930, ↓mcI_of c1', ↓gq, ↓gk_t e2.1, c2, if_pos y0, e_L_law_956, e_L_law_957, ↓mcI_of c4', ↓mcI_of t, if_true]
    rw [e_L_law_973]
    by_cases z0 : k = 0
    · have g0 : ∀ f, gx G1 251 21 0 f = f 0 := fun f => gx_t (j := 0) e3 (by omega) (by decide)
      by_cases b0 : b = 0
      · have l : L2 251 0 = 0 := by rw [c7 z0, if_pos b0]
        simp only [if_pos z0, ↓g0, if_pos b0, e_L_law_990, e_L_law_991, if_pos (lc_0.mpr l), e_L_law_997]
      · have l : L2 251 0 = 1 := by rw [c7 z0, if_neg b0]
        simp only [if_pos z0, ↓g0, if_neg b0, e_L_law_991, if_pos (lc_0.mpr l), e_L_law_997]
    · rw [if_neg z0, e_L_law_997]
  · obtain ⟨k, b, G1, I1, L1, I2, L2, c1, c2, c3, c4, c5, c6, c7, c8⟩ := ca_air (d + 24) q g1 g2 hz (I 0 (p + 1)) 1
    obtain ⟨e0, -, e2, e3, e4⟩ := RelE_f c8
    have c1' : mcal mT (d + 30) 303 [.ref 100, .int (I 0 (p + 1)), .int 1, .ref 251] (G, I, L) = some (.inl (some (.int k)), (G1, I1, L1)) := c1
    have c4' : mcal mT (d + 30) 241 [.ref 219, .int (I 0 (p + 1)), .int 1] (G1, I1, L1) = some (.inl (some (.int b)), (G1, I2, L2)) := c4
    have gq : ∀ j f, j < 6 → gx G1 0 31 (Int32.ofNat (p + j)) f = f (p + j) := fun j f hj => gx_t e0 (by rw [c3]; omega) (by omega)
    have t := r_thrown (d + 29) (I := I2) (L := L2) e2
    rw [c6] at t
    refine ⟨G1, I2, L2, ?_, c5, c3.trans hN, c8⟩
    rw [e_L_law_909]
    simp (disch := decide) only [ip, ↓gp, ↓gk_t k1, if_neg y0, e_L_law_930, ↓mcI_of c1', ↓gq, ↓gk_t e2.1, c2, if_neg y0, e_L_law_957, ↓mcI_of c4', ↓mcI_of t, if_true]
    rw [e_L_law_973]
    by_cases z0 : k = 0
    · have g0 : ∀ f, gx G1 251 21 0 f = f 0 := fun f => gx_t (j := 0) e3 (by omega) (by decide)
      by_cases b0 : b = 0
      · have l : L2 251 0 = 0 := by rw [c7 z0, if_pos b0]
        simp only [if_pos z0, ↓g0, if_pos b0, e_L_law_990, e_L_law_991, if_pos (lc_0.mpr l), e_L_law_997]
      · have l : L2 251 0 = 1 := by rw [c7 z0, if_neg b0]
        simp only [if_pos z0, ↓g0, if_neg b0, e_L_law_991, if_pos (lc_0.mpr l), e_L_law_997]
    · rw [if_neg z0, e_L_law_997]
theorem lw_night (d : Nat) (hE : RelE z G I L) (hz : z + 1 ≤ 512) (hN : gN G 0 = N) (hp : p + 6 ≤ N) (hb : N < 2147483648) : Lst (d + 30) p (z + 1) N I (f_L_law (d + 30) 1000 [.ref 0, .ref 100, .ref 219, .ref 251, .int (Int32.ofNat p), mU, mU] [] (G, I, L)) := by
  obtain ⟨k0, k1, -⟩ := RelE_f hE
  obtain ⟨h, hs, bl, bs, cl, cs, nr, n, nh, M, hN', w, lc, mc, kc, ta, rm, pi, mk, q, g1, g2⟩ := hE
  have gp : ∀ j f, j < 6 → gx G 0 31 (Int32.ofNat (p + j)) f = f (p + j) := fun j f hj => gx_t k0 (by omega) (by omega)
  obtain ⟨k, b, G1, I1, L1, I2, L2, c1, c2, c3, c4, c5, c6, c7, c8⟩ := ca_night (d + 24) q g1 g2 hz (I 0 (p + 1)) (I 0 (p + 2)) (I 0 (p + 3))
  obtain ⟨e0, -, e2, e3, e4⟩ := RelE_f c8
  have c1' : mcal mT (d + 30) 304 [.ref 100, .int (I 0 (p + 1)), .int (I 0 (p + 2)), .int (I 0 (p + 3)), .ref 251] (G, I, L) = some (.inl (some (.int k)), (G1, I1, L1)) := c1
  have c4' : mcal mT (d + 30) 242 [.ref 219, .int (I 0 (p + 1)), .int (I 0 (p + 2)), .int (I 0 (p + 3))] (G1, I1, L1) = some (.inl (some (.int b)), (G1, I2, L2)) := c4
  have gq : ∀ j f, j < 6 → gx G1 0 31 (Int32.ofNat (p + j)) f = f (p + j) := fun j f hj => gx_t e0 (by rw [c3]; omega) (by omega)
  have t := r_thrown (d + 29) (I := I2) (L := L2) e2
  rw [c6] at t
  refine ⟨G1, I2, L2, ?_, c5, c3.trans hN, c8⟩
  rw [e_L_law_1000]
  simp (disch := decide) only [ip, ↓gp, ↓gk_t k1, ↓mcI_of c1', ↓gq, ↓gk_t e2.1, c2, ↓mcI_of c4', ↓mcI_of t, if_true]
  rw [e_L_law_1060]
  by_cases z0 : k = 0
  · have g0 : ∀ f, gx G1 251 21 0 f = f 0 := fun f => gx_t (j := 0) e3 (by omega) (by decide)
    simp only [if_pos z0, ↓g0, if_pos (lc_0.mpr (c7 z0)), e_L_law_1077]
  · rw [if_neg z0, e_L_law_1077]
theorem lw_go (d : Nat) (hE : RelE z G I L) (hz : z + 1 ≤ 512) (hN : gN G 0 = N) (hp : p + 6 ≤ N) (hb : N < 2147483648) : Lst (d + 30) p (z + 1) N I (f_L_law (d + 30) 1080 [.ref 0, .ref 100, .ref 219, .ref 251, .int (Int32.ofNat p), mU, mU] [] (G, I, L)) := by
  obtain ⟨k0, k1, -⟩ := RelE_f hE
  obtain ⟨h, hs, bl, bs, cl, cs, nr, n, nh, M, hN', w, lc, mc, kc, ta, rm, pi, mk, q, g1, g2⟩ := hE
  have gp : ∀ j f, j < 6 → gx G 0 31 (Int32.ofNat (p + j)) f = f (p + j) := fun j f hj => gx_t k0 (by omega) (by omega)
  obtain ⟨k, b, G1, I1, L1, I2, L2, c1, c2, c3, c4, c5, c6, c7, c8⟩ := ca_go (d + 20) q g1 g2 hz (I 0 (p + 1))
  obtain ⟨e0, -, e2, e3, e4⟩ := RelE_f c8
  have c1' : mcal mT (d + 30) 305 [.ref 100, .int (I 0 (p + 1)), .ref 251] (G, I, L) = some (.inl (some (.int k)), (G1, I1, L1)) := c1
  have c4' : mcal mT (d + 30) 229 [.ref 219, .int (I 0 (p + 1))] (G1, I1, L1) = some (.inl (some (.int b)), (G1, I2, L2)) := c4
  have gq : ∀ j f, j < 6 → gx G1 0 31 (Int32.ofNat (p + j)) f = f (p + j) := fun j f hj => gx_t e0 (by rw [c3]; omega) (by omega)
  have t := r_thrown (d + 29) (I := I2) (L := L2) e2
  rw [c6] at t
  refine ⟨G1, I2, L2, ?_, c5, c3.trans hN, c8⟩
  rw [e_L_law_1080]
  simp (disch := decide) only [ip, ↓gp, ↓gk_t k1, ↓mcI_of c1', ↓gq, ↓gk_t e2.1, c2, ↓mcI_of c4', ↓mcI_of t, if_true]
  rw [e_L_law_1116]
  by_cases z0 : k = 0
  · have g0 : ∀ f, gx G1 251 21 0 f = f 0 := fun f => gx_t (j := 0) e3 (by omega) (by decide)
    simp only [if_pos z0, ↓g0, if_pos (lc_0.mpr (c7 z0)), e_L_law_1133]
  · rw [if_neg z0, e_L_law_1133]
theorem lw_clock (d : Nat) (hE : RelE z G I L) (hz : z + 1 ≤ 512) (hN : gN G 0 = N) (hp : p + 6 ≤ N) (hb : N < 2147483648) : Lst (d + 30) p (z + 1) N I (f_L_law (d + 30) 1136 [.ref 0, .ref 100, .ref 219, .ref 251, .int (Int32.ofNat p), mU, mU] [] (G, I, L)) := by
  obtain ⟨k0, k1, -⟩ := RelE_f hE
  obtain ⟨h, hs, bl, bs, cl, cs, nr, n, nh, M, hN', w, lc, mc, kc, ta, rm, pi, mk, q, g1, g2⟩ := hE
  have gp : ∀ j f, j < 6 → gx G 0 31 (Int32.ofNat (p + j)) f = f (p + j) := fun j f hj => gx_t k0 (by omega) (by omega)
  obtain ⟨k, b, G1, I1, L1, I2, L2, c1, c2, c3, c4, c5, c6, c7, c8⟩ := ca_clock (d + 24) q g1 g2 hz (I 0 (p + 1))
  obtain ⟨e0, -, e2, e3, e4⟩ := RelE_f c8
  have c1' : mcal mT (d + 30) 306 [.ref 100, .int (I 0 (p + 1)), .ref 251] (G, I, L) = some (.inl (some (.int k)), (G1, I1, L1)) := c1
  have c4' : mcal mT (d + 30) 230 [.ref 219, .int (I 0 (p + 1))] (G1, I1, L1) = some (.inl (some (.int b)), (G1, I2, L2)) := c4
  have gq : ∀ j f, j < 6 → gx G1 0 31 (Int32.ofNat (p + j)) f = f (p + j) := fun j f hj => gx_t e0 (by rw [c3]; omega) (by omega)
  have t := r_thrown (d + 29) (I := I2) (L := L2) e2
  rw [c6] at t
  refine ⟨G1, I2, L2, ?_, c5, c3.trans hN, c8⟩
  rw [e_L_law_1136]
  simp (disch := decide) only [ip, ↓gp, ↓gk_t k1, ↓mcI_of c1', ↓gq, ↓gk_t e2.1, c2, ↓mcI_of c4', ↓mcI_of t, if_true]
  rw [e_L_law_1172]
  by_cases z0 : k = 0
  · have g0 : ∀ f, gx G1 251 21 0 f = f 0 := fun f => gx_t (j := 0) e3 (by omega) (by decide)
    simp only [if_pos z0, ↓g0, if_pos (lc_0.mpr (c7 z0)), e_L_law_1189]
  · rw [if_neg z0, e_L_law_1189]
theorem lw_hunts (d : Nat) (hE : RelE z G I L) (hz : z + 1 ≤ 512) (hN : gN G 0 = N) (hp : p + 6 ≤ N) (hb : N < 2147483648) : Lst (d + 30) p (z + 1) N I (f_L_law (d + 30) 1192 [.ref 0, .ref 100, .ref 219, .ref 251, .int (Int32.ofNat p), mU, mU] [] (G, I, L)) := by
  obtain ⟨k0, k1, -⟩ := RelE_f hE
  obtain ⟨h, hs, bl, bs, cl, cs, nr, n, nh, M, hN', w, lc, mc, kc, ta, rm, pi, mk, q, g1, g2⟩ := hE
  have gp : ∀ j f, j < 6 → gx G 0 31 (Int32.ofNat (p + j)) f = f (p + j) := fun j f hj => gx_t k0 (by omega) (by omega)
  obtain ⟨k, b, G1, I1, L1, I2, L2, c1, c2, c3, c4, c5, c6, c7, c8⟩ := ca_hunts (d + 24) q g1 g2 hz (I 0 (p + 1))
  obtain ⟨e0, -, e2, e3, e4⟩ := RelE_f c8
  have c1' : mcal mT (d + 30) 307 [.ref 100, .int (I 0 (p + 1)), .ref 251] (G, I, L) = some (.inl (some (.int k)), (G1, I1, L1)) := c1
  have c4' : mcal mT (d + 30) 243 [.ref 219, .int (I 0 (p + 1))] (G1, I1, L1) = some (.inl (some (.int b)), (G1, I2, L2)) := c4
  have gq : ∀ j f, j < 6 → gx G1 0 31 (Int32.ofNat (p + j)) f = f (p + j) := fun j f hj => gx_t e0 (by rw [c3]; omega) (by omega)
  have t := r_thrown (d + 29) (I := I2) (L := L2) e2
  rw [c6] at t
  refine ⟨G1, I2, L2, ?_, c5, c3.trans hN, c8⟩
  rw [e_L_law_1192]
  simp (disch := decide) only [ip, ↓gp, ↓gk_t k1, ↓mcI_of c1', ↓gq, ↓gk_t e2.1, c2, ↓mcI_of c4', ↓mcI_of t, if_true]
  rw [e_L_law_1228]
  by_cases z0 : k = 0
  · have g0 : ∀ f, gx G1 251 21 0 f = f 0 := fun f => gx_t (j := 0) e3 (by omega) (by decide)
    simp only [if_pos z0, ↓g0, if_pos (lc_0.mpr (c7 z0)), e_L_law_1245]
  · rw [if_neg z0, e_L_law_1245]
theorem lw_log (d : Nat) (hE : RelE z G I L) (hz : z + 1 ≤ 512) (hN : gN G 0 = N) (hp : p + 6 ≤ N) (hb : N < 2147483648) : Lst (d + 30) p (z + 1) N I (f_L_law (d + 30) 1248 [.ref 0, .ref 100, .ref 219, .ref 251, .int (Int32.ofNat p), mU, mU] [] (G, I, L)) := by
  obtain ⟨k0, k1, -⟩ := RelE_f hE
  obtain ⟨h, hs, bl, bs, cl, cs, nr, n, nh, M, hN', w, lc, mc, kc, ta, rm, pi, mk, q, g1, g2⟩ := hE
  have gp : ∀ j f, j < 6 → gx G 0 31 (Int32.ofNat (p + j)) f = f (p + j) := fun j f hj => gx_t k0 (by omega) (by omega)
  obtain ⟨k, b, G1, I1, L1, I2, L2, c1, c2, c3, c4, c5, c6, c7, c8⟩ := ca_log (d + 24) q g1 g2 hz (I 0 (p + 1)) (I 0 (p + 2)) (I 0 (p + 3))
  obtain ⟨e0, -, e2, e3, e4⟩ := RelE_f c8
  have c1' : mcal mT (d + 30) 308 [.ref 100, .int (I 0 (p + 1)), .int (I 0 (p + 2)), .int (I 0 (p + 3)), .ref 251] (G, I, L) = some (.inl (some (.int k)), (G1, I1, L1)) := c1
  have c4' : mcal mT (d + 30) 244 [.ref 219, .int (I 0 (p + 1)), .int (I 0 (p + 2)), .int (I 0 (p + 3))] (G1, I1, L1) = some (.inl (some (.int b)), (G1, I2, L2)) := c4
  have gq : ∀ j f, j < 6 → gx G1 0 31 (Int32.ofNat (p + j)) f = f (p + j) := fun j f hj => gx_t e0 (by rw [c3]; omega) (by omega)
  have t := r_thrown (d + 29) (I := I2) (L := L2) e2
  rw [c6] at t
  refine ⟨G1, I2, L2, ?_, c5, c3.trans hN, c8⟩
  rw [e_L_law_1248]
  simp (disch := decide) only [ip, ↓gp, ↓gk_t k1, ↓mcI_of c1', ↓gq, ↓gk_t e2.1, c2, ↓mcI_of c4', ↓mcI_of t, if_true]
  rw [e_L_law_1308]
  by_cases z0 : k = 0
  · have g0 : ∀ f, gx G1 251 21 0 f = f 0 := fun f => gx_t (j := 0) e3 (by omega) (by decide)
    simp only [if_pos z0, ↓g0, if_pos (lc_0.mpr (c7 z0)), e_L_law_1325]
  · rw [if_neg z0, e_L_law_1325]
theorem lw_explained (d : Nat) (hE : RelE z G I L) (hz : z + 1 ≤ 512) (hN : gN G 0 = N) (hp : p + 6 ≤ N) (hb : N < 2147483648) : Lst (d + 30) p (z + 1) N I (f_L_law (d + 30) 1328 [.ref 0, .ref 100, .ref 219, .ref 251, .int (Int32.ofNat p), mU, mU] [] (G, I, L)) := by
  obtain ⟨k0, k1, -⟩ := RelE_f hE
  obtain ⟨h, hs, bl, bs, cl, cs, nr, n, nh, M, hN', w, lc, mc, kc, ta, rm, pi, mk, q, g1, g2⟩ := hE
  have gp : ∀ j f, j < 6 → gx G 0 31 (Int32.ofNat (p + j)) f = f (p + j) := fun j f hj => gx_t k0 (by omega) (by omega)
  obtain ⟨k, b, G1, I1, L1, I2, L2, c1, c2, c3, c4, c5, c6, c7, c8⟩ := ca_explained (d + 20) q g1 g2 hz (I 0 (p + 1)) (I 0 (p + 2)) (I 0 (p + 3))
  obtain ⟨e0, -, e2, e3, e4⟩ := RelE_f c8
  have c1' : mcal mT (d + 30) 309 [.ref 100, .int (I 0 (p + 1)), .int (I 0 (p + 2)), .int (I 0 (p + 3)), .ref 251] (G, I, L) = some (.inl (some (.int k)), (G1, I1, L1)) := c1
  have c4' : mcal mT (d + 30) 248 [.ref 219, .int (I 0 (p + 1)), .int (I 0 (p + 2)), .int (I 0 (p + 3))] (G1, I1, L1) = some (.inl (some (.int b)), (G1, I2, L2)) := c4
  have gq : ∀ j f, j < 6 → gx G1 0 31 (Int32.ofNat (p + j)) f = f (p + j) := fun j f hj => gx_t e0 (by rw [c3]; omega) (by omega)
  have t := r_thrown (d + 29) (I := I2) (L := L2) e2
  rw [c6] at t
  refine ⟨G1, I2, L2, ?_, c5, c3.trans hN, c8⟩
  rw [e_L_law_1328]
  simp (disch := decide) only [ip, ↓gp, ↓gk_t k1, ↓mcI_of c1', ↓gq, ↓gk_t e2.1, c2, ↓mcI_of c4', ↓mcI_of t, if_true]
  rw [e_L_law_1388]
  by_cases z0 : k = 0
  · have g0 : ∀ f, gx G1 251 21 0 f = f 0 := fun f => gx_t (j := 0) e3 (by omega) (by decide)
    by_cases b0 : b = 0
    · have l : L2 251 0 = 0 := by rw [c7 z0, if_pos b0]
      simp only [if_pos z0, ↓g0, if_pos b0, e_L_law_1405, e_L_law_1406, if_pos (lc_0.mpr l), e_L_law_1412]
    · have l : L2 251 0 = 1 := by rw [c7 z0, if_neg b0]
      simp only [if_pos z0, ↓g0, if_neg b0, e_L_law_1406, if_pos (lc_0.mpr l), e_L_law_1412]
  · rw [if_neg z0, e_L_law_1412]
theorem lw_cause (d : Nat) (hE : RelE z G I L) (hz : z + 1 ≤ 512) (hN : gN G 0 = N) (hp : p + 6 ≤ N) (hb : N < 2147483648) : Lst (d + 30) p (z + 1) N I (f_L_law (d + 30) 1415 [.ref 0, .ref 100, .ref 219, .ref 251, .int (Int32.ofNat p), mU, mU] [] (G, I, L)) := by
  obtain ⟨k0, k1, -⟩ := RelE_f hE
  obtain ⟨h, hs, bl, bs, cl, cs, nr, n, nh, M, hN', w, lc, mc, kc, ta, rm, pi, mk, q, g1, g2⟩ := hE
  have gp : ∀ j f, j < 6 → gx G 0 31 (Int32.ofNat (p + j)) f = f (p + j) := fun j f hj => gx_t k0 (by omega) (by omega)
  obtain ⟨k, b, G1, I1, L1, I2, L2, c1, c2, c3, c4, c5, c6, c7, c8⟩ := ca_cause (d + 20) q g1 g2 hz (I 0 (p + 1)) (I 0 (p + 2))
  obtain ⟨e0, -, e2, e3, e4⟩ := RelE_f c8
  have c1' : mcal mT (d + 30) 310 [.ref 100, .int (I 0 (p + 1)), .int (I 0 (p + 2)), .ref 251] (G, I, L) = some (.inl (some (.int k)), (G1, I1, L1)) := c1
  have c4' : mcal mT (d + 30) 250 [.ref 219, .int (I 0 (p + 1)), .int (I 0 (p + 2))] (G1, I1, L1) = some (.inl (some (.int b)), (G1, I2, L2)) := c4
  have gq : ∀ j f, j < 6 → gx G1 0 31 (Int32.ofNat (p + j)) f = f (p + j) := fun j f hj => gx_t e0 (by rw [c3]; omega) (by omega)
  have t := r_thrown (d + 29) (I := I2) (L := L2) e2
  rw [c6] at t
  refine ⟨G1, I2, L2, ?_, c5, c3.trans hN, c8⟩
  rw [e_L_law_1415]
  simp (disch := decide) only [ip, ↓gp, ↓gk_t k1, ↓mcI_of c1', ↓gq, ↓gk_t e2.1, c2, ↓mcI_of c4', ↓mcI_of t, if_true]
  rw [e_L_law_1463]
  by_cases z0 : k = 0
  · have g0 : ∀ f, gx G1 251 21 0 f = f 0 := fun f => gx_t (j := 0) e3 (by omega) (by decide)
    simp only [if_pos z0, ↓g0, if_pos (lc_0.mpr (c7 z0)), e_L_law_1480]
  · rw [if_neg z0, e_L_law_1480]
theorem lw_things (d : Nat) (hE : RelE z G I L) (hz : z + 1 ≤ 512) (hN : gN G 0 = N) (hp : p + 6 ≤ N) (hb : N < 2147483648) : Lst (d + 30) p (z + 1) N I (f_L_law (d + 30) 1483 [.ref 0, .ref 100, .ref 219, .ref 251, .int (Int32.ofNat p), mU, mU] [] (G, I, L)) := by
  obtain ⟨k0, k1, -⟩ := RelE_f hE
  obtain ⟨h, hs, bl, bs, cl, cs, nr, n, nh, M, hN', w, lc, mc, kc, ta, rm, pi, mk, q, g1, g2⟩ := hE
  have gp : ∀ j f, j < 6 → gx G 0 31 (Int32.ofNat (p + j)) f = f (p + j) := fun j f hj => gx_t k0 (by omega) (by omega)
  obtain ⟨v, G1, I1, L1, I2, L2, c1, c2, c3, c4, c5, c8⟩ := ca_things (d + 24) q g1 g2 hz 
  obtain ⟨e0, -, e2, e3, e4⟩ := RelE_f c8
  have c1' : mcal mT (d + 30) 133 [.ref 100] (G, I, L) = some (.inl (some (.int v)), (G1, I1, L1)) := c1
  have c4' : mcal mT (d + 30) 251 [.ref 219] (G1, I1, L1) = some (.inl (some (.int v)), (G1, I2, L2)) := c4
  have gq : ∀ j f, j < 6 → gx G1 0 31 (Int32.ofNat (p + j)) f = f (p + j) := fun j f hj => gx_t e0 (by rw [c3]; omega) (by omega)
  refine ⟨G1, I2, L2, ?_, c5, c3.trans hN, c8⟩
  rw [e_L_law_1483]
  simp (disch := decide) only [ip, ↓gp, ↓gk_t k1, ↓mcI_of c1', ↓gq, ↓gk_t e2.1, c2, ↓mcI_of c4', if_true]
theorem lw_balanced (d : Nat) (hE : RelE z G I L) (hz : z + 1 ≤ 512) (hN : gN G 0 = N) (hp : p + 6 ≤ N) (hb : N < 2147483648) : Lst (d + 30) p (z + 1) N I (f_L_law (d + 30) 1496 [.ref 0, .ref 100, .ref 219, .ref 251, .int (Int32.ofNat p), mU, mU] [] (G, I, L)) := by
  obtain ⟨k0, k1, -⟩ := RelE_f hE
  obtain ⟨h, hs, bl, bs, cl, cs, nr, n, nh, M, hN', w, lc, mc, kc, ta, rm, pi, mk, q, g1, g2⟩ := hE
  have gp : ∀ j f, j < 6 → gx G 0 31 (Int32.ofNat (p + j)) f = f (p + j) := fun j f hj => gx_t k0 (by omega) (by omega)
  obtain ⟨k, b, G1, I1, L1, I2, L2, c1, c2, c3, c4, c5, c6, c7, c8⟩ := ca_balanced (d + 20) q g1 g2 hz (I 0 (p + 1)) (I 0 (p + 2)) (I 0 (p + 3))
  obtain ⟨e0, -, e2, e3, e4⟩ := RelE_f c8
  have c1' : mcal mT (d + 30) 311 [.ref 100, .int (I 0 (p + 1)), .int (I 0 (p + 2)), .int (I 0 (p + 3)), .ref 251] (G, I, L) = some (.inl (some (.int k)), (G1, I1, L1)) := c1
  have c4' : mcal mT (d + 30) 255 [.ref 219, .int (I 0 (p + 1)), .int (I 0 (p + 2)), .int (I 0 (p + 3))] (G1, I1, L1) = some (.inl (some (.int b)), (G1, I2, L2)) := c4
  have gq : ∀ j f, j < 6 → gx G1 0 31 (Int32.ofNat (p + j)) f = f (p + j) := fun j f hj => gx_t e0 (by rw [c3]; omega) (by omega)
  have t := r_thrown (d + 29) (I := I2) (L := L2) e2
  rw [c6] at t
  refine ⟨G1, I2, L2, ?_, c5, c3.trans hN, c8⟩
  rw [e_L_law_1496]
  simp (disch := decide) only [ip, ↓gp, ↓gk_t k1, ↓mcI_of c1', ↓gq, ↓gk_t e2.1, c2, ↓mcI_of c4', ↓mcI_of t, if_true]
  rw [e_L_law_1556]
  by_cases z0 : k = 0
  · have g0 : ∀ f, gx G1 251 21 0 f = f 0 := fun f => gx_t (j := 0) e3 (by omega) (by decide)
    simp only [if_pos z0, ↓g0, if_pos (lc_0.mpr (c7 z0)), e_L_law_1573]
  · rw [if_neg z0, e_L_law_1573]
theorem lw_turning (d : Nat) (hE : RelE z G I L) (hz : z + 1 ≤ 512) (hN : gN G 0 = N) (hp : p + 6 ≤ N) (hb : N < 2147483648) : Lst (d + 30) p (z + 1) N I (f_L_law (d + 30) 1576 [.ref 0, .ref 100, .ref 219, .ref 251, .int (Int32.ofNat p), mU, mU] [] (G, I, L)) := by
  obtain ⟨k0, k1, -⟩ := RelE_f hE
  obtain ⟨h, hs, bl, bs, cl, cs, nr, n, nh, M, hN', w, lc, mc, kc, ta, rm, pi, mk, q, g1, g2⟩ := hE
  have gp : ∀ j f, j < 6 → gx G 0 31 (Int32.ofNat (p + j)) f = f (p + j) := fun j f hj => gx_t k0 (by omega) (by omega)
  obtain ⟨k, b, G1, I1, L1, I2, L2, c1, c2, c3, c4, c5, c6, c7, c8⟩ := ca_turning (d + 20) q g1 g2 hz (I 0 (p + 1)) (I 0 (p + 2))
  obtain ⟨e0, -, e2, e3, e4⟩ := RelE_f c8
  have c1' : mcal mT (d + 30) 312 [.ref 100, .int (I 0 (p + 1)), .int (I 0 (p + 2)), .ref 251] (G, I, L) = some (.inl (some (.int k)), (G1, I1, L1)) := c1
  have c4' : mcal mT (d + 30) 256 [.ref 219, .int (I 0 (p + 1)), .int (I 0 (p + 2))] (G1, I1, L1) = some (.inl (some (.int b)), (G1, I2, L2)) := c4
  have gq : ∀ j f, j < 6 → gx G1 0 31 (Int32.ofNat (p + j)) f = f (p + j) := fun j f hj => gx_t e0 (by rw [c3]; omega) (by omega)
  have t := r_thrown (d + 29) (I := I2) (L := L2) e2
  rw [c6] at t
  refine ⟨G1, I2, L2, ?_, c5, c3.trans hN, c8⟩
  rw [e_L_law_1576]
  simp (disch := decide) only [ip, ↓gp, ↓gk_t k1, ↓mcI_of c1', ↓gq, ↓gk_t e2.1, c2, ↓mcI_of c4', ↓mcI_of t, if_true]
  rw [e_L_law_1624]
  by_cases z0 : k = 0
  · have g0 : ∀ f, gx G1 251 21 0 f = f 0 := fun f => gx_t (j := 0) e3 (by omega) (by decide)
    simp only [if_pos z0, ↓g0, if_pos (lc_0.mpr (c7 z0)), e_L_law_1641]
  · rw [if_neg z0, e_L_law_1641]
theorem lw_wake (d : Nat) (hE : RelE z G I L) (hz : z + 1 ≤ 512) (hN : gN G 0 = N) (hp : p + 6 ≤ N) (hb : N < 2147483648) : Lst (d + 30) p (z + 1) N I (f_L_law (d + 30) 1644 [.ref 0, .ref 100, .ref 219, .ref 251, .int (Int32.ofNat p), mU, mU] [] (G, I, L)) := by
  obtain ⟨k0, k1, -⟩ := RelE_f hE
  obtain ⟨h, hs, bl, bs, cl, cs, nr, n, nh, M, hN', w, lc, mc, kc, ta, rm, pi, mk, q, g1, g2⟩ := hE
  have gp : ∀ j f, j < 6 → gx G 0 31 (Int32.ofNat (p + j)) f = f (p + j) := fun j f hj => gx_t k0 (by omega) (by omega)
  obtain ⟨k, b, G1, I1, L1, I2, L2, c1, c2, c3, c4, c5, c6, c7, c8⟩ := ca_wake (d + 20) q g1 g2 hz (I 0 (p + 1)) (I 0 (p + 2)) (I 0 (p + 3))
  obtain ⟨e0, -, e2, e3, e4⟩ := RelE_f c8
  have c1' : mcal mT (d + 30) 313 [.ref 100, .int (I 0 (p + 1)), .int (I 0 (p + 2)), .int (I 0 (p + 3)), .ref 251] (G, I, L) = some (.inl (some (.int k)), (G1, I1, L1)) := c1
  have c4' : mcal mT (d + 30) 258 [.ref 219, .int (I 0 (p + 1)), .int (I 0 (p + 2)), .int (I 0 (p + 3))] (G1, I1, L1) = some (.inl (some (.int b)), (G1, I2, L2)) := c4
  have gq : ∀ j f, j < 6 → gx G1 0 31 (Int32.ofNat (p + j)) f = f (p + j) := fun j f hj => gx_t e0 (by rw [c3]; omega) (by omega)
  have t := r_thrown (d + 29) (I := I2) (L := L2) e2
  rw [c6] at t
  refine ⟨G1, I2, L2, ?_, c5, c3.trans hN, c8⟩
  rw [e_L_law_1644]
  simp (disch := decide) only [ip, ↓gp, ↓gk_t k1, ↓mcI_of c1', ↓gq, ↓gk_t e2.1, c2, ↓mcI_of c4', ↓mcI_of t, if_true]
  rw [e_L_law_1704]
  by_cases z0 : k = 0
  · have g0 : ∀ f, gx G1 251 21 0 f = f 0 := fun f => gx_t (j := 0) e3 (by omega) (by decide)
    simp only [if_pos z0, ↓g0, if_pos (lc_0.mpr (c7 z0)), e_L_law_1721]
  · rw [if_neg z0, e_L_law_1721]
theorem lw_wish (d : Nat) (hE : RelE z G I L) (hz : z + 1 ≤ 512) (hN : gN G 0 = N) (hp : p + 6 ≤ N) (hb : N < 2147483648) : Lst (d + 30) p (z + 1) N I (f_L_law (d + 30) 1724 [.ref 0, .ref 100, .ref 219, .ref 251, .int (Int32.ofNat p), mU, mU] [] (G, I, L)) := by
  obtain ⟨k0, k1, -⟩ := RelE_f hE
  obtain ⟨h, hs, bl, bs, cl, cs, nr, n, nh, M, hN', w, lc, mc, kc, ta, rm, pi, mk, q, g1, g2⟩ := hE
  have gp : ∀ j f, j < 6 → gx G 0 31 (Int32.ofNat (p + j)) f = f (p + j) := fun j f hj => gx_t k0 (by omega) (by omega)
  obtain ⟨k, b, G1, I1, L1, I2, L2, c1, c2, c3, c4, c5, c6, c7, c8⟩ := ca_wish (d + 20) q g1 g2 hz (I 0 (p + 1)) (I 0 (p + 2)) (I 0 (p + 3)) (I 0 (p + 4))
  obtain ⟨e0, -, e2, e3, e4⟩ := RelE_f c8
  have c1' : mcal mT (d + 30) 314 [.ref 100, .int (I 0 (p + 1)), .int (I 0 (p + 2)), .int (I 0 (p + 3)), .int (I 0 (p + 4)), .ref 251] (G, I, L) = some (.inl (some (.int k)), (G1, I1, L1)) := c1
  have c4' : mcal mT (d + 30) 259 [.ref 219, .int (I 0 (p + 1)), .int (I 0 (p + 2)), .int (I 0 (p + 3)), .int (I 0 (p + 4))] (G1, I1, L1) = some (.inl (some (.int b)), (G1, I2, L2)) := c4
  have gq : ∀ j f, j < 6 → gx G1 0 31 (Int32.ofNat (p + j)) f = f (p + j) := fun j f hj => gx_t e0 (by rw [c3]; omega) (by omega)
  have t := r_thrown (d + 29) (I := I2) (L := L2) e2
  rw [c6] at t
  refine ⟨G1, I2, L2, ?_, c5, c3.trans hN, c8⟩
  rw [e_L_law_1724]
  simp (disch := decide) only [ip, ↓gp, ↓gk_t k1, ↓mcI_of c1', ↓gq, ↓gk_t e2.1, c2, ↓mcI_of c4', ↓mcI_of t, if_true]
  rw [e_L_law_1796]
  by_cases z0 : k = 0
  · have g0 : ∀ f, gx G1 251 21 0 f = f 0 := fun f => gx_t (j := 0) e3 (by omega) (by decide)
    simp only [if_pos z0, ↓g0, if_pos (lc_0.mpr (c7 z0)), e_L_law_1813]
  · rw [if_neg z0, e_L_law_1813]
theorem lw_error (d : Nat) (hE : RelE z G I L) (hz : z + 1 ≤ 512) (hN : gN G 0 = N) (hp : p + 6 ≤ N) (hb : N < 2147483648) : Lst (d + 30) p (z + 1) N I (f_L_law (d + 30) 1816 [.ref 0, .ref 100, .ref 219, .ref 251, .int (Int32.ofNat p), mU, mU] [] (G, I, L)) := by
  obtain ⟨k0, k1, -⟩ := RelE_f hE
  obtain ⟨h, hs, bl, bs, cl, cs, nr, n, nh, M, hN', w, lc, mc, kc, ta, rm, pi, mk, q, g1, g2⟩ := hE
  have gp : ∀ j f, j < 6 → gx G 0 31 (Int32.ofNat (p + j)) f = f (p + j) := fun j f hj => gx_t k0 (by omega) (by omega)
  obtain ⟨k, b, G1, I1, L1, I2, L2, c1, c2, c3, c4, c5, c6, c7, c8⟩ := ca_error (d + 24) q g1 g2 hz (I 0 (p + 1)) (I 0 (p + 2))
  obtain ⟨e0, -, e2, e3, e4⟩ := RelE_f c8
  have c1' : mcal mT (d + 30) 315 [.ref 100, .int (I 0 (p + 1)), .int (I 0 (p + 2)), .ref 251] (G, I, L) = some (.inl (some (.int k)), (G1, I1, L1)) := c1
  have c4' : mcal mT (d + 30) 269 [.ref 219, .int (I 0 (p + 1)), .int (I 0 (p + 2))] (G1, I1, L1) = some (.inl (some (.int b)), (G1, I2, L2)) := c4
  have gq : ∀ j f, j < 6 → gx G1 0 31 (Int32.ofNat (p + j)) f = f (p + j) := fun j f hj => gx_t e0 (by rw [c3]; omega) (by omega)
  have t := r_thrown (d + 29) (I := I2) (L := L2) e2
  rw [c6] at t
  refine ⟨G1, I2, L2, ?_, c5, c3.trans hN, c8⟩
  rw [e_L_law_1816]
  simp (disch := decide) only [ip, ↓gp, ↓gk_t k1, ↓mcI_of c1', ↓gq, ↓gk_t e2.1, c2, ↓mcI_of c4', ↓mcI_of t, if_true]
  rw [e_L_law_1864]
  by_cases z0 : k = 0
  · have g0 : ∀ f, gx G1 251 21 0 f = f 0 := fun f => gx_t (j := 0) e3 (by omega) (by decide)
    simp only [if_pos z0, ↓g0, if_pos (lc_0.mpr (c7 z0)), e_L_law_1881]
  · rw [if_neg z0, e_L_law_1881]
theorem lw_part (d : Nat) (hE : RelE z G I L) (hz : z + 1 ≤ 512) (hN : gN G 0 = N) (hp : p + 6 ≤ N) (hb : N < 2147483648) : Lst (d + 30) p (z + 1) N I (f_L_law (d + 30) 1884 [.ref 0, .ref 100, .ref 219, .ref 251, .int (Int32.ofNat p), mU, mU] [] (G, I, L)) := by
  obtain ⟨k0, k1, -⟩ := RelE_f hE
  obtain ⟨h, hs, bl, bs, cl, cs, nr, n, nh, M, hN', w, lc, mc, kc, ta, rm, pi, mk, q, g1, g2⟩ := hE
  have gp : ∀ j f, j < 6 → gx G 0 31 (Int32.ofNat (p + j)) f = f (p + j) := fun j f hj => gx_t k0 (by omega) (by omega)
  obtain ⟨k, b, G1, I1, L1, I2, L2, c1, c2, c3, c4, c5, c6, c7, c8⟩ := ca_part (d + 20) q g1 g2 hz (I 0 (p + 1))
  obtain ⟨e0, -, e2, e3, e4⟩ := RelE_f c8
  have c1' : mcal mT (d + 30) 316 [.ref 100, .int (I 0 (p + 1)), .ref 251] (G, I, L) = some (.inl (some (.int k)), (G1, I1, L1)) := c1
  have c4' : mcal mT (d + 30) 267 [.ref 219, .int (I 0 (p + 1))] (G1, I1, L1) = some (.inl (some (.int b)), (G1, I2, L2)) := c4
  have gq : ∀ j f, j < 6 → gx G1 0 31 (Int32.ofNat (p + j)) f = f (p + j) := fun j f hj => gx_t e0 (by rw [c3]; omega) (by omega)
  have t := r_thrown (d + 29) (I := I2) (L := L2) e2
  rw [c6] at t
  refine ⟨G1, I2, L2, ?_, c5, c3.trans hN, c8⟩
  rw [e_L_law_1884]
  simp (disch := decide) only [ip, ↓gp, ↓gk_t k1, ↓mcI_of c1', ↓gq, ↓gk_t e2.1, c2, ↓mcI_of c4', ↓mcI_of t, if_true]
  rw [e_L_law_1920]
  by_cases z0 : k = 0
  · have g0 : ∀ f, gx G1 251 21 0 f = f 0 := fun f => gx_t (j := 0) e3 (by omega) (by decide)
    simp only [if_pos z0, ↓g0, if_pos (lc_0.mpr (c7 z0)), e_L_law_1937]
  · rw [if_neg z0, e_L_law_1937]
theorem lw_pays (d : Nat) (hE : RelE z G I L) (hz : z + 1 ≤ 512) (hN : gN G 0 = N) (hp : p + 6 ≤ N) (hb : N < 2147483648) : Lst (d + 30) p (z + 1) N I (f_L_law (d + 30) 1940 [.ref 0, .ref 100, .ref 219, .ref 251, .int (Int32.ofNat p), mU, mU] [] (G, I, L)) := by
  obtain ⟨k0, k1, -⟩ := RelE_f hE
  obtain ⟨h, hs, bl, bs, cl, cs, nr, n, nh, M, hN', w, lc, mc, kc, ta, rm, pi, mk, q, g1, g2⟩ := hE
  have gp : ∀ j f, j < 6 → gx G 0 31 (Int32.ofNat (p + j)) f = f (p + j) := fun j f hj => gx_t k0 (by omega) (by omega)
  obtain ⟨k, b, G1, I1, L1, I2, L2, c1, c2, c3, c4, c5, c6, c7, c8⟩ := ca_pays (d + 20) q g1 g2 hz (I 0 (p + 1)) (I 0 (p + 2))
  obtain ⟨e0, -, e2, e3, e4⟩ := RelE_f c8
  have c1' : mcal mT (d + 30) 317 [.ref 100, .int (I 0 (p + 1)), .int (I 0 (p + 2)), .ref 251] (G, I, L) = some (.inl (some (.int k)), (G1, I1, L1)) := c1
  have c4' : mcal mT (d + 30) 268 [.ref 219, .int (I 0 (p + 1)), .int (I 0 (p + 2))] (G1, I1, L1) = some (.inl (some (.int b)), (G1, I2, L2)) := c4
  have gq : ∀ j f, j < 6 → gx G1 0 31 (Int32.ofNat (p + j)) f = f (p + j) := fun j f hj => gx_t e0 (by rw [c3]; omega) (by omega)
  have t := r_thrown (d + 29) (I := I2) (L := L2) e2
  rw [c6] at t
  refine ⟨G1, I2, L2, ?_, c5, c3.trans hN, c8⟩
  rw [e_L_law_1940]
  simp (disch := decide) only [ip, ↓gp, ↓gk_t k1, ↓mcI_of c1', ↓gq, ↓gk_t e2.1, c2, ↓mcI_of c4', ↓mcI_of t, if_true]
  rw [e_L_law_1988]
  by_cases z0 : k = 0
  · have g0 : ∀ f, gx G1 251 21 0 f = f 0 := fun f => gx_t (j := 0) e3 (by omega) (by decide)
    simp only [if_pos z0, ↓g0, if_pos (lc_0.mpr (c7 z0)), e_L_law_2005]
  · rw [if_neg z0, e_L_law_2005]
theorem lw_blame (d : Nat) (hE : RelE z G I L) (hz : z + 1 ≤ 512) (hN : gN G 0 = N) (hp : p + 6 ≤ N) (hb : N < 2147483648) : Lst (d + 30) p (z + 1) N I (f_L_law (d + 30) 2008 [.ref 0, .ref 100, .ref 219, .ref 251, .int (Int32.ofNat p), mU, mU] [] (G, I, L)) := by
  obtain ⟨k0, k1, -⟩ := RelE_f hE
  obtain ⟨h, hs, bl, bs, cl, cs, nr, n, nh, M, hN', w, lc, mc, kc, ta, rm, pi, mk, q, g1, g2⟩ := hE
  have gp : ∀ j f, j < 6 → gx G 0 31 (Int32.ofNat (p + j)) f = f (p + j) := fun j f hj => gx_t k0 (by omega) (by omega)
  obtain ⟨k, b, G1, I1, L1, I2, L2, c1, c2, c3, c4, c5, c6, c7, c8⟩ := ca_blame (d + 24) q g1 g2 hz (I 0 (p + 1))
  obtain ⟨e0, -, e2, e3, e4⟩ := RelE_f c8
  have c1' : mcal mT (d + 30) 318 [.ref 100, .int (I 0 (p + 1)), .ref 251] (G, I, L) = some (.inl (some (.int k)), (G1, I1, L1)) := c1
  have c4' : mcal mT (d + 30) 270 [.ref 219, .int (I 0 (p + 1))] (G1, I1, L1) = some (.inl (some (.int b)), (G1, I2, L2)) := c4
  have gq : ∀ j f, j < 6 → gx G1 0 31 (Int32.ofNat (p + j)) f = f (p + j) := fun j f hj => gx_t e0 (by rw [c3]; omega) (by omega)
  have t := r_thrown (d + 29) (I := I2) (L := L2) e2
  rw [c6] at t
  refine ⟨G1, I2, L2, ?_, c5, c3.trans hN, c8⟩
  rw [e_L_law_2008]
  simp (disch := decide) only [ip, ↓gp, ↓gk_t k1, ↓mcI_of c1', ↓gq, ↓gk_t e2.1, c2, ↓mcI_of c4', ↓mcI_of t, if_true]
  rw [e_L_law_2044]
  by_cases z0 : k = 0
  · have g0 : ∀ f, gx G1 251 21 0 f = f 0 := fun f => gx_t (j := 0) e3 (by omega) (by decide)
    simp only [if_pos z0, ↓g0, if_pos (lc_0.mpr (c7 z0)), e_L_law_2061]
  · rw [if_neg z0, e_L_law_2061]
theorem lw_diary (d : Nat) (hE : RelE z G I L) (hz : z + 1 ≤ 512) (hN : gN G 0 = N) (hp : p + 6 ≤ N) (hb : N < 2147483648) : Lst (d + 30) p (z + 1) N I (f_L_law (d + 30) 2064 [.ref 0, .ref 100, .ref 219, .ref 251, .int (Int32.ofNat p), mU, mU] [] (G, I, L)) := by
  obtain ⟨k0, k1, -⟩ := RelE_f hE
  obtain ⟨h, hs, bl, bs, cl, cs, nr, n, nh, M, hN', w, lc, mc, kc, ta, rm, pi, mk, q, g1, g2⟩ := hE
  have gp : ∀ j f, j < 6 → gx G 0 31 (Int32.ofNat (p + j)) f = f (p + j) := fun j f hj => gx_t k0 (by omega) (by omega)
  obtain ⟨k, b, G1, I1, L1, I2, L2, c1, c2, c3, c4, c5, c6, c7, c8⟩ := ca_diary (d + 24) q g1 g2 hz (I 0 (p + 1)) (I 0 (p + 2)) (I 0 (p + 3))
  obtain ⟨e0, -, e2, e3, e4⟩ := RelE_f c8
  have c1' : mcal mT (d + 30) 319 [.ref 100, .int (I 0 (p + 1)), .int (I 0 (p + 2)), .int (I 0 (p + 3)), .ref 251] (G, I, L) = some (.inl (some (.int k)), (G1, I1, L1)) := c1
  have c4' : mcal mT (d + 30) 219 [.ref 219, .int (I 0 (p + 1)), .int (I 0 (p + 2)), .int (I 0 (p + 3))] (G1, I1, L1) = some (.inl (some (.int b)), (G1, I2, L2)) := c4
  have gq : ∀ j f, j < 6 → gx G1 0 31 (Int32.ofNat (p + j)) f = f (p + j) := fun j f hj => gx_t e0 (by rw [c3]; omega) (by omega)
  have t := r_thrown (d + 29) (I := I2) (L := L2) e2
  rw [c6] at t
  refine ⟨G1, I2, L2, ?_, c5, c3.trans hN, c8⟩
  rw [e_L_law_2064]
  simp (disch := decide) only [ip, ↓gp, ↓gk_t k1, ↓mcI_of c1', ↓gq, ↓gk_t e2.1, c2, ↓mcI_of c4', ↓mcI_of t, if_true]
  rw [e_L_law_2124]
  by_cases z0 : k = 0
  · have g0 : ∀ f, gx G1 251 21 0 f = f 0 := fun f => gx_t (j := 0) e3 (by omega) (by decide)
    simp only [if_pos z0, ↓g0, if_pos (lc_0.mpr (c7 z0)), e_L_law_2141]
  · rw [if_neg z0, e_L_law_2141]
theorem lw_cold (d : Nat) (hE : RelE z G I L) (hz : z + 1 ≤ 512) (hN : gN G 0 = N) (hp : p + 6 ≤ N) (hb : N < 2147483648) : Lst (d + 30) p (z + 1) N I (f_L_law (d + 30) 2144 [.ref 0, .ref 100, .ref 219, .ref 251, .int (Int32.ofNat p), mU, mU] [] (G, I, L)) := by
  obtain ⟨k0, k1, -⟩ := RelE_f hE
  obtain ⟨h, hs, bl, bs, cl, cs, nr, n, nh, M, hN', w, lc, mc, kc, ta, rm, pi, mk, q, g1, g2⟩ := hE
  have gp : ∀ j f, j < 6 → gx G 0 31 (Int32.ofNat (p + j)) f = f (p + j) := fun j f hj => gx_t k0 (by omega) (by omega)
  obtain ⟨k, b, G1, I1, L1, I2, L2, c1, c2, c3, c4, c5, c6, c7, c8⟩ := ca_cold (d + 24) q g1 g2 hz (I 0 (p + 1)) (I 0 (p + 2)) (I 0 (p + 3))
  obtain ⟨e0, -, e2, e3, e4⟩ := RelE_f c8
  have c1' : mcal mT (d + 30) 320 [.ref 100, .int (I 0 (p + 1)), .int (I 0 (p + 2)), .int (I 0 (p + 3)), .ref 251] (G, I, L) = some (.inl (some (.int k)), (G1, I1, L1)) := c1
  have c4' : mcal mT (d + 30) 221 [.ref 219, .int (I 0 (p + 1)), .int (I 0 (p + 2)), .int (I 0 (p + 3))] (G1, I1, L1) = some (.inl (some (.int b)), (G1, I2, L2)) := c4
  have gq : ∀ j f, j < 6 → gx G1 0 31 (Int32.ofNat (p + j)) f = f (p + j) := fun j f hj => gx_t e0 (by rw [c3]; omega) (by omega)
  have t := r_thrown (d + 29) (I := I2) (L := L2) e2
  rw [c6] at t
  refine ⟨G1, I2, L2, ?_, c5, c3.trans hN, c8⟩
  rw [e_L_law_2144]
  simp (disch := decide) only [ip, ↓gp, ↓gk_t k1, ↓mcI_of c1', ↓gq, ↓gk_t e2.1, c2, ↓mcI_of c4', ↓mcI_of t, if_true]
  rw [e_L_law_2204]
  by_cases z0 : k = 0
  · have g0 : ∀ f, gx G1 251 21 0 f = f 0 := fun f => gx_t (j := 0) e3 (by omega) (by decide)
    simp only [if_pos z0, ↓g0, if_pos (lc_0.mpr (c7 z0)), e_L_law_2221]
  · rw [if_neg z0, e_L_law_2221]
theorem lw_claim (d : Nat) (hE : RelE z G I L) (hz : z + 1 ≤ 512) (hN : gN G 0 = N) (hp : p + 6 ≤ N) (hb : N < 2147483648) : Lst (d + 30) p (z + 1) N I (f_L_law (d + 30) 2224 [.ref 0, .ref 100, .ref 219, .ref 251, .int (Int32.ofNat p), mU, mU] [] (G, I, L)) := by
  obtain ⟨k0, k1, -⟩ := RelE_f hE
  obtain ⟨h, hs, bl, bs, cl, cs, nr, n, nh, M, hN', w, lc, mc, kc, ta, rm, pi, mk, q, g1, g2⟩ := hE
  have gp : ∀ j f, j < 6 → gx G 0 31 (Int32.ofNat (p + j)) f = f (p + j) := fun j f hj => gx_t k0 (by omega) (by omega)
  obtain ⟨k, b, G1, I1, L1, I2, L2, c1, c2, c3, c4, c5, c6, c7, c8⟩ := ca_claim (d + 0) q g1 g2 hz (I 0 (p + 1))
  obtain ⟨e0, -, e2, e3, e4⟩ := RelE_f c8
  have c1' : mcal mT (d + 30) 321 [.ref 100, .int (I 0 (p + 1)), .ref 251] (G, I, L) = some (.inl (some (.int k)), (G1, I1, L1)) := c1
  have c4' : mcal mT (d + 30) 283 [.ref 219, .int (I 0 (p + 1))] (G1, I1, L1) = some (.inl (some (.int b)), (G1, I2, L2)) := c4
  have gq : ∀ j f, j < 6 → gx G1 0 31 (Int32.ofNat (p + j)) f = f (p + j) := fun j f hj => gx_t e0 (by rw [c3]; omega) (by omega)
  have t := r_thrown (d + 29) (I := I2) (L := L2) e2
  rw [c6] at t
  refine ⟨G1, I2, L2, ?_, c5, c3.trans hN, c8⟩
  rw [e_L_law_2224]
  simp (disch := decide) only [ip, ↓gp, ↓gk_t k1, ↓mcI_of c1', ↓gq, ↓gk_t e2.1, c2, ↓mcI_of c4', ↓mcI_of t, if_true]
  rw [e_L_law_2260]
  by_cases z0 : k = 0
  · have g0 : ∀ f, gx G1 251 21 0 f = f 0 := fun f => gx_t (j := 0) e3 (by omega) (by decide)
    simp only [if_pos z0, ↓g0, if_pos (lc_0.mpr (c7 z0)), e_L_law_2277]
  · rw [if_neg z0, e_L_law_2277]
theorem lw_judge (d : Nat) (hE : RelE z G I L) (hz : z + 1 ≤ 512) (hN : gN G 0 = N) (hp : p + 6 ≤ N) (hb : N < 2147483648) : Lst (d + 30) p (z + 1) N I (f_L_law (d + 30) 2280 [.ref 0, .ref 100, .ref 219, .ref 251, .int (Int32.ofNat p), mU, mU] [] (G, I, L)) := by
  obtain ⟨k0, k1, -⟩ := RelE_f hE
  obtain ⟨h, hs, bl, bs, cl, cs, nr, n, nh, M, hN', w, lc, mc, kc, ta, rm, pi, mk, q, g1, g2⟩ := hE
  have gp : ∀ j f, j < 6 → gx G 0 31 (Int32.ofNat (p + j)) f = f (p + j) := fun j f hj => gx_t k0 (by omega) (by omega)
  obtain ⟨v, G1, I1, L1, I2, L2, c1, c2, c3, c4, c5, c8⟩ := ca_judge (d + 24) q g1 g2 hz 
  obtain ⟨e0, -, e2, e3, e4⟩ := RelE_f c8
  have c1' : mcal mT (d + 30) 159 [.ref 100] (G, I, L) = some (.inl (some (.int v)), (G1, I1, L1)) := c1
  have c4' : mcal mT (d + 30) 285 [.ref 219] (G1, I1, L1) = some (.inl (some (.int v)), (G1, I2, L2)) := c4
  have gq : ∀ j f, j < 6 → gx G1 0 31 (Int32.ofNat (p + j)) f = f (p + j) := fun j f hj => gx_t e0 (by rw [c3]; omega) (by omega)
  refine ⟨G1, I2, L2, ?_, c5, c3.trans hN, c8⟩
  rw [e_L_law_2280]
  simp (disch := decide) only [ip, ↓gp, ↓gk_t k1, ↓mcI_of c1', ↓gq, ↓gk_t e2.1, c2, ↓mcI_of c4', if_true]
theorem lw_water (d : Nat) (hE : RelE z G I L) (hz : z + 1 ≤ 512) (hN : gN G 0 = N) (hp : p + 6 ≤ N) (hb : N < 2147483648) : Lst (d + 30) p (z + 1) N I (f_L_law (d + 30) 2293 [.ref 0, .ref 100, .ref 219, .ref 251, .int (Int32.ofNat p), mU, mU] [] (G, I, L)) := by
  obtain ⟨k0, k1, -⟩ := RelE_f hE
  obtain ⟨h, hs, bl, bs, cl, cs, nr, n, nh, M, hN', w, lc, mc, kc, ta, rm, pi, mk, q, g1, g2⟩ := hE
  have gp : ∀ j f, j < 6 → gx G 0 31 (Int32.ofNat (p + j)) f = f (p + j) := fun j f hj => gx_t k0 (by omega) (by omega)
  obtain ⟨k, b, G1, I1, L1, I2, L2, c1, c2, c3, c4, c5, c6, c7, c8⟩ := ca_water (d + 24) q g1 g2 hz (I 0 (p + 1)) (I 0 (p + 2))
  obtain ⟨e0, -, e2, e3, e4⟩ := RelE_f c8
  have c1' : mcal mT (d + 30) 322 [.ref 100, .int (I 0 (p + 1)), .int (I 0 (p + 2)), .ref 251] (G, I, L) = some (.inl (some (.int k)), (G1, I1, L1)) := c1
  have c4' : mcal mT (d + 30) 271 [.ref 219, .int (I 0 (p + 1)), .int (I 0 (p + 2))] (G1, I1, L1) = some (.inl (some (.int b)), (G1, I2, L2)) := c4
  have gq : ∀ j f, j < 6 → gx G1 0 31 (Int32.ofNat (p + j)) f = f (p + j) := fun j f hj => gx_t e0 (by rw [c3]; omega) (by omega)
  have t := r_thrown (d + 29) (I := I2) (L := L2) e2
  rw [c6] at t
  refine ⟨G1, I2, L2, ?_, c5, c3.trans hN, c8⟩
  rw [e_L_law_2293]
  simp (disch := decide) only [ip, ↓gp, ↓gk_t k1, ↓mcI_of c1', ↓gq, ↓gk_t e2.1, c2, ↓mcI_of c4', ↓mcI_of t, if_true]
  rw [e_L_law_2341]
  by_cases z0 : k = 0
  · have g0 : ∀ f, gx G1 251 21 0 f = f 0 := fun f => gx_t (j := 0) e3 (by omega) (by decide)
    simp only [if_pos z0, ↓g0, if_pos (lc_0.mpr (c7 z0)), e_L_law_2358]
  · rw [if_neg z0, e_L_law_2358]
theorem lw_dead (d : Nat) (hE : RelE z G I L) (hz : z + 1 ≤ 512) (hN : gN G 0 = N) (hp : p + 6 ≤ N) (hb : N < 2147483648) : Lst (d + 30) p (z + 1) N I (f_L_law (d + 30) 2361 [.ref 0, .ref 100, .ref 219, .ref 251, .int (Int32.ofNat p), mU, mU] [] (G, I, L)) := by
  obtain ⟨k0, k1, -⟩ := RelE_f hE
  obtain ⟨h, hs, bl, bs, cl, cs, nr, n, nh, M, hN', w, lc, mc, kc, ta, rm, pi, mk, q, g1, g2⟩ := hE
  have gp : ∀ j f, j < 6 → gx G 0 31 (Int32.ofNat (p + j)) f = f (p + j) := fun j f hj => gx_t k0 (by omega) (by omega)
  obtain ⟨k, b, G1, I1, L1, I2, L2, c1, c2, c3, c4, c5, c6, c7, c8⟩ := ca_dead (d + 24) q g1 g2 hz (I 0 (p + 1))
  obtain ⟨e0, -, e2, e3, e4⟩ := RelE_f c8
  have c1' : mcal mT (d + 30) 323 [.ref 100, .int (I 0 (p + 1)), .ref 251] (G, I, L) = some (.inl (some (.int k)), (G1, I1, L1)) := c1
  have c4' : mcal mT (d + 30) 272 [.ref 219, .int (I 0 (p + 1))] (G1, I1, L1) = some (.inl (some (.int b)), (G1, I2, L2)) := c4
  have gq : ∀ j f, j < 6 → gx G1 0 31 (Int32.ofNat (p + j)) f = f (p + j) := fun j f hj => gx_t e0 (by rw [c3]; omega) (by omega)
  have t := r_thrown (d + 29) (I := I2) (L := L2) e2
  rw [c6] at t
  refine ⟨G1, I2, L2, ?_, c5, c3.trans hN, c8⟩
  rw [e_L_law_2361]
  simp (disch := decide) only [ip, ↓gp, ↓gk_t k1, ↓mcI_of c1', ↓gq, ↓gk_t e2.1, c2, ↓mcI_of c4', ↓mcI_of t, if_true]
  rw [e_L_law_2397]
  by_cases z0 : k = 0
  · have g0 : ∀ f, gx G1 251 21 0 f = f 0 := fun f => gx_t (j := 0) e3 (by omega) (by decide)
    simp only [if_pos z0, ↓g0, if_pos (lc_0.mpr (c7 z0)), e_L_law_2414]
  · rw [if_neg z0, e_L_law_2414]
theorem lw_holiday (d : Nat) (hE : RelE z G I L) (hz : z + 1 ≤ 512) (hN : gN G 0 = N) (hp : p + 6 ≤ N) (hb : N < 2147483648) : Lst (d + 30) p (z + 1) N I (f_L_law (d + 30) 2417 [.ref 0, .ref 100, .ref 219, .ref 251, .int (Int32.ofNat p), mU, mU] [] (G, I, L)) := by
  obtain ⟨k0, k1, -⟩ := RelE_f hE
  obtain ⟨h, hs, bl, bs, cl, cs, nr, n, nh, M, hN', w, lc, mc, kc, ta, rm, pi, mk, q, g1, g2⟩ := hE
  have gp : ∀ j f, j < 6 → gx G 0 31 (Int32.ofNat (p + j)) f = f (p + j) := fun j f hj => gx_t k0 (by omega) (by omega)
  obtain ⟨k, b, G1, I1, L1, I2, L2, c1, c2, c3, c4, c5, c6, c7, c8⟩ := ca_holiday (d + 24) q g1 g2 hz (I 0 (p + 1)) (I 0 (p + 2)) (I 0 (p + 3))
  obtain ⟨e0, -, e2, e3, e4⟩ := RelE_f c8
  have c1' : mcal mT (d + 30) 324 [.ref 100, .int (I 0 (p + 1)), .int (I 0 (p + 2)), .int (I 0 (p + 3)), .ref 251] (G, I, L) = some (.inl (some (.int k)), (G1, I1, L1)) := c1
  have c4' : mcal mT (d + 30) 273 [.ref 219, .int (I 0 (p + 1)), .int (I 0 (p + 2)), .int (I 0 (p + 3))] (G1, I1, L1) = some (.inl (some (.int b)), (G1, I2, L2)) := c4
  have gq : ∀ j f, j < 6 → gx G1 0 31 (Int32.ofNat (p + j)) f = f (p + j) := fun j f hj => gx_t e0 (by rw [c3]; omega) (by omega)
  have t := r_thrown (d + 29) (I := I2) (L := L2) e2
  rw [c6] at t
  refine ⟨G1, I2, L2, ?_, c5, c3.trans hN, c8⟩
  rw [e_L_law_2417]
  simp (disch := decide) only [ip, ↓gp, ↓gk_t k1, ↓mcI_of c1', ↓gq, ↓gk_t e2.1, c2, ↓mcI_of c4', ↓mcI_of t, if_true]
  rw [e_L_law_2477]
  by_cases z0 : k = 0
  · have g0 : ∀ f, gx G1 251 21 0 f = f 0 := fun f => gx_t (j := 0) e3 (by omega) (by decide)
    simp only [if_pos z0, ↓g0, if_pos (lc_0.mpr (c7 z0)), e_L_law_2494]
  · rw [if_neg z0, e_L_law_2494]
theorem lw_pump (d : Nat) (hE : RelE z G I L) (hz : z + 1 ≤ 512) (hN : gN G 0 = N) (hp : p + 6 ≤ N) (hb : N < 2147483648) : Lst (d + 30) p (z + 1) N I (f_L_law (d + 30) 2497 [.ref 0, .ref 100, .ref 219, .ref 251, .int (Int32.ofNat p), mU, mU] [] (G, I, L)) := by
  obtain ⟨k0, k1, -⟩ := RelE_f hE
  obtain ⟨h, hs, bl, bs, cl, cs, nr, n, nh, M, hN', w, lc, mc, kc, ta, rm, pi, mk, q, g1, g2⟩ := hE
  have gp : ∀ j f, j < 6 → gx G 0 31 (Int32.ofNat (p + j)) f = f (p + j) := fun j f hj => gx_t k0 (by omega) (by omega)
  obtain ⟨k, b, G1, I1, L1, I2, L2, c1, c2, c3, c4, c5, c6, c7, c8⟩ := ca_pump (d + 24) q g1 g2 hz (I 0 (p + 1))
  obtain ⟨e0, -, e2, e3, e4⟩ := RelE_f c8
  have c1' : mcal mT (d + 30) 325 [.ref 100, .int (I 0 (p + 1)), .ref 251] (G, I, L) = some (.inl (some (.int k)), (G1, I1, L1)) := c1
  have c4' : mcal mT (d + 30) 274 [.ref 219, .int (I 0 (p + 1))] (G1, I1, L1) = some (.inl (some (.int b)), (G1, I2, L2)) := c4
  have gq : ∀ j f, j < 6 → gx G1 0 31 (Int32.ofNat (p + j)) f = f (p + j) := fun j f hj => gx_t e0 (by rw [c3]; omega) (by omega)
  have t := r_thrown (d + 29) (I := I2) (L := L2) e2
  rw [c6] at t
  refine ⟨G1, I2, L2, ?_, c5, c3.trans hN, c8⟩
  rw [e_L_law_2497]
  simp (disch := decide) only [ip, ↓gp, ↓gk_t k1, ↓mcI_of c1', ↓gq, ↓gk_t e2.1, c2, ↓mcI_of c4', ↓mcI_of t, if_true]
  rw [e_L_law_2533]
  by_cases z0 : k = 0
  · have g0 : ∀ f, gx G1 251 21 0 f = f 0 := fun f => gx_t (j := 0) e3 (by omega) (by decide)
    simp only [if_pos z0, ↓g0, if_pos (lc_0.mpr (c7 z0)), e_L_law_2550]
  · rw [if_neg z0, e_L_law_2550]
theorem lw_gauge (d : Nat) (hE : RelE z G I L) (hz : z + 1 ≤ 512) (hN : gN G 0 = N) (hp : p + 6 ≤ N) (hb : N < 2147483648) : Lst (d + 30) p (z + 1) N I (f_L_law (d + 30) 2553 [.ref 0, .ref 100, .ref 219, .ref 251, .int (Int32.ofNat p), mU, mU] [] (G, I, L)) := by
  obtain ⟨k0, k1, -⟩ := RelE_f hE
  obtain ⟨h, hs, bl, bs, cl, cs, nr, n, nh, M, hN', w, lc, mc, kc, ta, rm, pi, mk, q, g1, g2⟩ := hE
  have gp : ∀ j f, j < 6 → gx G 0 31 (Int32.ofNat (p + j)) f = f (p + j) := fun j f hj => gx_t k0 (by omega) (by omega)
  obtain ⟨k, b, G1, I1, L1, I2, L2, c1, c2, c3, c4, c5, c6, c7, c8⟩ := ca_gauge (d + 24) q g1 g2 hz (I 0 (p + 1)) (I 0 (p + 2)) (I 0 (p + 3))
  obtain ⟨e0, -, e2, e3, e4⟩ := RelE_f c8
  have c1' : mcal mT (d + 30) 326 [.ref 100, .int (I 0 (p + 1)), .int (I 0 (p + 2)), .int (I 0 (p + 3)), .ref 251] (G, I, L) = some (.inl (some (.int k)), (G1, I1, L1)) := c1
  have c4' : mcal mT (d + 30) 275 [.ref 219, .int (I 0 (p + 1)), .int (I 0 (p + 2)), .int (I 0 (p + 3))] (G1, I1, L1) = some (.inl (some (.int b)), (G1, I2, L2)) := c4
  have gq : ∀ j f, j < 6 → gx G1 0 31 (Int32.ofNat (p + j)) f = f (p + j) := fun j f hj => gx_t e0 (by rw [c3]; omega) (by omega)
  have t := r_thrown (d + 29) (I := I2) (L := L2) e2
  rw [c6] at t
  refine ⟨G1, I2, L2, ?_, c5, c3.trans hN, c8⟩
  rw [e_L_law_2553]
  simp (disch := decide) only [ip, ↓gp, ↓gk_t k1, ↓mcI_of c1', ↓gq, ↓gk_t e2.1, c2, ↓mcI_of c4', ↓mcI_of t, if_true]
  rw [e_L_law_2613]
  by_cases z0 : k = 0
  · have g0 : ∀ f, gx G1 251 21 0 f = f 0 := fun f => gx_t (j := 0) e3 (by omega) (by decide)
    simp only [if_pos z0, ↓g0, if_pos (lc_0.mpr (c7 z0)), e_L_law_2630]
  · rw [if_neg z0, e_L_law_2630]
theorem lw_burst (d : Nat) (hE : RelE z G I L) (hz : z + 1 ≤ 512) (hN : gN G 0 = N) (hp : p + 6 ≤ N) (hb : N < 2147483648) : Lst (d + 30) p (z + 1) N I (f_L_law (d + 30) 2633 [.ref 0, .ref 100, .ref 219, .ref 251, .int (Int32.ofNat p), mU, mU] [] (G, I, L)) := by
  obtain ⟨k0, k1, -⟩ := RelE_f hE
  obtain ⟨h, hs, bl, bs, cl, cs, nr, n, nh, M, hN', w, lc, mc, kc, ta, rm, pi, mk, q, g1, g2⟩ := hE
  have gp : ∀ j f, j < 6 → gx G 0 31 (Int32.ofNat (p + j)) f = f (p + j) := fun j f hj => gx_t k0 (by omega) (by omega)
  obtain ⟨k, b, G1, I1, L1, I2, L2, c1, c2, c3, c4, c5, c6, c7, c8⟩ := ca_burst (d + 24) q g1 g2 hz (I 0 (p + 1)) (I 0 (p + 2))
  obtain ⟨e0, -, e2, e3, e4⟩ := RelE_f c8
  have c1' : mcal mT (d + 30) 327 [.ref 100, .int (I 0 (p + 1)), .int (I 0 (p + 2)), .ref 251] (G, I, L) = some (.inl (some (.int k)), (G1, I1, L1)) := c1
  have c4' : mcal mT (d + 30) 276 [.ref 219, .int (I 0 (p + 1)), .int (I 0 (p + 2))] (G1, I1, L1) = some (.inl (some (.int b)), (G1, I2, L2)) := c4
  have gq : ∀ j f, j < 6 → gx G1 0 31 (Int32.ofNat (p + j)) f = f (p + j) := fun j f hj => gx_t e0 (by rw [c3]; omega) (by omega)
  have t := r_thrown (d + 29) (I := I2) (L := L2) e2
  rw [c6] at t
  refine ⟨G1, I2, L2, ?_, c5, c3.trans hN, c8⟩
  rw [e_L_law_2633]
  simp (disch := decide) only [ip, ↓gp, ↓gk_t k1, ↓mcI_of c1', ↓gq, ↓gk_t e2.1, c2, ↓mcI_of c4', ↓mcI_of t, if_true]
  rw [e_L_law_2681]
  by_cases z0 : k = 0
  · have g0 : ∀ f, gx G1 251 21 0 f = f 0 := fun f => gx_t (j := 0) e3 (by omega) (by decide)
    simp only [if_pos z0, ↓g0, if_pos (lc_0.mpr (c7 z0)), e_L_law_2698]
  · rw [if_neg z0, e_L_law_2698]
theorem lw_wear (d : Nat) (hE : RelE z G I L) (hz : z + 1 ≤ 512) (hN : gN G 0 = N) (hp : p + 6 ≤ N) (hb : N < 2147483648) : Lst (d + 30) p (z + 1) N I (f_L_law (d + 30) 2701 [.ref 0, .ref 100, .ref 219, .ref 251, .int (Int32.ofNat p), mU, mU] [] (G, I, L)) := by
  obtain ⟨k0, k1, -⟩ := RelE_f hE
  obtain ⟨h, hs, bl, bs, cl, cs, nr, n, nh, M, hN', w, lc, mc, kc, ta, rm, pi, mk, q, g1, g2⟩ := hE
  have gp : ∀ j f, j < 6 → gx G 0 31 (Int32.ofNat (p + j)) f = f (p + j) := fun j f hj => gx_t k0 (by omega) (by omega)
  obtain ⟨k, b, G1, I1, L1, I2, L2, c1, c2, c3, c4, c5, c6, c7, c8⟩ := ca_wear (d + 24) q g1 g2 hz (I 0 (p + 1))
  obtain ⟨e0, -, e2, e3, e4⟩ := RelE_f c8
  have c1' : mcal mT (d + 30) 328 [.ref 100, .int (I 0 (p + 1)), .ref 251] (G, I, L) = some (.inl (some (.int k)), (G1, I1, L1)) := c1
  have c4' : mcal mT (d + 30) 277 [.ref 219, .int (I 0 (p + 1))] (G1, I1, L1) = some (.inl (some (.int b)), (G1, I2, L2)) := c4
  have gq : ∀ j f, j < 6 → gx G1 0 31 (Int32.ofNat (p + j)) f = f (p + j) := fun j f hj => gx_t e0 (by rw [c3]; omega) (by omega)
  have t := r_thrown (d + 29) (I := I2) (L := L2) e2
  rw [c6] at t
  refine ⟨G1, I2, L2, ?_, c5, c3.trans hN, c8⟩
  rw [e_L_law_2701]
  simp (disch := decide) only [ip, ↓gp, ↓gk_t k1, ↓mcI_of c1', ↓gq, ↓gk_t e2.1, c2, ↓mcI_of c4', ↓mcI_of t, if_true]
  rw [e_L_law_2737]
  by_cases z0 : k = 0
  · have g0 : ∀ f, gx G1 251 21 0 f = f 0 := fun f => gx_t (j := 0) e3 (by omega) (by decide)
    simp only [if_pos z0, ↓g0, if_pos (lc_0.mpr (c7 z0)), e_L_law_2754]
  · rw [if_neg z0, e_L_law_2754]
theorem lw_mark (d : Nat) (hE : RelE z G I L) (hz : z + 1 ≤ 512) (hN : gN G 0 = N) (hp : p + 6 ≤ N) (hb : N < 2147483648) : Lst (d + 30) p (z + 1) N I (f_L_law (d + 30) 2757 [.ref 0, .ref 100, .ref 219, .ref 251, .int (Int32.ofNat p), mU, mU] [] (G, I, L)) := by
  obtain ⟨k0, k1, -⟩ := RelE_f hE
  obtain ⟨h, hs, bl, bs, cl, cs, nr, n, nh, M, hN', w, lc, mc, kc, ta, rm, pi, mk, q, g1, g2⟩ := hE
  have gp : ∀ j f, j < 6 → gx G 0 31 (Int32.ofNat (p + j)) f = f (p + j) := fun j f hj => gx_t k0 (by omega) (by omega)
  obtain ⟨v, G1, I1, L1, I2, L2, c1, c2, c3, c4, c5, c8⟩ := ca_mark (d + 26) q g1 g2 hz 
  obtain ⟨e0, -, e2, e3, e4⟩ := RelE_f c8
  have c1' : mcal mT (d + 30) 126 [.ref 100] (G, I, L) = some (.inl (some (.int v)), (G1, I1, L1)) := c1
  have c4' : mcal mT (d + 30) 286 [.ref 219] (G1, I1, L1) = some (.inl (some (.int v)), (G1, I2, L2)) := c4
  have gq : ∀ j f, j < 6 → gx G1 0 31 (Int32.ofNat (p + j)) f = f (p + j) := fun j f hj => gx_t e0 (by rw [c3]; omega) (by omega)
  refine ⟨G1, I2, L2, ?_, c5, c3.trans hN, c8⟩
  rw [e_L_law_2757]
  simp (disch := decide) only [ip, ↓gp, ↓gk_t k1, ↓mcI_of c1', ↓gq, ↓gk_t e2.1, c2, ↓mcI_of c4', if_true]
theorem lw_back (d : Nat) (hE : RelE z G I L) (hz : z + 1 ≤ 512) (hN : gN G 0 = N) (hp : p + 6 ≤ N) (hb : N < 2147483648) : Lst (d + 30) p (z + 1) N I (f_L_law (d + 30) 2770 [.ref 0, .ref 100, .ref 219, .ref 251, .int (Int32.ofNat p), mU, mU] [] (G, I, L)) := by
  obtain ⟨k0, k1, -⟩ := RelE_f hE
  obtain ⟨h, hs, bl, bs, cl, cs, nr, n, nh, M, hN', w, lc, mc, kc, ta, rm, pi, mk, q, g1, g2⟩ := hE
  have gp : ∀ j f, j < 6 → gx G 0 31 (Int32.ofNat (p + j)) f = f (p + j) := fun j f hj => gx_t k0 (by omega) (by omega)
  obtain ⟨v, G1, I1, L1, I2, L2, c1, c2, c3, c4, c5, c8⟩ := ca_back (d + 26) q g1 g2 hz 
  obtain ⟨e0, -, e2, e3, e4⟩ := RelE_f c8
  have c1' : mcal mT (d + 30) 127 [.ref 100] (G, I, L) = some (.inl (some (.int v)), (G1, I1, L1)) := c1
  have c4' : mcal mT (d + 30) 287 [.ref 219] (G1, I1, L1) = some (.inl (some (.int v)), (G1, I2, L2)) := c4
  have gq : ∀ j f, j < 6 → gx G1 0 31 (Int32.ofNat (p + j)) f = f (p + j) := fun j f hj => gx_t e0 (by rw [c3]; omega) (by omega)
  refine ⟨G1, I2, L2, ?_, c5, c3.trans hN, c8⟩
  rw [e_L_law_2770]
  simp (disch := decide) only [ip, ↓gp, ↓gk_t k1, ↓mcI_of c1', ↓gq, ↓gk_t e2.1, c2, ↓mcI_of c4', if_true]
theorem lw_count (d : Nat) (hE : RelE z G I L) (hz : z + 1 ≤ 512) (hN : gN G 0 = N) (hp : p + 6 ≤ N) (hb : N < 2147483648) : Lst (d + 30) p (z + 1) N I (f_L_law (d + 30) 2783 [.ref 0, .ref 100, .ref 219, .ref 251, .int (Int32.ofNat p), mU, mU] [] (G, I, L)) := by
  obtain ⟨k0, k1, -⟩ := RelE_f hE
  obtain ⟨h, hs, bl, bs, cl, cs, nr, n, nh, M, hN', w, lc, mc, kc, ta, rm, pi, mk, q, g1, g2⟩ := hE
  have gp : ∀ j f, j < 6 → gx G 0 31 (Int32.ofNat (p + j)) f = f (p + j) := fun j f hj => gx_t k0 (by omega) (by omega)
  obtain ⟨v, G1, I1, L1, I2, L2, c1, c2, c3, c4, c5, c8⟩ := ca_count (d + 24) q g1 g2 hz (I 0 (p + 1))
  obtain ⟨e0, -, e2, e3, e4⟩ := RelE_f c8
  have c1' : mcal mT (d + 30) 115 [.ref 100, .int (I 0 (p + 1))] (G, I, L) = some (.inl (some (.int v)), (G1, I1, L1)) := c1
  have c4' : mcal mT (d + 30) 288 [.ref 219, .int (I 0 (p + 1))] (G1, I1, L1) = some (.inl (some (.int v)), (G1, I2, L2)) := c4
  have gq : ∀ j f, j < 6 → gx G1 0 31 (Int32.ofNat (p + j)) f = f (p + j) := fun j f hj => gx_t e0 (by rw [c3]; omega) (by omega)
  refine ⟨G1, I2, L2, ?_, c5, c3.trans hN, c8⟩
  rw [e_L_law_2783]
  simp (disch := decide) only [ip, ↓gp, ↓gk_t k1, ↓mcI_of c1', ↓gq, ↓gk_t e2.1, c2, ↓mcI_of c4', if_true]
/-- a step of the law -/
theorem lw_step (d : Nat) (hE : RelE z G I L) (hz : z + 1 ≤ 512) (hN : gN G 0 = N) (hp : p + 6 ≤ N) (hb : N < 2147483648) : Lst (d + 30) p (z + 1) N I (f_L_law (d + 30) 23 [.ref 0, .ref 100, .ref 219, .ref 251, .int (Int32.ofNat p), mU, mU] [] (G, I, L)) := by
  obtain ⟨k0, k1, -⟩ := RelE_f hE
  have gp : ∀ f, gx G 0 31 (Int32.ofNat p) f = f p := fun f => gx_t k0 (by omega) (by omega)
  have n6 : ¬ Int32.ofNat N - 6 < Int32.ofNat p := fun t => by
    rw [show Int32.ofNat N - 6 = Int32.ofNat (N - 6) from i_sub (b := 6) (by omega) (by omega)] at t
    have := (i_lt (by omega) (by omega)).mp t
    omega
  rw [e_L_law_23]
  simp only [↓gk_t k0, hN, if_neg n6, ↓gp]
  by_cases k0 : I 0 p &&& 63 = 0
  · rw [if_pos k0]
    exact lw_feed d hE hz hN hp hb
  rw [if_neg k0]
  by_cases k1 : I 0 p &&& 63 = 1
  · rw [if_pos k1]
    exact lw_house d hE hz hN hp hb
  rw [if_neg k1]
  by_cases k2 : I 0 p &&& 63 = 2
  · rw [if_pos k2]
    exact lw_words d hE hz hN hp hb
  rw [if_neg k2]
  by_cases k3 : I 0 p &&& 63 = 3
  · rw [if_pos k3]
    exact lw_fault d hE hz hN hp hb
  rw [if_neg k3]
  by_cases k4 : I 0 p &&& 63 = 4
  · rw [if_pos k4]
    exact lw_told d hE hz hN hp hb
  rw [if_neg k4]
  by_cases k5 : I 0 p &&& 63 = 5
  · rw [if_pos k5]
    exact lw_room d hE hz hN hp hb
  rw [if_neg k5]
  by_cases k6 : I 0 p &&& 63 = 6
  · rw [if_pos k6]
    exact lw_wall d hE hz hN hp hb
  rw [if_neg k6]
  by_cases k7 : I 0 p &&& 63 = 7
  · rw [if_pos k7]
    exact lw_radiator d hE hz hN hp hb
  rw [if_neg k7]
  by_cases k8 : I 0 p &&& 63 = 8
  · rw [if_pos k8]
    exact lw_out d hE hz hN hp hb
  rw [if_neg k8]
  by_cases k9 : I 0 p &&& 63 = 9
  · rw [if_pos k9]
    exact lw_screw d hE hz hN hp hb
  rw [if_neg k9]
  by_cases k10 : I 0 p &&& 63 = 10
  · rw [if_pos k10]
    exact lw_open d hE hz hN hp hb
  rw [if_neg k10]
  by_cases k11 : I 0 p &&& 63 = 11
  · rw [if_pos k11]
    exact lw_air d hE hz hN hp hb
  rw [if_neg k11]
  by_cases k12 : I 0 p &&& 63 = 12
  · rw [if_pos k12]
    exact lw_night d hE hz hN hp hb
  rw [if_neg k12]
  by_cases k13 : I 0 p &&& 63 = 13
  · rw [if_pos k13]
    exact lw_go d hE hz hN hp hb
  rw [if_neg k13]
  by_cases k14 : I 0 p &&& 63 = 14
  · rw [if_pos k14]
    exact lw_clock d hE hz hN hp hb
  rw [if_neg k14]
  by_cases k15 : I 0 p &&& 63 = 15
  · rw [if_pos k15]
    exact lw_hunts d hE hz hN hp hb
  rw [if_neg k15]
  by_cases k16 : I 0 p &&& 63 = 16
  · rw [if_pos k16]
    exact lw_log d hE hz hN hp hb
  rw [if_neg k16]
  by_cases k17 : I 0 p &&& 63 = 17
  · rw [if_pos k17]
    exact lw_explained d hE hz hN hp hb
  rw [if_neg k17]
  by_cases k18 : I 0 p &&& 63 = 18
  · rw [if_pos k18]
    exact lw_cause d hE hz hN hp hb
  rw [if_neg k18]
  by_cases k19 : I 0 p &&& 63 = 19
  · rw [if_pos k19]
    exact lw_things d hE hz hN hp hb
  rw [if_neg k19]
  by_cases k20 : I 0 p &&& 63 = 20
  · rw [if_pos k20]
    exact lw_balanced d hE hz hN hp hb
  rw [if_neg k20]
  by_cases k21 : I 0 p &&& 63 = 21
  · rw [if_pos k21]
    exact lw_turning d hE hz hN hp hb
  rw [if_neg k21]
  by_cases k22 : I 0 p &&& 63 = 22
  · rw [if_pos k22]
    exact lw_wake d hE hz hN hp hb
  rw [if_neg k22]
  by_cases k23 : I 0 p &&& 63 = 23
  · rw [if_pos k23]
    exact lw_wish d hE hz hN hp hb
  rw [if_neg k23]
  by_cases k24 : I 0 p &&& 63 = 24
  · rw [if_pos k24]
    exact lw_error d hE hz hN hp hb
  rw [if_neg k24]
  by_cases k25 : I 0 p &&& 63 = 25
  · rw [if_pos k25]
    exact lw_part d hE hz hN hp hb
  rw [if_neg k25]
  by_cases k26 : I 0 p &&& 63 = 26
  · rw [if_pos k26]
    exact lw_pays d hE hz hN hp hb
  rw [if_neg k26]
  by_cases k27 : I 0 p &&& 63 = 27
  · rw [if_pos k27]
    exact lw_blame d hE hz hN hp hb
  rw [if_neg k27]
  by_cases k28 : I 0 p &&& 63 = 28
  · rw [if_pos k28]
    exact lw_diary d hE hz hN hp hb
  rw [if_neg k28]
  by_cases k29 : I 0 p &&& 63 = 29
  · rw [if_pos k29]
    exact lw_cold d hE hz hN hp hb
  rw [if_neg k29]
  by_cases k30 : I 0 p &&& 63 = 30
  · rw [if_pos k30]
    exact lw_claim d hE hz hN hp hb
  rw [if_neg k30]
  by_cases k31 : I 0 p &&& 63 = 31
  · rw [if_pos k31]
    exact lw_judge d hE hz hN hp hb
  rw [if_neg k31]
  by_cases k32 : I 0 p &&& 63 = 32
  · rw [if_pos k32]
    exact lw_water d hE hz hN hp hb
  rw [if_neg k32]
  by_cases k33 : I 0 p &&& 63 = 33
  · rw [if_pos k33]
    exact lw_dead d hE hz hN hp hb
  rw [if_neg k33]
  by_cases k34 : I 0 p &&& 63 = 34
  · rw [if_pos k34]
    exact lw_holiday d hE hz hN hp hb
  rw [if_neg k34]
  by_cases k35 : I 0 p &&& 63 = 35
  · rw [if_pos k35]
    exact lw_pump d hE hz hN hp hb
  rw [if_neg k35]
  by_cases k36 : I 0 p &&& 63 = 36
  · rw [if_pos k36]
    exact lw_gauge d hE hz hN hp hb
  rw [if_neg k36]
  by_cases k37 : I 0 p &&& 63 = 37
  · rw [if_pos k37]
    exact lw_burst d hE hz hN hp hb
  rw [if_neg k37]
  by_cases k38 : I 0 p &&& 63 = 38
  · rw [if_pos k38]
    exact lw_wear d hE hz hN hp hb
  rw [if_neg k38]
  by_cases k39 : I 0 p &&& 63 = 39
  · rw [if_pos k39]
    exact lw_mark d hE hz hN hp hb
  rw [if_neg k39]
  by_cases k40 : I 0 p &&& 63 = 40
  · rw [if_pos k40]
    exact lw_back d hE hz hN hp hb
  rw [if_neg k40]
  by_cases k41 : I 0 p &&& 63 = 41
  · rw [if_pos k41]
    exact lw_count d hE hz hN hp hb
  rw [if_neg k41]
  obtain ⟨h, hs, bl, bs, cl, cs, nr, n, nh, M, hN', w, lc, mc, kc, ta, rm, pi, mk, q, g1, g2⟩ := hE
  exact ⟨G, I, L, rfl, rfl, hN, h, hs, bl, bs, cl, cs, nr, n, nh, M, hN', w, lc, mc, kc, ta, rm, pi, mk, Rel_q q q.1 (Nat.le_succ z) hz ⟨fun _ _ => rfl, fun _ _ _ _ _ _ _ => rfl, fun _ _ => rfl, ⟨rfl, rfl, rfl, rfl⟩, fun _ _ _ _ _ => rfl, fun _ _ => rfl⟩, by omega, by omega⟩
/-- the law's loop -/
theorem lw_loop (d : Nat) (hb : N < 2147483640) : ∀ f p z G I L, f + p = N → RelE z G I L → gN G 0 = N → z + f / 6 ≤ 512 → ∃ G' I' L' z', f_L_law (d + 30) 23 [.ref 0, .ref 100, .ref 219, .ref 251, .int (Int32.ofNat p), mU, mU] [] (G, I, L) = some (.inl (some (.int 1)), (G', I', L')) ∧ RelE z' G' I' L' ∧ z' ≤ z + f / 6 := by
  intro f
  induction f using Nat.strongRecOn with
  | ind f ih =>
    intro p z G I L hf hE hN hz
    by_cases h6 : f < 6
    · have k0 := (RelE_f hE).1
      refine ⟨G, I, L, z, ?_, hE, by omega⟩
      rw [e_L_law_23]
      have n6 : Int32.ofNat N - 6 < Int32.ofNat p := by
        rw [Int32.lt_iff_toInt_lt, i_of (by omega)]
        have e6 : (6 : Int32).toInt = 6 := by decide
        by_cases N6 : 6 ≤ N
        · rw [show Int32.ofNat N - 6 = Int32.ofNat (N - 6) from i_sub (b := 6) (by omega) (by omega), i_of (by omega)]
          omega
        · have : ∀ n : Fin 6, (Int32.ofNat n.val - 6).toInt < 0 := by decide
          have t6 : (Int32.ofNat N - 6).toInt < 0 := this ⟨N, by omega⟩
          omega
      simp only [↓gk_t k0, hN, if_pos n6, e_L_law_2814, mb1]
    · obtain ⟨G1, I1, L1, e, e1, e2, e3⟩ := lw_step d hE (by omega) hN (show p + 6 ≤ N by omega) (by omega)
      obtain ⟨G2, I2, L2, z2, x1, x2, x3⟩ := ih (f - 6) (by omega) (p + 6) (z + 1) G1 I1 L1 (by omega) e3 e2 (by omega)
      refine ⟨G2, I2, L2, z2, ?_, x2, by omega⟩
      rw [e, e_L_law_2808, show Int32.ofNat p + 6 = Int32.ofNat (p + 6) from i_add p 6]
      exact x1
end
