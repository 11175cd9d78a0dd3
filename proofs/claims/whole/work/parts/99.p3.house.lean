/-! a house, read: walls, sun, radiators -/
section
variable {G G2 : mG} {I J : Nat → Nat → Int32} {L K : Nat → Nat → Int64} {B : Nat → Nat} {e a x nr n c : Nat}
theorem kr_wall (d r : Nat) (lX : LayX G 101) (lH : LayH G x) (lM : LayM G2 219) (q : PrH B e a x nr n c I J) : OutK B e a x c (r + 5) I J G G2 L K (mcal mT (d + 6) 40 [.ref x, .ref 101] (G, I, L)) (gk G2 219 13 (mcV (mcal mT (r + 5) 192 [.ref 219] (G2, J, K)) (fun h62 => f_X12_readClause (r + 5) 528 [.ref 219, mU, mU, mU, mU, mU, mU] [] h62) mthr)) := by
  have z1 : ¬ (1 : Int32) = 0 := by decide
  obtain ⟨q1, q2, q3, q4, q5⟩ := id q
  obtain ⟨⟨a1, a2, a3, a4, a5, a6, a7, a8, a9⟩, -⟩ := id q3
  have i1 : I x 1 = Int32.ofNat nr := a4
  have i10 : I x 10 = Int32.ofNat n := a7
  rw [q_X12_readWall_, e_X12_readWall_0]
  -- after a fault
  have ne : ∀ (J1 : Nat → Nat → Int32) (v1 v2 : Int32), ¬ J1 219 6 = -1 → f_X12_readWall (r + 4) 51 [.ref 219, .int v1, mU, mU, .int v2, mU] [] (G2, J1, K) = some (.inl none, (G2, J1, K)) := by
    intro J1 v1 v2 nf
    have fi := r_fineN (r + 3) (K := K) lM nf
    rw [e_X12_readWall_51]
    simp only [↓vM lM, ↓mcI_of (rk_numN (r + 2) (K := K) 0 99 lM nf), ↓mcI_of fi, if_true]
  rcases mr_pair (d + 2) (r + 1) (L := L) (K := K) lX lH lM q1 q2 i1 a5 a6 with ⟨I1, J1, v1, b1, f2, c1, c2, c3, c4, c5, c6, c7, c8, c9, -⟩ | ⟨I1, J1, k1, p1, c1, c2, c3, c4, c5, c6, c7, c8, c9⟩
  · have fi1 := r_fine (r + 3) (K := K) lM c6.2.2.2.2.1
    obtain ⟨J1h, w1, w2, w3, w4⟩ := rk_here (r + 3) (K := K) lM c6
    have j5 : J1h 219 5 = Int32.ofNat (skb B e b1) := w3.2.1
    have i11 : I1 x 1 = Int32.ofNat nr := by rw [c3.1 x (by omega)]; exact i1
    have j13 : J1h 221 163 = Int32.ofNat nr := by rw [w2.1 221 (by decide), c4.1 221 (by decide)]; exact a5
    have b1e := c5.2.2.1
    have e5 := c5.2.2.2.1
    have bbs := skb_b (B := B) (e := e) (a := b1) b1e
    rcases mr_pair2 (d + 2) (r + 1) (L := L) (K := K) lX lH lM c5 w3 i11 j13 a6 with ⟨I2, J2, v2, b2, g2, d1, d2, d3, d4, d5, d6, d7, d8, d9, d10⟩ | ⟨I2, J2, k2, p2, d1, d2, d3, d4, d5, d6, d7, d8, d9⟩
    · have fi2 := r_fine (r + 3) (K := K) lM d6.2.2.2.2.1
      have er20 : ∀ Z, f_X12_readWall (r + 4) 20 [.ref 219, .int (Int32.ofNat v1), mU, mU, mU, mU] [.int (Int32.ofNat (hre B e b1))] (G2, J1h, K) = Z → (gk G2 219 13 (mcI (mcal mT (r + 4) 191 [.ref 219] (G2, J, K)) (fun v2 h1 => gk h1.1 219 13 (mcI (mcal mT (r + 4) 179 [.ref 219] h1) (fun v4 h3 => (if v4 = 0 then f_X12_readWall (r + 4) 19 [.ref 219, .int v2, mU, mU, mU, mU] [] h3 else gk h3.1 219 13 (mcI (mcal mT (r + 4) 181 [.ref 219] h3) (fun v6 h5 => f_X12_readWall (r + 4) 20 [.ref 219, .int v2, mU, mU, mU, mU] [.int v6] h5) mthr))) mthr)) mthr)) = Z := by
        intro Z hZ
        simp only [↓vM lM, ↓mcI_of c2, ↓mcI_of fi1, if_neg z1, ↓mcI_of w1]
        exact hZ
      by_cases same : v1 = v2
      · -- the same room
        have sm1 : Int32.ofNat v1 = Int32.ofNat v2 := by rw [same]
        have sm2 : Int32.ofNat v2 = Int32.ofNat v1 := sm1.symm
        obtain ⟨I3, t1, t2, t3, t4⟩ := tk_fail (d + 4) (I := I2) (L := L) 2 (Int32.ofNat (skb B e b1)) lX
        have w := r_wrong (r + 3) (K := K) 2 (Int32.ofNat (skb B e b1)) lM d6.2.2.2.2.1
        generalize hJ3 : va_up J2 219 (va_up (va_up (J2 219) 6 (Int32.ofNat (skb B e b1))) 7 2) = J3 at w
        have o3 : RdO J2 J3 := by
          have := RdO_u (k := 7) (v := 2) (RdO_u (k := 6) (v := Int32.ofNat (skb B e b1)) (RdO_i (J := J2)) (by omega)) (by omega)
          rw [up_eq, up_up, hJ3] at this
          exact this
        have j36 : J3 219 6 = Int32.ofNat (skb B e b1) := by rw [← hJ3, up_eq, up_ne (by decide), up_eq]
        have j37 : J3 219 7 = 2 := by rw [← hJ3, up_eq, up_eq]
        have nf : ¬ J3 219 6 = -1 := by rw [j36]; exact nm1 (by omega)
        refine Or.inr ⟨I3, J3, 2, skb B e b1, ?_, ?_, t3, t4, j36, j37, by omega, HcF_x (TxO_t (TxO_t c3 d3) t2), HjF_x (RdO_t (RdO_t (RdO_t c4 w2) d4) o3)⟩
        · rw [q_X4_readWall_, e_X4_readWall_0]
          simp only [↓vH lH, ↓mcI_of c1, if_neg z1, e_X4_readWall_10, ↓vX lX, c7, ↓mcI_of d1, e_X4_readWall_25, d7, if_pos sm2, d10, ↓mcI_of t1, mb0]
        · rw [er20 (some (.inl none, (G2, J3, K))) (by
            rw [e_X12_readWall_20]
            simp only [↓vM lM, ↓mcI_of d2, ↓mcI_of fi2, if_neg z1, if_pos sm1, j5, ↓mcV_of w]
            exact ne J3 _ _ nf)]
          simp only [↓vM lM, mcV_v]
      · have sm1 : ¬ Int32.ofNat v1 = Int32.ofNat v2 := fun z => same ((i_eq (by omega) (by omega)).mp z)
        have sm2 : ¬ Int32.ofNat v2 = Int32.ofNat v1 := fun z => sm1 z.symm
        have er51 : (gk G2 219 13 (mcI (mcal mT (r + 4) 191 [.ref 219] (G2, J, K)) (fun v2 h1 => gk h1.1 219 13 (mcI (mcal mT (r + 4) 179 [.ref 219] h1) (fun v4 h3 => (if v4 = 0 then f_X12_readWall (r + 4) 19 [.ref 219, .int v2, mU, mU, mU, mU] [] h3 else gk h3.1 219 13 (mcI (mcal mT (r + 4) 181 [.ref 219] h3) (fun v6 h5 => f_X12_readWall (r + 4) 20 [.ref 219, .int v2, mU, mU, mU, mU] [.int v6] h5) mthr))) mthr)) mthr)) = f_X12_readWall (r + 4) 51 [.ref 219, .int (Int32.ofNat v1), mU, mU, .int (Int32.ofNat v2), mU] [] (G2, J2, K) := by
          refine er20 _ ?_
          rw [e_X12_readWall_20]
          simp only [↓vM lM, ↓mcI_of d2, ↓mcI_of fi2, if_neg z1, if_neg sm1]
        rw [er51, e_X12_readWall_51]
        rcases nm_pair (d + 3) (r + 2) (L := L) (K := K) (lo := 0) (h1 := 100) (hi := 99) (by decide) lX lM d5 d6 (by decide) (by decide) with ⟨I3, J3, v3, b3, k1, k2, t1, t2, t3, t4, t5, t6, t7, t8, t9, -⟩ | ⟨I3, J3, k3, p3, t1, t2, t3, t4, t5, t6, t7, t8, t9⟩
        · have t1' : mcal mT (d + 5) 94 [.ref 101, .int 0, .int 99] (G, I2, L) = some (.inl (some (.int 1)), (G, I3, L)) := t1
          have t2' : mcal mT (r + 4) 187 [.ref 219, .int 0, .int 99] (G2, J2, K) = some (.inl (some (.int (Int32.ofNat v3))), (G2, J3, K)) := t2
          have fi3 := r_fine (r + 3) (K := K) lM t6.2.2.2.2.1
          have m1 : Int32.ofNat v1 * 8 + Int32.ofNat v2 = Int32.ofNat (v1 * 8 + v2) := by rw [show (8 : Int32) = Int32.ofNat 8 from rfl, i_mul, i_add]
          have m2 : Int32.ofNat v2 * 8 + Int32.ofNat v1 = Int32.ofNat (v2 * 8 + v1) := by rw [show (8 : Int32) = Int32.ofNat 8 from rfl, i_mul, i_add]
          have m3 : (56 : Int32) + 8 * Int32.ofNat v1 + Int32.ofNat v2 = Int32.ofNat (56 + 8 * v1 + v2) := by rw [show (8 : Int32) = Int32.ofNat 8 from rfl, i_mul, show (56 : Int32) = Int32.ofNat 56 from rfl, i_add, i_add]
          have m4 : (56 : Int32) + 8 * Int32.ofNat v2 + Int32.ofNat v1 = Int32.ofNat (56 + 8 * v2 + v1) := by rw [show (8 : Int32) = Int32.ofNat 8 from rfl, i_mul, show (56 : Int32) = Int32.ofNat 56 from rfl, i_add, i_add]
          have u2 : ∀ R, va_up I3 (x + 3) R 101 = I3 101 := fun R => up_ne (by omega)
          refine Or.inl ⟨va_up I3 (x + 3) (va_up (va_up (I3 (x + 3)) (v1 * 8 + v2) (Int32.ofNat v3)) (v2 * 8 + v1) (Int32.ofNat v3)), va_up J3 221 (va_up (va_up (J3 221) (56 + 8 * v1 + v2) (Int32.ofNat v3)) (56 + 8 * v2 + v1) (Int32.ofNat v3)), b3, nr, n, ?_, ?_, ⟨TxR_u t5 q4, RdR_u t6, ?_, q4, by rw [up_ne (by omega), t8, d8, c8]; exact q5⟩, HcF_u (HcF_x (TxO_t (TxO_t c3 d3) t3)) q4 (by decide), HjF_u (HjF_x (RdO_t (RdO_t (RdO_t c4 w2) d4) t4)), by omega⟩
          · rw [q_X4_readWall_, e_X4_readWall_0]
            simp (disch := omega) only [↓vH lH, ↓mcI_of c1, if_neg z1, e_X4_readWall_10, ↓vX lX, c7, ↓mcI_of d1, e_X4_readWall_25, d7, if_neg sm2, e_X4_readWall_45, ↓mcI_of t1', e_X4_readWall_57, m1, m2, t7, up2_e, u2, up_eq, up_up, mb1]
          · simp (disch := omega) only [↓vM lM, ↓mcI_of t2', ↓mcI_of fi3, if_neg z1, e_X12_readWall_68, m3, m4, up2_e, up_eq, up_up, mcV_v]
          · rw [hrw_u, up_eq, hrw_o t3 q4, hrw_o d3 q4, hrw_o c3 q4, show J3 221 = J 221 by rw [t4.1 221 (by decide), d4.1 221 (by decide), w2.1 221 (by decide), c4.1 221 (by decide)], show I3 (x + 3) = I (x + 3) by rw [t3.1 (x + 3) (by omega), d3.1 (x + 3) (by omega), c3.1 (x + 3) (by omega)]]
            exact Hr_wall q3 (by omega) (by omega) k2
        · have t1' : mcal mT (d + 5) 94 [.ref 101, .int 0, .int 99] (G, I2, L) = some (.inl (some (.int 0)), (G, I3, L)) := t1
          have t2' : mcal mT (r + 4) 187 [.ref 219, .int 0, .int 99] (G2, J2, K) = some (.inl (some (.int 0)), (G2, J3, K)) := t2
          have fi3 := r_fineN (r + 3) (J := J3) (K := K) lM (by rw [t7]; exact nm1 (by omega))
          refine Or.inr ⟨I3, J3, k3, p3, ?_, ?_, t5, t6, t7, t8, t9, HcF_x (TxO_t (TxO_t c3 d3) t3), HjF_x (RdO_t (RdO_t (RdO_t c4 w2) d4) t4)⟩
          · rw [q_X4_readWall_, e_X4_readWall_0]
            simp only [↓vH lH, ↓mcI_of c1, if_neg z1, e_X4_readWall_10, ↓vX lX, c7, ↓mcI_of d1, e_X4_readWall_25, d7, if_neg sm2, e_X4_readWall_45, ↓mcI_of t1', if_true, mb0]
          · simp only [↓vM lM, ↓mcI_of t2', ↓mcI_of fi3, if_true, mcV_v]
    · have nf : ¬ J2 219 6 = -1 := by rw [d7]; exact nm1 (by omega)
      have fi2 := r_fineN (r + 3) (K := K) lM nf
      refine Or.inr ⟨I2, J2, k2, p2, ?_, ?_, d5, d6, d7, d8, d9, HcF_x (TxO_t c3 d3), HjF_x (RdO_t (RdO_t c4 w2) d4)⟩
      · rw [q_X4_readWall_, e_X4_readWall_0]
        simp only [↓vH lH, ↓mcI_of c1, if_neg z1, e_X4_readWall_10, ↓vX lX, c7, ↓mcI_of d1, if_true, mb0]
      · simp only [↓vM lM, ↓mcI_of c2, ↓mcI_of fi1, if_neg z1, ↓mcI_of w1, e_X12_readWall_20, ↓mcI_of d2, ↓mcI_of fi2, if_true, ne J2 _ _ nf, mcV_v]
  · have nf : ¬ J1 219 6 = -1 := by rw [c7]; exact nm1 (by omega)
    have fi1 := r_fineN (r + 3) (K := K) lM nf
    refine Or.inr ⟨I1, J1, k1, p1, ?_, ?_, c5, c6, c7, c8, c9, HcF_x c3, HjF_x c4⟩
    · rw [q_X4_readWall_, e_X4_readWall_0]
      simp only [↓vH lH, ↓mcI_of c1, if_true, mb0]
    · simp only [↓vM lM, ↓mcI_of c2, ↓mcI_of fi1, if_true, e_X12_readWall_19, e_X12_readWall_20, ↓mcI_of (mr_N (r + 1) (K := K) lM nf), ne J1 _ _ nf, mcV_v]
theorem kr_sun (d r : Nat) (lX : LayX G 101) (lH : LayH G x) (lM : LayM G2 219) (q : PrH B e a x nr n c I J) : OutK B e a x c (r + 5) I J G G2 L K (mcal mT (d + 6) 42 [.ref x, .ref 101] (G, I, L)) (gk G2 219 13 (mcV (mcal mT (r + 5) 193 [.ref 219] (G2, J, K)) (fun h81 => f_X12_readClause (r + 5) 528 [.ref 219, mU, mU, mU, mU, mU, mU] [] h81) mthr)) := by
  have z1 : ¬ (1 : Int32) = 0 := by decide
  obtain ⟨q1, q2, q3, q4, q5⟩ := id q
  obtain ⟨⟨a1, a2, a3, a4, a5, a6, a7, a8, a9⟩, -⟩ := id q3
  have i1 : I x 1 = Int32.ofNat nr := a4
  have i10 : I x 10 = Int32.ofNat n := a7
  rw [q_X12_readSun_, e_X12_readSun_0]
  have ne : ∀ (J1 : Nat → Nat → Int32) (v1 v2 v3 : Int32), ¬ J1 219 6 = -1 → f_X12_readSun (r + 4) 36 [.ref 219, .int v1, .int v2, .int v3, mU] [.ref 219] (G2, J1, K) = some (.inl none, (G2, J1, K)) := by
    intro J1 v1 v2 v3 nf
    have fi := r_fineN (r + 3) (K := K) lM nf
    rw [e_X12_readSun_36, e_X12_readSun_37]
    simp only [↓vM lM, ↓mcI_of (rk_numN (r + 2) (K := K) 0 24 lM nf), ↓mcI_of fi, if_true]
  rcases mr_pair (d + 2) (r + 1) (L := L) (K := K) lX lH lM q1 q2 i1 a5 a6 with ⟨I1, J1, v1, b1, f2, c1, c2, c3, c4, c5, c6, c7, c8, c9, -⟩ | ⟨I1, J1, k1, p1, c1, c2, c3, c4, c5, c6, c7, c8, c9⟩
  · rcases nm_pair (d + 3) (r + 2) (L := L) (K := K) (lo := 0) (h1 := 1000) (hi := 999) (by decide) lX lM c5 c6 (by decide) (by decide) with ⟨I2, J2, v2, b2, g1, g2, d1, d2, d3, d4, d5, d6, d7, d8, d9, -⟩ | ⟨I2, J2, k2, p2, d1, d2, d3, d4, d5, d6, d7, d8, d9⟩
    · have d1' : mcal mT (d + 5) 94 [.ref 101, .int 0, .int 999] (G, I1, L) = some (.inl (some (.int 1)), (G, I2, L)) := d1
      have d2' : mcal mT (r + 4) 187 [.ref 219, .int 0, .int 999] (G2, J1, K) = some (.inl (some (.int (Int32.ofNat v2))), (G2, J2, K)) := d2
      have t3x : TxR B e b2 (va_up I2 (x + 6) (va_up (I2 (x + 6)) v1 (Int32.ofNat v2))) := TxR_u d5 q4
      rcases nm_pair (d + 3) (r + 2) (L := L) (K := K) (lo := 0) (h1 := 25) (hi := 24) (by decide) lX lM t3x d6 (by decide) (by decide) with ⟨I3, J3, v3, b3, k1, k2, t1, t2, t3, t4, t5, t6, t7, t8, t9, -⟩ | ⟨I3, J3, k3, p3, t1, t2, t3, t4, t5, t6, t7, t8, t9⟩
      · have t1' : mcal mT (d + 5) 94 [.ref 101, .int 0, .int 24] (G, va_up I2 (x + 6) (va_up (I2 (x + 6)) v1 (Int32.ofNat v2)), L) = some (.inl (some (.int 1)), (G, I3, L)) := t1
        have t2' : mcal mT (r + 4) 187 [.ref 219, .int 0, .int 24] (G2, J2, K) = some (.inl (some (.int (Int32.ofNat v3))), (G2, J3, K)) := t2
        have fi3 := r_fine (r + 3) (K := K) lM t6.2.2.2.2.1
        have t4x : TxR B e b3 (va_up I3 (x + 7) (va_up (I3 (x + 7)) v1 (Int32.ofNat v3))) := TxR_u t5 q4
        have u37 : ∀ R, va_up I3 (x + 7) R 101 5 = Int32.ofNat v3 := fun R => by rw [up_ne (by omega)]; exact t7
        rcases nm_pair (d + 3) (r + 2) (L := L) (K := K) (lo := v3 + 1) (h1 := 25) (hi := 24) (by decide) lX lM t4x t6 (by omega) (by decide) with ⟨I4, J4, v4, b4, l1, l2, s1, s2, s3, s4, s5, s6, s7, s8, s9, -⟩ | ⟨I4, J4, k4, p4, s1, s2, s3, s4, s5, s6, s7, s8, s9⟩
        · have fi4 := r_fine (r + 3) (K := K) lM s6.2.2.2.2.1
          have e32 : (32 : Int32) + Int32.ofNat v1 = Int32.ofNat (32 + v1) := i_add 32 v1
          have e40 : (40 : Int32) + Int32.ofNat v1 = Int32.ofNat (40 + v1) := i_add 40 v1
          have e48 : (48 : Int32) + Int32.ofNat v1 = Int32.ofNat (48 + v1) := i_add 48 v1
          refine Or.inl ⟨va_up I4 (x + 8) (va_up (I4 (x + 8)) v1 (Int32.ofNat v4)), va_up J4 221 (va_up (va_up (va_up (J4 221) (32 + v1) (Int32.ofNat v2)) (40 + v1) (Int32.ofNat v3)) (48 + v1) (Int32.ofNat v4)), b4, nr, n, ?_, ?_, ⟨TxR_u s5 q4, RdR_u s6, ?_, q4, by rw [up_ne (by omega), s8, up_ne (by omega), t8, up_ne (by omega), d8, c8]; exact q5⟩, HcF_u (HcF_t (HcF_u (HcF_t (HcF_u (HcF_x (TxO_t c3 d3)) q4 (by decide)) (HcF_x t3)) q4 (by decide)) (HcF_x s3)) q4 (by decide), HjF_u (HjF_x (RdO_t (RdO_t (RdO_t c4 d4) t4) s4)), by omega⟩
          · rw [q_X4_readSun_, e_X4_readSun_0]
            simp (disch := omega) only [↓vH lH, ↓mcI_of c1, if_neg z1, e_X4_readSun_10, ↓vX lX, c7, ↓mcI_of d1', e_X4_readSun_28, d7, up2_e, ↓mcI_of t1', e_X4_readSun_50, t7, u37, i_one, ↓mcI_of s1, e_X4_readSun_77, s7, mb1]
          · simp (disch := omega) only [↓vM lM, ↓mcI_of c2, ↓mcI_of d2', ↓mcI_of t2', ↓mcI_of fi3, if_neg z1, i_one, e_X12_readSun_37, ↓mcI_of s2, ↓mcI_of fi4, e_X12_readSun_52, e32, e40, e48, up2_e, up_eq, up_up, mcV_v]
          · rw [hrw_u, up_eq, hrw_o s3 q4, hrw_u, hrw_o t3 q4, hrw_u, hrw_o d3 q4, hrw_o c3 q4, show J4 221 = J 221 by rw [s4.1 221 (by decide), t4.1 221 (by decide), d4.1 221 (by decide), c4.1 221 (by decide)], show I4 (x + 8) = I (x + 8) by rw [s3.1 (x + 8) (by omega), up_ne (by omega), t3.1 (x + 8) (by omega), up_ne (by omega), d3.1 (x + 8) (by omega), c3.1 (x + 8) (by omega)], show I3 (x + 7) = I (x + 7) by rw [t3.1 (x + 7) (by omega), up_ne (by omega), d3.1 (x + 7) (by omega), c3.1 (x + 7) (by omega)], show I2 (x + 6) = I (x + 6) by rw [d3.1 (x + 6) (by omega), c3.1 (x + 6) (by omega)]]
            exact Hr_sun q3 (by omega)
        · have fi4 := r_fineN (r + 3) (J := J4) (K := K) lM (by rw [s7]; exact nm1 (by omega))
          refine Or.inr ⟨I4, J4, k4, p4, ?_, ?_, s5, s6, s7, s8, s9, HcF_t (HcF_u (HcF_t (HcF_u (HcF_x (TxO_t c3 d3)) q4 (by decide)) (HcF_x t3)) q4 (by decide)) (HcF_x s3), HjF_x (RdO_t (RdO_t (RdO_t c4 d4) t4) s4)⟩
          · rw [q_X4_readSun_, e_X4_readSun_0]
            simp (disch := omega) only [↓vH lH, ↓mcI_of c1, if_neg z1, e_X4_readSun_10, ↓vX lX, c7, ↓mcI_of d1', e_X4_readSun_28, d7, up2_e, ↓mcI_of t1', e_X4_readSun_50, t7, u37, i_one, ↓mcI_of s1, if_true, mb0]
          · simp (disch := omega) only [↓vM lM, ↓mcI_of c2, ↓mcI_of d2', ↓mcI_of t2', ↓mcI_of fi3, if_neg z1, i_one, e_X12_readSun_37, ↓mcI_of s2, ↓mcI_of fi4, if_true, mcV_v]
      · have t1' : mcal mT (d + 5) 94 [.ref 101, .int 0, .int 24] (G, va_up I2 (x + 6) (va_up (I2 (x + 6)) v1 (Int32.ofNat v2)), L) = some (.inl (some (.int 0)), (G, I3, L)) := t1
        have t2' : mcal mT (r + 4) 187 [.ref 219, .int 0, .int 24] (G2, J2, K) = some (.inl (some (.int 0)), (G2, J3, K)) := t2
        have nf : ¬ J3 219 6 = -1 := by rw [t7]; exact nm1 (by omega)
        have fi3 := r_fineN (r + 3) (K := K) lM nf
        refine Or.inr ⟨I3, J3, k3, p3, ?_, ?_, t5, t6, t7, t8, t9, HcF_t (HcF_u (HcF_x (TxO_t c3 d3)) q4 (by decide)) (HcF_x t3), HjF_x (RdO_t (RdO_t c4 d4) t4)⟩
        · rw [q_X4_readSun_, e_X4_readSun_0]
          simp (disch := omega) only [↓vH lH, ↓mcI_of c1, if_neg z1, e_X4_readSun_10, ↓vX lX, c7, ↓mcI_of d1', e_X4_readSun_28, d7, up2_e, ↓mcI_of t1', if_true, mb0]
        · simp only [↓vM lM, ↓mcI_of c2, ↓mcI_of d2', ↓mcI_of t2', ↓mcI_of fi3, if_true, ne J3 _ _ _ nf, mcV_v]
    · have d1' : mcal mT (d + 5) 94 [.ref 101, .int 0, .int 999] (G, I1, L) = some (.inl (some (.int 0)), (G, I2, L)) := d1
      have d2' : mcal mT (r + 4) 187 [.ref 219, .int 0, .int 999] (G2, J1, K) = some (.inl (some (.int 0)), (G2, J2, K)) := d2
      have nf : ¬ J2 219 6 = -1 := by rw [d7]; exact nm1 (by omega)
      have fi2 := r_fineN (r + 3) (K := K) lM nf
      refine Or.inr ⟨I2, J2, k2, p2, ?_, ?_, d5, d6, d7, d8, d9, HcF_x (TxO_t c3 d3), HjF_x (RdO_t c4 d4)⟩
      · rw [q_X4_readSun_, e_X4_readSun_0]
        simp only [↓vH lH, ↓mcI_of c1, if_neg z1, e_X4_readSun_10, ↓vX lX, c7, ↓mcI_of d1', if_true, mb0]
      · simp only [↓vM lM, ↓mcI_of c2, ↓mcI_of d2', ↓mcI_of (rk_numN (r + 2) (K := K) 0 24 lM nf), ↓mcI_of fi2, if_true, ne J2 _ _ _ nf, mcV_v]
  · have nf : ¬ J1 219 6 = -1 := by rw [c7]; exact nm1 (by omega)
    have fi1 := r_fineN (r + 3) (K := K) lM nf
    refine Or.inr ⟨I1, J1, k1, p1, ?_, ?_, c5, c6, c7, c8, c9, HcF_x c3, HjF_x c4⟩
    · rw [q_X4_readSun_, e_X4_readSun_0]
      simp only [↓vH lH, ↓mcI_of c1, if_true, mb0]
    · simp only [↓vM lM, ↓mcI_of c2, ↓mcI_of (rk_numN (r + 2) (K := K) 0 999 lM nf), ↓mcI_of (rk_numN (r + 2) (K := K) 0 24 lM nf), ↓mcI_of fi1, if_true, ne J1 _ _ _ nf, mcV_v]
theorem kr_rad (d r : Nat) (lX : LayX G 101) (lH : LayH G x) (lM : LayM G2 219) (q : PrH B e a x nr n c I J) (hn : n < 8) : OutK B e a x c (r + 5) I J G G2 L K (mcal mT (d + 6) 43 [.ref x, .ref 101] (G, I, L)) (gk G2 219 13 (mcV (mcal mT (r + 5) 194 [.ref 219] (G2, J, K)) (fun h84 => f_X12_readClause (r + 5) 528 [.ref 219, mU, mU, mU, mU, mU, mU] [] h84) mthr)) := by
  have z1 : ¬ (1 : Int32) = 0 := by decide
  obtain ⟨q1, q2, q3, q4, q5⟩ := id q
  obtain ⟨⟨a1, a2, a3, a4, a5, a6, a7, a8, a9⟩, -⟩ := id q3
  have i1 : I x 1 = Int32.ofNat nr := a4
  have i10 : I x 10 = Int32.ofNat n := a7
  rw [q_X12_readRadiator_, e_X12_readRadiator_0]
  have n8 : ¬ (8 : Int32) ≤ Int32.ofNat n := fun t => by have := (i_le (a := 8) (by decide) (by omega)).mp t; omega
  rcases mr_pair (d + 2) (r + 1) (L := L) (K := K) lX lH lM q1 q2 i1 a5 a6 with ⟨I1, J1, v1, b1, f2, c1, c2, c3, c4, c5, c6, c7, c8, c9, -⟩ | ⟨I1, J1, k1, p1, c1, c2, c3, c4, c5, c6, c7, c8, c9⟩
  · have j10 : I1 x 10 = Int32.ofNat n := by rw [c3.1 x (by omega)]; exact i10
    have t2x : TxR B e b1 (va_up I1 (x + 9) (va_up (I1 (x + 9)) n (Int32.ofNat v1))) := TxR_u c5 q4
    rcases nm_pair (d + 3) (r + 2) (L := L) (K := K) (lo := 0) (h1 := 4) (hi := 3) (by decide) lX lM t2x c6 (by decide) (by decide) with ⟨I2, J2, v2, b2, g1, g2, d1, d2, d3, d4, d5, d6, d7, d8, d9, -⟩ | ⟨I2, J2, k2, p2, d1, d2, d3, d4, d5, d6, d7, d8, d9⟩
    · have d1' : mcal mT (d + 5) 94 [.ref 101, .int 0, .int 3] (G, va_up I1 (x + 9) (va_up (I1 (x + 9)) n (Int32.ofNat v1)), L) = some (.inl (some (.int 1)), (G, I2, L)) := d1
      have d2' : mcal mT (r + 4) 187 [.ref 219, .int 0, .int 3] (G2, J1, K) = some (.inl (some (.int (Int32.ofNat v2))), (G2, J2, K)) := d2
      have j20 : I2 x 10 = Int32.ofNat n := by rw [d3.1 x (by omega), up_ne (by omega)]; exact j10
      have t3x : TxR B e b2 (va_up I2 (x + 10) (va_up (I2 (x + 10)) n (Int32.ofNat v2))) := TxR_u d5 q4
      rcases nm_pair (d + 3) (r + 2) (L := L) (K := K) (lo := 1) (h1 := 100) (hi := 99) (by decide) lX lM t3x d6 (by decide) (by decide) with ⟨I3, J3, v3, b3, k1, k2, t1, t2, t3, t4, t5, t6, t7, t8, t9, -⟩ | ⟨I3, J3, k3, p3, t1, t2, t3, t4, t5, t6, t7, t8, t9⟩
      · have t1' : mcal mT (d + 5) 94 [.ref 101, .int 1, .int 99] (G, va_up I2 (x + 10) (va_up (I2 (x + 10)) n (Int32.ofNat v2)), L) = some (.inl (some (.int 1)), (G, I3, L)) := t1
        have t2' : mcal mT (r + 4) 187 [.ref 219, .int 1, .int 99] (G2, J2, K) = some (.inl (some (.int (Int32.ofNat v3))), (G2, J3, K)) := t2
        have fi3 := r_fine (r + 3) (K := K) lM t6.2.2.2.2.1
        have j30 : I3 x 10 = Int32.ofNat n := by rw [t3.1 x (by omega), up_ne (by omega)]; exact j20
        have jn : J3 221 164 = Int32.ofNat n := by rw [t4.1 221 (by decide), d4.1 221 (by decide), c4.1 221 (by decide)]; exact a8
        have e1 : (120 : Int32) + Int32.ofNat n = Int32.ofNat (120 + n) := i_add 120 n
        have e2 : (128 : Int32) + Int32.ofNat n = Int32.ofNat (128 + n) := i_add 128 n
        have e3 : (136 : Int32) + Int32.ofNat n = Int32.ofNat (136 + n) := i_add 136 n
        have e4 : (144 : Int32) + Int32.ofNat n = Int32.ofNat (144 + n) := i_add 144 n
        have e5 : (152 : Int32) + Int32.ofNat n = Int32.ofNat (152 + n) := i_add 152 n
        have u3 : va_up I3 (x + 11) (va_up (I3 (x + 11)) n (Int32.ofNat v3)) x = I3 x := up_ne (by omega)
        have un : va_up (va_up (va_up (va_up (va_up (J3 221) (120 + n) (Int32.ofNat v1)) (128 + n) (Int32.ofNat v2)) (136 + n) (Int32.ofNat v3)) (144 + n) 0) (152 + n) 0 164 = Int32.ofNat n := by rw [up_ne (by omega), up_ne (by omega), up_ne (by omega), up_ne (by omega), up_ne (by omega)]; exact jn
        refine Or.inl ⟨va_up (va_up I3 (x + 11) (va_up (I3 (x + 11)) n (Int32.ofNat v3))) (x + 0) (va_up (I3 x) 10 (Int32.ofNat (n + 1))), va_up J3 221 (va_up (va_up (va_up (va_up (va_up (va_up (J3 221) (120 + n) (Int32.ofNat v1)) (128 + n) (Int32.ofNat v2)) (136 + n) (Int32.ofNat v3)) (144 + n) 0) (152 + n) 0) 164 (Int32.ofNat (n + 1))), b3, nr, n + 1, ?_, ?_, ⟨TxR_u (TxR_u t5 q4) q4, RdR_u t6, ?_, q4, by rw [up_ne (by omega), up_ne (by omega), t8, up_ne (by omega), d8, up_ne (by omega), c8]; exact q5⟩, HcF_u (HcF_u (HcF_t (HcF_u (HcF_t (HcF_u (HcF_x c3) q4 (by decide)) (HcF_x d3)) q4 (by decide)) (HcF_x t3)) q4 (by decide)) q4 (by decide), HjF_u (HjF_x (RdO_t (RdO_t c4 d4) t4)), by omega⟩
        · rw [q_X4_readRadiator_, e_X4_readRadiator_0]
          simp (disch := omega) only [↓vH lH, i10, if_neg n8, ↓mcI_of c1, if_neg z1, e_X4_readRadiator_19, ↓vX lX, j10, c7, up2_e, ↓mcI_of d1', e_X4_readRadiator_43, j20, d7, ↓mcI_of t1', e_X4_readRadiator_68, j30, t7, u3, i_one, mb1]
          rfl
        · simp (disch := omega) only [↓vM lM, ↓mcI_of c2, ↓mcI_of d2', ↓mcI_of t2', ↓mcI_of fi3, if_neg z1, e_X12_readRadiator_28, jn, e1, e2, e3, e4, e5, up2_e, up_eq, up_up, un, i_one, mcV_v]
        · rw [hrw_u, hrw_u, up_eq, hrw_o t3 q4, hrw_u, hrw_o d3 q4, hrw_u, hrw_o c3 q4, show J3 221 = J 221 by rw [t4.1 221 (by decide), d4.1 221 (by decide), c4.1 221 (by decide)], show I3 x = I x by rw [t3.1 x (by omega), up_ne (by omega), d3.1 x (by omega), up_ne (by omega), c3.1 x (by omega)], show I3 (x + 11) = I (x + 11) by rw [t3.1 (x + 11) (by omega), up_ne (by omega), d3.1 (x + 11) (by omega), up_ne (by omega), c3.1 (x + 11) (by omega)], show I2 (x + 10) = I (x + 10) by rw [d3.1 (x + 10) (by omega), up_ne (by omega), c3.1 (x + 10) (by omega)], show I1 (x + 9) = I (x + 9) by rw [c3.1 (x + 9) (by omega)]]
          exact Hr_rad q3 hn f2 g2 k1 k2
      · have t1' : mcal mT (d + 5) 94 [.ref 101, .int 1, .int 99] (G, va_up I2 (x + 10) (va_up (I2 (x + 10)) n (Int32.ofNat v2)), L) = some (.inl (some (.int 0)), (G, I3, L)) := t1
        have t2' : mcal mT (r + 4) 187 [.ref 219, .int 1, .int 99] (G2, J2, K) = some (.inl (some (.int 0)), (G2, J3, K)) := t2
        have fi3 := r_fineN (r + 3) (J := J3) (K := K) lM (by rw [t7]; exact nm1 (by omega))
        refine Or.inr ⟨I3, J3, k3, p3, ?_, ?_, t5, t6, t7, t8, t9, HcF_t (HcF_u (HcF_t (HcF_u (HcF_x c3) q4 (by decide)) (HcF_x d3)) q4 (by decide)) (HcF_x t3), HjF_x (RdO_t (RdO_t c4 d4) t4)⟩
        · rw [q_X4_readRadiator_, e_X4_readRadiator_0]
          simp (disch := omega) only [↓vH lH, i10, if_neg n8, ↓mcI_of c1, if_neg z1, e_X4_readRadiator_19, ↓vX lX, j10, c7, up2_e, ↓mcI_of d1', e_X4_readRadiator_43, j20, d7, ↓mcI_of t1', if_true, mb0]
        · simp only [↓vM lM, ↓mcI_of c2, ↓mcI_of d2', ↓mcI_of t2', ↓mcI_of fi3, if_true, mcV_v]
    · have d1' : mcal mT (d + 5) 94 [.ref 101, .int 0, .int 3] (G, va_up I1 (x + 9) (va_up (I1 (x + 9)) n (Int32.ofNat v1)), L) = some (.inl (some (.int 0)), (G, I2, L)) := d1
      have d2' : mcal mT (r + 4) 187 [.ref 219, .int 0, .int 3] (G2, J1, K) = some (.inl (some (.int 0)), (G2, J2, K)) := d2
      have nf : ¬ J2 219 6 = -1 := by rw [d7]; exact nm1 (by omega)
      have fi2 := r_fineN (r + 3) (K := K) lM nf
      refine Or.inr ⟨I2, J2, k2, p2, ?_, ?_, d5, d6, d7, d8, d9, HcF_t (HcF_u (HcF_x c3) q4 (by decide)) (HcF_x d3), HjF_x (RdO_t c4 d4)⟩
      · rw [q_X4_readRadiator_, e_X4_readRadiator_0]
        simp (disch := omega) only [↓vH lH, i10, if_neg n8, ↓mcI_of c1, if_neg z1, e_X4_readRadiator_19, ↓vX lX, j10, c7, up2_e, ↓mcI_of d1', if_true, mb0]
      · simp only [↓vM lM, ↓mcI_of c2, ↓mcI_of d2', ↓mcI_of (rk_numN (r + 2) (K := K) 1 99 lM nf), ↓mcI_of fi2, if_true, mcV_v]
  · have nf : ¬ J1 219 6 = -1 := by rw [c7]; exact nm1 (by omega)
    have fi1 := r_fineN (r + 3) (K := K) lM nf
    refine Or.inr ⟨I1, J1, k1, p1, ?_, ?_, c5, c6, c7, c8, c9, HcF_x c3, HjF_x c4⟩
    · rw [q_X4_readRadiator_, e_X4_readRadiator_0]
      simp only [↓vH lH, i10, if_neg n8, ↓mcI_of c1, if_true, e_X4_readRadiator_17, mb0]
    · simp only [↓vM lM, ↓mcI_of c2, ↓mcI_of (rk_numN (r + 2) (K := K) 0 3 lM nf), ↓mcI_of (rk_numN (r + 2) (K := K) 1 99 lM nf), ↓mcI_of fi1, if_true, mcV_v]
end
