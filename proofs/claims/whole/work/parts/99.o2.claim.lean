/-! claims, read: sayings -/
section
variable {G G2 : mG} {L K : Nat → Nat → Int64} {B : Nat → Nat} {b e a t s : Nat}
theorem ad_c (d : Nat) {I : Nat → Nat → Int32} {P : Nat} (v : Int32) (lW : LayW G 2 b) (hb : b = 207 ∨ b = 211) (h : I (b + 1) 1 = Int32.ofNat P) (hs : P < 200) : ∃ I', mcal mT (d + 1) 20 [.ref (b + 1), .int v] (G, I, L) = some (.inl none, (G, I', L)) ∧ BlC b I I' ∧ (∀ k, I' 101 k = I 101 k) ∧ I' 102 = I 102 ∧ I' (b + 1) 1 = Int32.ofNat (P + 1) ∧ I' (b + 2) = va_up (I (b + 2)) P v := by
  refine ⟨_, c_add d (G := G) (I := I) (L := L) (c := b + 1) (s := P) v lW.2.2 h hs, ⟨fun x h1 h2 h3 => by rw [up_ne h2, up_ne h3], fun k _ => by rw [up_ne (by omega), up_ne (by omega)], fun k hk => by rw [up_eq, up_ne hk]⟩, fun k => by rw [up_ne (by omega), up_ne (by omega)], by rw [up_ne (by omega), up_ne (by omega)], by rw [up_eq, up_eq], ?_⟩
  rw [up_ne (show b + 2 ≠ b + 1 by omega)]
  exact up_eq
theorem TxR_r {I I' : Nat → Nat → Int32} (q : TxR B e a I) (h1 : ∀ k, I' 101 k = I 101 k) (h2 : I' 102 = I 102) : TxR B e a I' := by
  obtain ⟨x1, x2, x3, x4, x5⟩ := q
  exact ⟨by rw [h1]; exact x1, by rw [h1]; exact x2, x3, x4, by rw [h2]; exact x5⟩
theorem CcR_r {I J J' : Nat → Nat → Int32} (q : CcR b s I J) (o : RdO J J') : CcR b s I J' := by
  have e3 : wK J' = wK J := by funext j; unfold wK; rw [o.1 243 (by decide)]
  unfold CcR CcJ at q ⊢
  rw [e3, o.1 243 (by decide), o.1 244 (by decide), o.2 45 (by decide) (by decide) (by decide)]
  exact q
/-- hours, and the saying written down -/
theorem sy_tail (d r : Nat) {w rr qq a0 a2 : Nat} {I0 J0 Ia Ja : Nat → Nat → Int32} (lX : LayX G 101) (lW : LayW G 2 b) (lM : LayM G2 219) (q0 : PrC B b e a0 t s I0 J0) (hw : w ≤ 3) (hr : rr ≤ 7) (hq : qq ≤ 400) (ha : a0 + 4 ≤ a2) (bc : BlC b I0 Ia) (ro : RdO J0 Ja) (ta : TxR B e a2 Ia) (ra : RdR B e a2 Ja) (i7 : Ia 101 7 = -1) (hsz : Ia (b + 1) 1 = Int32.ofNat (pos (wK J0) s + 2)) (hold : ∀ i, i < pos (wK J0) s → Ia (b + 2) i = I0 (b + 2) i) (r0 : Ia (b + 2) (pos (wK J0) s) = Int32.ofNat w) (r1 : Ia (b + 2) (pos (wK J0) s + 1) = Int32.ofNat rr) : OutC B b e a0 t s I0 J0 G G2 L K (f_X1_readSaying (d + 5) 79 [.ref b, .ref 101, mU, mU] [.int (Int32.ofNat qq), .ref (b + 1)] (G, Ia, L)) (f_X12_one (r + 5) 201 [.ref 219, mU, mU, mU, .int (Int32.ofNat w), .int (Int32.ofNat rr), mU, mU, mU] [.int (Int32.ofNat qq)] (G2, Ja, K)) (fun J' a' s' => a0 < a' ∧ s' = s + 1 ∧ wK J' s = w) := by
  have z1 : ¬ (1 : Int32) = 0 := by decide
  have lC := lW.2.2
  obtain ⟨-, -, p3, p4, p5, p6, p7, p8, p9⟩ := id q0
  have a2e := ta.2.2.1
  obtain ⟨I1, u1, u2, u3, u4, u5, u6⟩ := ad_c (d + 4) (L := L) (Int32.ofNat qq) lW p8 hsz (by omega)
  have t1 := TxR_r ta u3 u4
  have ec : f_X1_readSaying (d + 5) 79 [.ref b, .ref 101, mU, mU] [.int (Int32.ofNat qq), .ref (b + 1)] (G, Ia, L) = mcI (mcal mT (d + 5) 94 [.ref 101, .int 0, .int 47] (G, I1, L)) (fun v12 h11 => (if v12 = 0 then mbool 0 (some (.inl (some (.int 0)), h11)) else f_X1_readSaying (d + 5) 94 [.ref b, .ref 101, mU, mU] [] h11)) mthr := by
    rw [e_X1_readSaying_79]
    simp only [↓vC lC, ↓mcV_of u1, ↓vX lX]
  rcases nm_pair (d + 3) (r + 3) (L := L) (K := K) (lo := 0) (h1 := 48) (hi := 47) (by decide) lX lM t1 ra (by decide) (by decide) with ⟨I2, J2, f, a3, f1, f2, c1, c2, c3, c4, c5, c6, c7, c8, c9, -⟩ | ⟨I2, J2, k2, pp2, c1, c2, c3, c4, c5, c6, c7, c8, c9⟩
  · have c1' : mcal mT (d + 5) 94 [.ref 101, .int 0, .int 47] (G, I1, L) = some (.inl (some (.int 1)), (G, I2, L)) := c1
    have c2' : mcal mT (r + 5) 187 [.ref 219, .int 0, .int 47] (G2, Ja, K) = some (.inl (some (.int (Int32.ofNat f))), (G2, J2, K)) := c2
    have sz2 : I2 (b + 1) 1 = Int32.ofNat (pos (wK J0) s + 2 + 1) := by rw [c3.1 (b + 1) (by omega)]; exact u5
    obtain ⟨I3, v1, v2, v3, v4, v5, v6⟩ := ad_c (d + 4) (L := L) (Int32.ofNat f) lW p8 sz2 (by omega)
    have t3 := TxR_r c5 v3 v4
    have i35 : I3 101 5 = Int32.ofNat f := by rw [v3]; exact c7
    have ec2 : f_X1_readSaying (d + 5) 79 [.ref b, .ref 101, mU, mU] [.int (Int32.ofNat qq), .ref (b + 1)] (G, Ia, L) = mcI (mcal mT (d + 5) 94 [.ref 101, .int (Int32.ofNat f), .int 47] (G, I3, L)) (fun v16 h15 => (if v16 = 0 then mbool 0 (some (.inl (some (.int 0)), h15)) else f_X1_readSaying (d + 5) 120 [.ref b, .ref 101, mU, mU] [] h15)) mthr := by
      rw [ec, c1', mcI_v, if_neg z1, e_X1_readSaying_94]
      simp only [↓vW lW, ↓vX lX, ↓vC lC, c7, ↓mcV_of v1, i35]
    rcases nm_pair (d + 3) (r + 3) (L := L) (K := K) (lo := f) (h1 := 48) (hi := 47) (by decide) lX lM t3 c6 (by omega) (by decide) with ⟨I4, J4, tt, a4, g1, g2, d1, d2, d3, d4, d5, d6, d7, d8, d9, -⟩ | ⟨I4, J4, k4, pp4, d1, d2, d3, d4, d5, d6, d7, d8, d9⟩
    · have a4e := d5.2.2.1
      have sz4 : I4 (b + 1) 1 = Int32.ofNat (pos (wK J0) s + 2 + 1 + 1) := by rw [d3.1 (b + 1) (by omega)]; exact v5
      obtain ⟨I5, w1, w2, w3, w4, w5, w6⟩ := ad_c (d + 4) (L := L) (Int32.ofNat tt) lW p8 sz4 (by omega)
      have t5 := TxR_r d5 w3 w4
      have oo : RdO J0 J4 := RdO_t (RdO_t ro c4) d4
      have wk : wK J4 = wK J0 := by funext j; unfold wK; rw [oo.1 243 (by decide)]
      have j45 : J4 219 45 = Int32.ofNat s := by rw [oo.2 45 (by decide) (by decide) (by decide)]; exact p4.2.1
      have em := r_emC (r + 3) (G2 := G2) (J := J4) (K := K) (s := s) (Int32.ofNat w) (Int32.ofNat rr) (Int32.ofNat qq) (Int32.ofNat f) (Int32.ofNat tt) lM d6.2.2.2.2.1 j45 (by omega)
      obtain ⟨m1, m2, m3, m4, m5, m6, m7, m8⟩ := emJ_f (J := J4) (s := s) (x1 := Int32.ofNat w) (x2 := Int32.ofNat rr) (x3 := Int32.ofNat qq) (x4 := Int32.ofNat f) (x5 := Int32.ofNat tt)
      have row : I5 (b + 2) = va_up (va_up (va_up (Ia (b + 2)) (pos (wK J0) s + 2) (Int32.ofNat qq)) (pos (wK J0) s + 2 + 1) (Int32.ofNat f)) (pos (wK J0) s + 2 + 1 + 1) (Int32.ofNat tt) := by
        rw [w6, d3.1 (b + 2) (by omega), v6, c3.1 (b + 2) (by omega), u6]
      have i57 : I5 101 7 = -1 := by rw [w3, d8, v3, c8, u3]; exact i7
      obtain ⟨n1, n2, n3⟩ := PrC_e (B := B) (b := b) (e := e) (a := a4) (t := t) (s := s) (I := I0) (J := J4) (I' := I5) (w := w) (x2 := Int32.ofNat rr) (x3 := Int32.ofNat qq) (x4 := Int32.ofNat f) (x5 := Int32.ofNat tt) d6 (by rw [oo.2 8 (by decide) (by decide) (by decide)]; exact p3) (CcR_r p4 oo) p7 p8 t5 i57 (by omega) (by rw [if_pos hw, wk]; exact w5) (fun i hi => by rw [wk] at hi; rw [row, up_ne (by omega), up_ne (by omega), up_ne (by omega)]; exact hold i hi) (by
        rw [wk]
        refine ⟨fun _ => ⟨by rw [row, up_ne (by omega), up_ne (by omega), up_ne (by omega)]; exact r0, rr, qq, f, tt, hr, hq, g1, by omega, m5, m6, m7, m8, by rw [row, up_ne (by omega), up_ne (by omega), up_ne (by omega)]; exact r1, by rw [row, up_ne (by omega), up_ne (by omega), up_eq], by rw [row, up_ne (by omega)]; exact up_eq, by rw [row]; exact up_eq⟩, fun p => by omega, fun p => by omega, fun p => by omega⟩) (by rw [if_pos hw, wk]; omega) (by omega)
      rw [if_pos hw, wk] at n3
      have bcf := BlC_t (BlC_t (BlC_t (BlC_t (BlC_t bc u2) (BlC_y p8 c3)) v2) (BlC_y p8 d3)) w2
      refine Or.inl ⟨I5, _, a4, s + 1, ?_, ?_, n1, bcf, ClJ_t (ClJ_x oo) m1, SaC_t (SaC_x oo) (Nat.le_refl _) m2, by omega, by omega, by rw [n3]; omega, by omega, by omega, rfl, n2⟩
      · rw [ec2, d1, mcI_v, if_neg z1, e_X1_readSaying_120]
        simp only [↓vW lW, ↓vX lX, ↓vC lC, d7, ↓mcV_of w1, mb1]
      · rw [e_X12_one_201]
        simp only [↓vM lM, ↓mcI_of c2', ↓mcI_of d2, ↓mcV_of em]
    · have nf : ¬ J4 219 6 = -1 := by rw [d7]; exact nm1 (by omega)
      refine OutC_f (I' := I4) (J' := J4) (k := k4) (p := pp4) ?_ ?_ d5 d6 d7 d8 d9 (BlC_t (BlC_t (BlC_t (BlC_t bc u2) (BlC_y p8 c3)) v2) (BlC_y p8 d3)) (ClJ_x (RdO_t (RdO_t ro c4) d4))
      · rw [ec2, d1, mcI_v, if_pos rfl, mb0]
      · rw [e_X12_one_201]
        simp only [↓vM lM, ↓mcI_of c2', ↓mcI_of d2, ↓mcV_of (r_emCN (r + 3) (K := K) (Int32.ofNat w) (Int32.ofNat rr) (Int32.ofNat qq) (Int32.ofNat f) 0 lM nf)]
  · have c1' : mcal mT (d + 5) 94 [.ref 101, .int 0, .int 47] (G, I1, L) = some (.inl (some (.int 0)), (G, I2, L)) := c1
    have c2' : mcal mT (r + 5) 187 [.ref 219, .int 0, .int 47] (G2, Ja, K) = some (.inl (some (.int 0)), (G2, J2, K)) := c2
    have nf : ¬ J2 219 6 = -1 := by rw [c7]; exact nm1 (by omega)
    refine OutC_f (I' := I2) (J' := J2) (k := k2) (p := pp2) ?_ ?_ c5 c6 c7 c8 c9 (BlC_t (BlC_t bc u2) (BlC_y p8 c3)) (ClJ_x (RdO_t ro c4))
    · rw [ec, c1', mcI_v, if_pos rfl, mb0]
    · rw [e_X12_one_201]
      simp only [↓vM lM, ↓mcI_of c2', ↓mcI_of (rk_numN (r + 3) (K := K) 0 47 lM nf), ↓mcV_of (r_emCN (r + 3) (K := K) (Int32.ofNat w) (Int32.ofNat rr) (Int32.ofNat qq) 0 0 lM nf)]
/-- after a fault the reference's saying does nothing -/
theorem sy_N (r : Nat) {x4 x5 y0 : Int32} {J : Nat → Nat → Int32} (lM : LayM G2 219) (f : ¬ J 219 6 = -1) : f_X12_one (r + 5) 201 [.ref 219, mU, mU, mU, .int x4, .int x5, mU, mU, mU] [.int y0] (G2, J, K) = some (.inl none, (G2, J, K)) := by
  rw [e_X12_one_201]
  simp only [↓vM lM, ↓mcI_of (rk_numN (r + 3) (K := K) 0 47 lM f), ↓mcV_of (r_emCN (r + 3) (K := K) x4 x5 y0 0 0 lM f)]
/-- a saying, from behind its name -/
theorem sy_pair (d r : Nat) {w a0 a1 : Nat} {I0 J0 I J : Nat → Nat → Int32} (lX : LayX G 101) (lW : LayW G 2 b) (lM : LayM G2 219) (q0 : PrC B b e a0 t s I0 J0) (hw : w ≤ 3) (ha : a0 + 3 ≤ a1) (o : TxO I0 I) (ro : RdO J0 J) (ta : TxR B e a1 I) (ra : RdR B e a1 J) (i7 : I 101 7 = -1) : OutC B b e a0 t s I0 J0 G G2 L K (mcal mT (d + 6) 14 [.ref b, .ref 101, .int (Int32.ofNat w)] (G, I, L)) (mcI (mcal mT (r + 5) 187 [.ref 219, .int 0, .int 7] (G2, J, K)) (fun v26 h25 => (if 1 < Int32.ofNat w then f_X12_one (r + 5) 200 [.ref 219, mU, mU, mU, .int (Int32.ofNat w), .int v26, mU, mU, mU] [] h25 else gk h25.1 219 13 (mcI (mcal mT (r + 5) 187 [.ref 219, .int 0, .int 400] h25) (fun v28 h27 => f_X12_one (r + 5) 201 [.ref 219, mU, mU, mU, .int (Int32.ofNat w), .int v26, mU, mU, mU] [.int v28] h27) mthr))) mthr) (fun J' a' s' => a0 < a' ∧ s' = s + 1 ∧ wK J' s = w) := by
  have z1 : ¬ (1 : Int32) = 0 := by decide
  have lC := lW.2.2
  obtain ⟨-, -, p3, p4, p5, p6, p7, p8, p9⟩ := id q0
  have a1e := ta.2.2.1
  have sz0 : I (b + 1) 1 = Int32.ofNat (pos (wK J0) s) := by rw [o.1 (b + 1) (by omega)]; exact p4.1
  obtain ⟨I1, u1, u2, u3, u4, u5, u6⟩ := ad_c (d + 4) (L := L) (Int32.ofNat w) lW p8 sz0 (by omega)
  have t1 := TxR_r ta u3 u4
  have ec : mcal mT (d + 6) 14 [.ref b, .ref 101, .int (Int32.ofNat w)] (G, I, L) = mcI (mcal mT (d + 5) 94 [.ref 101, .int 0, .int 7] (G, I1, L)) (fun v4 h3 => (if v4 = 0 then mbool 0 (some (.inl (some (.int 0)), h3)) else f_X1_readSaying (d + 5) 20 [.ref b, .ref 101, .int (Int32.ofNat w), mU] [] h3)) mthr := by
    rw [q_X1_readSaying_, e_X1_readSaying_0]
    simp only [↓vW lW, ↓vC lC, ↓mcV_of u1, ↓vX lX]
  rcases nm_pair (d + 3) (r + 3) (L := L) (K := K) (lo := 0) (h1 := 8) (hi := 7) (by decide) lX lM t1 ra (by decide) (by decide) with ⟨I2, J2, rr, a2, f1, f2, c1, c2, c3, c4, c5, c6, c7, c8, c9, -⟩ | ⟨I2, J2, k2, pp2, c1, c2, c3, c4, c5, c6, c7, c8, c9⟩
  · have c1' : mcal mT (d + 5) 94 [.ref 101, .int 0, .int 7] (G, I1, L) = some (.inl (some (.int 1)), (G, I2, L)) := c1
    have c2' : mcal mT (r + 5) 187 [.ref 219, .int 0, .int 7] (G2, J, K) = some (.inl (some (.int (Int32.ofNat rr))), (G2, J2, K)) := c2
    have a2e := c5.2.2.1
    have sz2 : I2 (b + 1) 1 = Int32.ofNat (pos (wK J0) s + 1) := by rw [c3.1 (b + 1) (by omega)]; exact u5
    obtain ⟨I3, v1, v2, v3, v4, v5, v6⟩ := ad_c (d + 4) (L := L) (Int32.ofNat rr) lW p8 sz2 (by omega)
    have t3 := TxR_r c5 v3 v4
    have bc3 : BlC b I0 I3 := BlC_t (BlC_t (BlC_t (BlC_y p8 o) u2) (BlC_y p8 c3)) v2
    have row : I3 (b + 2) = va_up (va_up (I0 (b + 2)) (pos (wK J0) s) (Int32.ofNat w)) (pos (wK J0) s + 1) (Int32.ofNat rr) := by
      rw [v6, c3.1 (b + 2) (by omega), u6, o.1 (b + 2) (by omega)]
    have i37 : I3 101 7 = -1 := by rw [v3, c8, u3]; exact i7
    have ec2 : mcal mT (d + 6) 14 [.ref b, .ref 101, .int (Int32.ofNat w)] (G, I, L) = (if Int32.ofNat w = 0 then f_X1_readSaying (d + 5) 40 [.ref b, .ref 101, mU, mU] [] (G, I3, L) else (if Int32.ofNat w = 1 then f_X1_readSaying (d + 5) 40 [.ref b, .ref 101, mU, mU] [] (G, I3, L) else f_X1_readSaying (d + 5) 44 [.ref b, .ref 101, mU, mU] [] (G, I3, L))) := by
      rw [ec, c1', mcI_v, if_neg z1, e_X1_readSaying_20]
      simp only [↓vW lW, ↓vX lX, ↓vC lC, c7, ↓mcV_of v1]
    by_cases w1 : w ≤ 1
    · have nw : ¬ (1 : Int32) < Int32.ofNat w := fun z => by have := (i_lt (a := 1) (by decide) (by omega)).mp z; omega
      have ec3 : mcal mT (d + 6) 14 [.ref b, .ref 101, .int (Int32.ofNat w)] (G, I, L) = mcI (mcal mT (d + 5) 94 [.ref 101, .int 0, .int 400] (G, I3, L)) (fun v8 h7 => (if v8 = 0 then mbool 0 (some (.inl (some (.int 0)), h7)) else f_X1_readSaying (d + 5) 63 [.ref b, .ref 101, mU, .int 1] [] h7)) mthr := by
        rw [ec2]
        obtain rfl | rfl : w = 0 ∨ w = 1 := by omega
        · rw [if_pos (show Int32.ofNat 0 = 0 from rfl), e_X1_readSaying_40, e_X1_readSaying_45, if_neg z1]
          simp only [↓vX lX]
        · rw [if_neg (by decide), if_pos (show Int32.ofNat 1 = 1 from rfl), e_X1_readSaying_40, e_X1_readSaying_45, if_neg z1]
          simp only [↓vX lX]
      rcases nm_pair (d + 3) (r + 3) (L := L) (K := K) (lo := 0) (h1 := 401) (hi := 400) (by decide) lX lM t3 c6 (by decide) (by decide) with ⟨I4, J4, qq, a4, g1, g2, d1, d2, d3, d4, d5, d6, d7, d8, d9, -⟩ | ⟨I4, J4, k4, pp4, d1, d2, d3, d4, d5, d6, d7, d8, d9⟩
      · have d1' : mcal mT (d + 5) 94 [.ref 101, .int 0, .int 400] (G, I3, L) = some (.inl (some (.int 1)), (G, I4, L)) := d1
        have d2' : mcal mT (r + 5) 187 [.ref 219, .int 0, .int 400] (G2, J2, K) = some (.inl (some (.int (Int32.ofNat qq))), (G2, J4, K)) := d2
        have tl := sy_tail d r (w := w) (rr := rr) (qq := qq) (a2 := a4) (Ia := I4) (Ja := J4) (L := L) (K := K) lX lW lM q0 hw (by omega) (by omega) (by omega) (BlC_t bc3 (BlC_y p8 d3)) (RdO_t (RdO_t ro c4) d4) d5 d6 (by rw [d8]; exact i37) (by rw [d3.1 (b + 1) (by omega)]; exact v5) (fun i hi => by rw [d3.1 (b + 2) (by omega), row, up_ne (by omega), up_ne (by omega)]) (by rw [d3.1 (b + 2) (by omega), row, up_ne (by omega), up_eq]) (by rw [d3.1 (b + 2) (by omega), row, up_eq])
        rw [ec3, d1', mcI_v, if_neg z1, e_X1_readSaying_63, c2', mcI_v, if_neg nw]
        simp only [↓vW lW, if_neg z1, ↓vX lX, d7, ↓vM lM, ↓mcI_of d2']
        exact tl
      · have d1' : mcal mT (d + 5) 94 [.ref 101, .int 0, .int 400] (G, I3, L) = some (.inl (some (.int 0)), (G, I4, L)) := d1
        have d2' : mcal mT (r + 5) 187 [.ref 219, .int 0, .int 400] (G2, J2, K) = some (.inl (some (.int 0)), (G2, J4, K)) := d2
        have nf : ¬ J4 219 6 = -1 := by rw [d7]; exact nm1 (by omega)
        refine OutC_f (I' := I4) (J' := J4) (k := k4) (p := pp4) ?_ ?_ d5 d6 d7 d8 d9 (BlC_t bc3 (BlC_y p8 d3)) (ClJ_x (RdO_t (RdO_t ro c4) d4))
        · rw [ec3, d1', mcI_v, if_pos rfl, mb0]
        · rw [c2', mcI_v, if_neg nw]
          simp only [↓vM lM, ↓mcI_of d2']
          exact sy_N r lM nf
    · have nw : (1 : Int32) < Int32.ofNat w := (i_lt (a := 1) (by decide) (by omega)).mpr (by omega)
      have tl := sy_tail d r (w := w) (rr := rr) (qq := 0) (a2 := a2) (Ia := I3) (Ja := J2) (L := L) (K := K) lX lW lM q0 hw (by omega) (by omega) (by omega) bc3 (RdO_t ro c4) t3 c6 i37 v5 (fun i hi => by rw [row, up_ne (by omega), up_ne (by omega)]) (by rw [row, up_ne (by omega), up_eq]) (by rw [row, up_eq])
      rw [ec2, if_neg (show ¬ Int32.ofNat w = 0 from fun z => by have := (i_eq (b := 0) (by omega) (by decide)).mp z; omega), if_neg (show ¬ Int32.ofNat w = 1 from fun z => by have := (i_eq (b := 1) (by omega) (by decide)).mp z; omega), e_X1_readSaying_44, e_X1_readSaying_45, if_pos rfl, e_X1_readSaying_63, c2', mcI_v, if_pos nw, e_X12_one_200]
      simp only [↓vW lW, if_true, e_X1_readSaying_78]
      exact tl
  · have c1' : mcal mT (d + 5) 94 [.ref 101, .int 0, .int 7] (G, I1, L) = some (.inl (some (.int 0)), (G, I2, L)) := c1
    have c2' : mcal mT (r + 5) 187 [.ref 219, .int 0, .int 7] (G2, J, K) = some (.inl (some (.int 0)), (G2, J2, K)) := c2
    have nf : ¬ J2 219 6 = -1 := by rw [c7]; exact nm1 (by omega)
    refine OutC_f (I' := I2) (J' := J2) (k := k2) (p := pp2) ?_ ?_ c5 c6 c7 c8 c9 (BlC_t (BlC_t (BlC_y p8 o) u2) (BlC_y p8 c3)) (ClJ_x (RdO_t ro c4))
    · rw [ec, c1', mcI_v, if_pos rfl, mb0]
    · rw [c2', mcI_v]
      by_cases w1 : (1 : Int32) < Int32.ofNat w
      · rw [if_pos w1, e_X12_one_200]
        exact sy_N r lM nf
      · rw [if_neg w1]
        simp only [↓vM lM, ↓mcI_of (rk_numN (r + 3) (K := K) 0 400 lM nf)]
        exact sy_N r lM nf
end
