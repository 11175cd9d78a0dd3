/-! a house, read: more clauses -/
section
variable {G G2 : mG} {I J : Nat → Nat → Int32} {L K : Nat → Nat → Int64} {B : Nat → Nat} {e a x nr n c : Nat}
/-- a number read by both, or the same fault -/
theorem nm_pair2 (d r : Nat) {lo h1 : Nat} {hi : Int32} (hhi : hi = Int32.ofNat h1 - 1) (lX : LayX G 101) (lM : LayM G2 219) (q1 : TxR B e a I) (q2 : RdR B e (skb B e a) J) (hlo : lo ≤ 100000) (hh1 : h1 ≤ 100000) : (∃ I' J' v a', lo ≤ v ∧ v < h1 ∧ mcal mT (d + 2) 94 [.ref 101, .int (Int32.ofNat lo), .int hi] (G, I, L) = some (.inl (some (.int 1)), (G, I', L)) ∧ mcal mT (r + 2) 187 [.ref 219, .int (Int32.ofNat lo), .int hi] (G2, J, K) = some (.inl (some (.int (Int32.ofNat v))), (G2, J', K)) ∧ TxO I I' ∧ RdO J J' ∧ TxR B e a' I' ∧ RdR B e a' J' ∧ I' 101 5 = Int32.ofNat v ∧ I' 101 7 = I 101 7 ∧ a < a' ∧ J' 219 7 = J 219 7 ∧ ∃ p, I' 101 4 = Int32.ofNat p ∧ p ≤ 500 ∧ a ≤ p ∧ p = skb B e a) ∨ (∃ I' J' k p, mcal mT (d + 2) 94 [.ref 101, .int (Int32.ofNat lo), .int hi] (G, I, L) = some (.inl (some (.int 0)), (G, I', L)) ∧ mcal mT (r + 2) 187 [.ref 219, .int (Int32.ofNat lo), .int hi] (G2, J, K) = some (.inl (some (.int 0)), (G2, J', K)) ∧ TxO I I' ∧ RdO J J' ∧ I' 101 6 = k ∧ I' 101 7 = Int32.ofNat p ∧ J' 219 6 = Int32.ofNat p ∧ J' 219 7 = k ∧ p ≤ 500) := by
  have ae := q1.2.2.1
  have e5 := q1.2.2.2.1
  have bb := skb_b (B := B) (e := e) (a := a) ae
  have nb := nme_b (B := B) (e := e) (a := a) ae
  have s1 : skb B e (skb B e a) = skb B e a := skb_i ae
  have s2 : nme B e (skb B e a) = nme B e a := by unfold nme; rw [s1]
  have s3 : nmn B e (skb B e a) = nmn B e a := by unfold nmn; rw [s1, s2]
  have rk := rk_num r (K := K) (lo := lo) (h1 := h1) lM q2 hlo hh1
  rw [s1, s2, s3] at rk
  rw [hhi]
  rcases tk_num d (L := L) (lo := lo) (h1 := h1) lX q1 hlo hh1 with ⟨n1, I1, c1, c2, c3, c4⟩ | ⟨n1, n2, I1, c1, c2, c3, c4, c5, c6⟩ | ⟨n1, n2, I1, c1, c2, c3, c4⟩
  · rcases rk with ⟨m1, J1, e1, e2, e3, e4⟩ | ⟨m1, -⟩ | ⟨m1, -⟩
    · exact Or.inr ⟨I1, J1, 1, skb B e a, c1, e1, c2, e2, c3, c4, e3, e4, by omega⟩
    · exact absurd n1 m1
    · exact absurd n1 m1
  · rcases rk with ⟨m1, -⟩ | ⟨m1, m2, J1, e1, e2, e3, e4⟩ | ⟨m1, m2, -⟩
    · exact absurd m1 n1
    · exact Or.inl ⟨I1, J1, nmn B e a, nme B e a, n2.1, n2.2, c1, e1, c2, e2, c3, e3, c4, c6 7 (by decide), by omega, e4, skb B e a, c5, by omega, bb.1, rfl⟩
    · exact absurd n2 m2
  · rcases rk with ⟨m1, -⟩ | ⟨m1, m2, -⟩ | ⟨m1, m2, J1, e1, e2, e3, e4⟩
    · exact absurd m1 n1
    · exact absurd m2 n2
    · exact Or.inr ⟨I1, J1, 2, skb B e a, c1, e1, c2, e2, c3, c4, e3, e4, by omega⟩
/-- a room's number -/
theorem mr_pair2 (d r : Nat) (lX : LayX G 101) (lH : LayH G x) (lM : LayM G2 219) (q1 : TxR B e a I) (q2 : RdR B e (skb B e a) J) (h1 : I x 1 = Int32.ofNat nr) (h2 : J 221 163 = Int32.ofNat nr) (h8 : nr ≤ 8) : (∃ I' J' v a', v < nr ∧ mcal mT (d + 3) 39 [.ref x, .ref 101] (G, I, L) = some (.inl (some (.int 1)), (G, I', L)) ∧ mcal mT (r + 3) 191 [.ref 219] (G2, J, K) = some (.inl (some (.int (Int32.ofNat v))), (G2, J', K)) ∧ TxO I I' ∧ RdO J J' ∧ TxR B e a' I' ∧ RdR B e a' J' ∧ I' 101 5 = Int32.ofNat v ∧ I' 101 7 = I 101 7 ∧ a < a' ∧ I' 101 4 = Int32.ofNat (skb B e a)) ∨ (∃ I' J' k p, mcal mT (d + 3) 39 [.ref x, .ref 101] (G, I, L) = some (.inl (some (.int 0)), (G, I', L)) ∧ mcal mT (r + 3) 191 [.ref 219] (G2, J, K) = some (.inl (some (.int 0)), (G2, J', K)) ∧ TxO I I' ∧ RdO J J' ∧ I' 101 6 = k ∧ I' 101 7 = Int32.ofNat p ∧ J' 219 6 = Int32.ofNat p ∧ J' 219 7 = k ∧ p ≤ 500) := by
  rw [q_X4_mustTakeRoom_, e_X4_mustTakeRoom_0, q_X12_readRoom_, e_X12_readRoom_0]
  rcases nm_pair2 d r (L := L) (K := K) (lo := 0) (h1 := nr) (hi := Int32.ofNat nr - 1) rfl lX lM q1 q2 (by decide) (by omega) with ⟨I1, J1, v, a1, -, v2, c1, c2, c3, c4, c5, c6, c7, c8, c9, -, p, y1, -, -, y4⟩ | ⟨I1, J1, k, p, c1, c2, c3, c4, c5⟩
  · have c1' : mcal mT (d + 2) 94 [.ref 101, .int 0, .int (Int32.ofNat nr - 1)] (G, I, L) = some (.inl (some (.int 1)), (G, I1, L)) := c1
    have c2' : mcal mT (r + 2) 187 [.ref 219, .int 0, .int (Int32.ofNat nr - 1)] (G2, J, K) = some (.inl (some (.int (Int32.ofNat v))), (G2, J1, K)) := c2
    refine Or.inl ⟨I1, J1, v, a1, v2, ?_, ?_, c3, c4, c5, c6, c7, c8, c9, by rw [y1, y4]⟩
    · simp only [↓vH lH, ↓vX lX, h1, ↓mcI_of c1', mb1]
    · simp (disch := omega) only [↓vM lM, h2, ↓mcI_of c2']
  · have c1' : mcal mT (d + 2) 94 [.ref 101, .int 0, .int (Int32.ofNat nr - 1)] (G, I, L) = some (.inl (some (.int 0)), (G, I1, L)) := c1
    have c2' : mcal mT (r + 2) 187 [.ref 219, .int 0, .int (Int32.ofNat nr - 1)] (G2, J, K) = some (.inl (some (.int 0)), (G2, J1, K)) := c2
    refine Or.inr ⟨I1, J1, k, p, ?_, ?_, c3, c4, c5⟩
    · simp only [↓vH lH, ↓vX lX, h1, ↓mcI_of c1', mb0]
    · simp (disch := omega) only [↓vM lM, h2, ↓mcI_of c2']
theorem kr_pump (d r : Nat) (lX : LayX G 101) (lH : LayH G x) (lM : LayM G2 219) (q : PrH B e a x nr n c I J) : OutK B e a x c (r + 5) I J G G2 L K (mcal mT (d + 6) 45 [.ref x, .ref 101] (G, I, L)) (gk G2 219 13 (gr G2 219 2 (fun b88 => gk G2 219 13 (mcI (mcal mT (r + 5) 187 [.ref 219, .int 1, .int 999] (G2, J, K)) (fun v90 h89 => gx h89.1 b88 20 160 (fun j91 => f_X12_readClause (r + 5) 528 [.ref 219, mU, mU, mU, mU, mU, mU] [] (h89.1, (up2 h89.2.1 b88 j91 v90), h89.2.2))) mthr)))) := by
  have z1 : ¬ (1 : Int32) = 0 := by decide
  obtain ⟨q1, q2, q3, q4, q5⟩ := id q
  obtain ⟨⟨a1, a2, a3, a4, a5, a6, a7, a8, a9⟩, -⟩ := id q3
  have i1 : I x 1 = Int32.ofNat nr := a4
  have i10 : I x 10 = Int32.ofNat n := a7
  rcases nm_pair (d + 3) (r + 3) (L := L) (K := K) (lo := 1) (h1 := 1000) (hi := 999) (by decide) lX lM q1 q2 (by decide) (by decide) with ⟨I1, J1, v1, b1, f1, f2, c1, c2, c3, c4, c5, c6, c7, c8, c9, -⟩ | ⟨I1, J1, k1, p1, c1, c2, c3, c4, c5, c6, c7, c8, c9⟩
  · have c1' : mcal mT (d + 5) 94 [.ref 101, .int 1, .int 999] (G, I, L) = some (.inl (some (.int 1)), (G, I1, L)) := c1
    have c2' : mcal mT (r + 5) 187 [.ref 219, .int 1, .int 999] (G2, J, K) = some (.inl (some (.int (Int32.ofNat v1))), (G2, J1, K)) := c2
    refine Or.inl ⟨va_up I1 (x + 0) (va_up (I1 x) 16 (Int32.ofNat v1)), va_up J1 221 (va_up (J1 221) 160 (Int32.ofNat v1)), b1, nr, n, ?_, ?_, ⟨TxR_u c5 q4, RdR_u c6, ?_, q4, by rw [up_ne (by omega), c8]; exact q5⟩, HcF_u (HcF_x c3) q4 (by decide), HjF_u (HjF_x c4), c9⟩
    · rw [q_X4_readPump_, e_X4_readPump_0]
      simp only [↓vX lX, ↓mcI_of c1', if_neg z1, e_X4_readPump_13, ↓vH lH, c7, up2_e, mb1]
      rfl
    · simp (disch := omega) only [↓vM lM, ↓mcI_of c2', up2_e]
    · rw [hrw_u, up_eq, hrw_o c3 q4, show J1 221 = J 221 from c4.1 221 (by decide), show I1 x = I x from c3.1 x (by omega)]
      exact Hr_pump q3 f1 f2
  · have c1' : mcal mT (d + 5) 94 [.ref 101, .int 1, .int 999] (G, I, L) = some (.inl (some (.int 0)), (G, I1, L)) := c1
    have c2' : mcal mT (r + 5) 187 [.ref 219, .int 1, .int 999] (G2, J, K) = some (.inl (some (.int 0)), (G2, J1, K)) := c2
    refine Or.inr ⟨I1, va_up J1 221 (va_up (J1 221) 160 0), k1, p1, ?_, ?_, c5, c6, by rw [up_ne (by decide)]; exact c7, by rw [up_ne (by decide)]; exact c8, c9, HcF_x c3, HjF_u (HjF_x c4)⟩
    · rw [q_X4_readPump_, e_X4_readPump_0]
      simp only [↓vX lX, ↓mcI_of c1', if_true, mb0]
    · simp (disch := omega) only [↓vM lM, ↓mcI_of c2', up2_e]
theorem kr_boil (d r : Nat) (lX : LayX G 101) (lH : LayH G x) (lM : LayM G2 219) (q : PrH B e a x nr n c I J) : OutK B e a x c (r + 5) I J G G2 L K (mcal mT (d + 6) 46 [.ref x, .ref 101] (G, I, L)) (f_X12_readClause (r + 5) 495 [.ref 219, mU, mU, mU, mU, mU, mU] [] (G2, J, K)) := by
  have z1 : ¬ (1 : Int32) = 0 := by decide
  obtain ⟨q1, q2, q3, q4, q5⟩ := id q
  obtain ⟨⟨a1, a2, a3, a4, a5, a6, a7, a8, a9⟩, -⟩ := id q3
  have i1 : I x 1 = Int32.ofNat nr := a4
  have i10 : I x 10 = Int32.ofNat n := a7
  rw [e_X12_readClause_495]
  rcases nm_pair (d + 3) (r + 3) (L := L) (K := K) (lo := 1) (h1 := 100000) (hi := 99999) (by decide) lX lM q1 q2 (by decide) (by decide) with ⟨I1, J1, v1, b1, f1, f2, c1, c2, c3, c4, c5, c6, c7, c8, c9, -⟩ | ⟨I1, J1, k1, p1, c1, c2, c3, c4, c5, c6, c7, c8, c9⟩
  · have c1' : mcal mT (d + 5) 94 [.ref 101, .int 1, .int 99999] (G, I, L) = some (.inl (some (.int 1)), (G, I1, L)) := c1
    have c2' : mcal mT (r + 5) 187 [.ref 219, .int 1, .int 99999] (G2, J, K) = some (.inl (some (.int (Int32.ofNat v1))), (G2, J1, K)) := c2
    have t2 : TxR B e b1 (va_up I1 (x + 0) (va_up (I1 x) 17 (Int32.ofNat v1))) := TxR_u c5 q4
    have r2 : RdR B e b1 (va_up J1 221 (va_up (J1 221) 161 (Int32.ofNat v1))) := RdR_u c6
    rcases nm_pair (d + 3) (r + 3) (L := L) (K := K) (lo := 200) (h1 := 901) (hi := 900) (by decide) lX lM t2 r2 (by decide) (by decide) with ⟨I2, J2, v2, b2, g1, g2, d1, d2, d3, d4, d5, d6, d7, d8, d9, -⟩ | ⟨I2, J2, k2, p2, d1, d2, d3, d4, d5, d6, d7, d8, d9⟩
    · have d1' : mcal mT (d + 5) 94 [.ref 101, .int 200, .int 900] (G, va_up I1 x (va_up (I1 x) 17 (Int32.ofNat v1)), L) = some (.inl (some (.int 1)), (G, I2, L)) := d1
      have d2' : mcal mT (r + 5) 187 [.ref 219, .int 200, .int 900] (G2, va_up J1 221 (va_up (J1 221) 161 (Int32.ofNat v1)), K) = some (.inl (some (.int (Int32.ofNat v2))), (G2, J2, K)) := d2
      refine Or.inl ⟨va_up I2 (x + 0) (va_up (I2 x) 18 (Int32.ofNat v2)), va_up J2 221 (va_up (J2 221) 162 (Int32.ofNat v2)), b2, nr, n, ?_, ?_, ⟨TxR_u d5 q4, RdR_u d6, ?_, q4, by rw [up_ne (by omega), d8, up_ne (by omega), c8]; exact q5⟩, HcF_u (HcF_t (HcF_u (HcF_x c3) q4 (by decide)) (HcF_x d3)) q4 (by decide), HjF_u (HjF_t (HjF_u (HjF_x c4)) (HjF_x d4)), by omega⟩
      · rw [q_X4_readBoiler_, e_X4_readBoiler_0]
        simp only [↓vX lX, ↓mcI_of c1', if_neg z1, e_X4_readBoiler_12, ↓vH lH, c7, up2_e, ↓mcI_of d1', e_X4_readBoiler_35, d7, mb1]
        rfl
      · simp (disch := omega) only [↓vM lM, ↓mcI_of c2', up2_e, ↓mcI_of d2']
      · rw [hrw_u, up_eq, hrw_o d3 q4, hrw_u, hrw_o c3 q4, show J2 221 = va_up (J 221) 161 (Int32.ofNat v1) by rw [d4.1 221 (by decide), up_eq, c4.1 221 (by decide)], show I2 x = va_up (I x) 17 (Int32.ofNat v1) by rw [d3.1 x (by omega), show va_up I1 (x + 0) (va_up (I1 x) 17 (Int32.ofNat v1)) x = va_up (I1 x) 17 (Int32.ofNat v1) from up_eq, c3.1 x (by omega)], up_up]
        exact Hr_boil q3 f1 f2 g1 g2
    · have d1' : mcal mT (d + 5) 94 [.ref 101, .int 200, .int 900] (G, va_up I1 x (va_up (I1 x) 17 (Int32.ofNat v1)), L) = some (.inl (some (.int 0)), (G, I2, L)) := d1
      have d2' : mcal mT (r + 5) 187 [.ref 219, .int 200, .int 900] (G2, va_up J1 221 (va_up (J1 221) 161 (Int32.ofNat v1)), K) = some (.inl (some (.int 0)), (G2, J2, K)) := d2
      refine Or.inr ⟨I2, va_up J2 221 (va_up (J2 221) 162 0), k2, p2, ?_, ?_, d5, d6, by rw [up_ne (by decide)]; exact d7, by rw [up_ne (by decide)]; exact d8, d9, HcF_t (HcF_u (i := 0) (HcF_x c3) q4 (by decide)) (HcF_x d3), HjF_u (HjF_t (HjF_u (HjF_x c4)) (HjF_x d4))⟩
      · rw [q_X4_readBoiler_, e_X4_readBoiler_0]
        simp only [↓vX lX, ↓mcI_of c1', if_neg z1, e_X4_readBoiler_12, ↓vH lH, c7, up2_e, ↓mcI_of d1', if_true, mb0]
      · simp (disch := omega) only [↓vM lM, ↓mcI_of c2', up2_e, ↓mcI_of d2']
  · have c1' : mcal mT (d + 5) 94 [.ref 101, .int 1, .int 99999] (G, I, L) = some (.inl (some (.int 0)), (G, I1, L)) := c1
    have c2' : mcal mT (r + 5) 187 [.ref 219, .int 1, .int 99999] (G2, J, K) = some (.inl (some (.int 0)), (G2, J1, K)) := c2
    have nf : ¬ va_up J1 221 (va_up (J1 221) 161 0) 219 6 = -1 := by rw [up_ne (by decide), c7]; exact nm1 (by omega)
    refine Or.inr ⟨I1, va_up (va_up J1 221 (va_up (J1 221) 161 0)) 221 (va_up (va_up J1 221 (va_up (J1 221) 161 0) 221) 162 0), k1, p1, ?_, ?_, c5, c6, by rw [up_ne (by decide), up_ne (by decide)]; exact c7, by rw [up_ne (by decide), up_ne (by decide)]; exact c8, c9, HcF_x c3, HjF_u (HjF_u (HjF_x c4))⟩
    · rw [q_X4_readBoiler_, e_X4_readBoiler_0]
      simp only [↓vX lX, ↓mcI_of c1', if_true, mb0]
    · simp (disch := omega) only [↓vM lM, ↓mcI_of c2', show ∀ (F : Nat → Nat → Int32) v w, up2 F (219 + 2) v w = va_up F 221 (va_up (F 221) v w) from fun _ _ _ => rfl, ↓mcI_of (rk_numN (r + 3) (K := K) 200 900 lM nf)]
theorem kr_outer (d r : Nat) (lX : LayX G 101) (lH : LayH G x) (lM : LayM G2 219) (q : PrH B e a x nr n c I J) : OutK B e a x c (r + 5) I J G G2 L K (mcal mT (d + 6) 41 [.ref x, .ref 101, .ref (x + 4)] (G, I, L)) (gk G2 219 13 (mcI (mcal mT (r + 5) 191 [.ref 219] (G2, J, K)) (fun v66 h65 => gk h65.1 219 13 (gr h65.1 219 2 (fun b67 => gk h65.1 219 13 (mcI (mcal mT (r + 5) 187 [.ref 219, .int 0, .int 99] h65) (fun v69 h68 => gx h68.1 b67 20 (16 + v66) (fun j70 => f_X12_readClause (r + 5) 528 [.ref 219, mU, mU, mU, mU, mU, mU] [] (h68.1, (up2 h68.2.1 b67 j70 v69), h68.2.2))) mthr)))) mthr)) := by
  have z1 : ¬ (1 : Int32) = 0 := by decide
  obtain ⟨q1, q2, q3, q4, q5⟩ := id q
  obtain ⟨⟨a1, a2, a3, a4, a5, a6, a7, a8, a9⟩, -⟩ := id q3
  have i1 : I x 1 = Int32.ofNat nr := a4
  have i10 : I x 10 = Int32.ofNat n := a7
  rcases mr_pair (d + 2) (r + 2) (L := L) (K := K) lX lH lM q1 q2 i1 a5 a6 with ⟨I1, J1, v1, b1, f2, c1, c2, c3, c4, c5, c6, c7, c8, c9, -⟩ | ⟨I1, J1, k1, p1, c1, c2, c3, c4, c5, c6, c7, c8, c9⟩
  · have eo : (16 : Int32) + Int32.ofNat v1 = Int32.ofNat (16 + v1) := i_add 16 v1
    rcases nm_pair (d + 3) (r + 3) (L := L) (K := K) (lo := 0) (h1 := 100) (hi := 99) (by decide) lX lM c5 c6 (by decide) (by decide) with ⟨I2, J2, v2, b2, g1, g2, d1, d2, d3, d4, d5, d6, d7, d8, d9, -⟩ | ⟨I2, J2, k2, p2, d1, d2, d3, d4, d5, d6, d7, d8, d9⟩
    · have d1' : mcal mT (d + 5) 94 [.ref 101, .int 0, .int 99] (G, I1, L) = some (.inl (some (.int 1)), (G, I2, L)) := d1
      have d2' : mcal mT (r + 5) 187 [.ref 219, .int 0, .int 99] (G2, J1, K) = some (.inl (some (.int (Int32.ofNat v2))), (G2, J2, K)) := d2
      refine Or.inl ⟨va_up I2 (x + 4) (va_up (I2 (x + 4)) v1 (Int32.ofNat v2)), va_up J2 221 (va_up (J2 221) (16 + v1) (Int32.ofNat v2)), b2, nr, n, ?_, ?_, ⟨TxR_u d5 q4, RdR_u d6, ?_, q4, by rw [up_ne (by omega), d8, c8]; exact q5⟩, HcF_u (HcF_t (HcF_x c3) (HcF_x d3)) q4 (by decide), HjF_u (HjF_x (RdO_t c4 d4)), by omega⟩
      · rw [q_X4_readOfRoom_, e_X4_readOfRoom_0]
        simp (disch := omega) only [↓vH lH, ↓mcI_of c1, if_neg z1, e_X4_readOfRoom_10, ↓vX lX, c7, ↓mcI_of d1', e_X4_readOfRoom_27, d7, up2_e, mb1]
      · simp (disch := omega) only [↓vM lM, ↓mcI_of c2, ↓mcI_of d2', eo, up2_e]
      · rw [hrw_u, up_eq, hrw_o d3 q4, hrw_o c3 q4, show J2 221 = J 221 by rw [d4.1 221 (by decide), c4.1 221 (by decide)], show I2 (x + 4) = I (x + 4) by rw [d3.1 (x + 4) (by omega), c3.1 (x + 4) (by omega)]]
        exact Hr_of (i := 0) q3 (by omega) (by decide)
    · have d1' : mcal mT (d + 5) 94 [.ref 101, .int 0, .int 99] (G, I1, L) = some (.inl (some (.int 0)), (G, I2, L)) := d1
      have d2' : mcal mT (r + 5) 187 [.ref 219, .int 0, .int 99] (G2, J1, K) = some (.inl (some (.int 0)), (G2, J2, K)) := d2
      refine Or.inr ⟨I2, va_up J2 221 (va_up (J2 221) (16 + v1) 0), k2, p2, ?_, ?_, d5, d6, by rw [up_ne (by decide)]; exact d7, by rw [up_ne (by decide)]; exact d8, d9, HcF_t (HcF_x c3) (HcF_x d3), HjF_u (HjF_x (RdO_t c4 d4))⟩
      · rw [q_X4_readOfRoom_, e_X4_readOfRoom_0]
        simp (disch := omega) only [↓vH lH, ↓mcI_of c1, if_neg z1, e_X4_readOfRoom_10, ↓vX lX, c7, ↓mcI_of d1', if_true, mb0]
      · simp (disch := omega) only [↓vM lM, ↓mcI_of c2, ↓mcI_of d2', eo, up2_e]
  · have nf : ¬ J1 219 6 = -1 := by rw [c7]; exact nm1 (by omega)
    have eo : (16 : Int32) + 0 = Int32.ofNat 16 := by decide
    refine Or.inr ⟨I1, va_up J1 221 (va_up (J1 221) 16 0), k1, p1, ?_, ?_, c5, c6, by rw [up_ne (by decide)]; exact c7, by rw [up_ne (by decide)]; exact c8, c9, HcF_x c3, HjF_u (HjF_x c4)⟩
    · rw [q_X4_readOfRoom_, e_X4_readOfRoom_0]
      simp only [↓vH lH, ↓mcI_of c1, if_true, mb0]
    · simp (disch := omega) only [↓vM lM, ↓mcI_of c2, ↓mcI_of (rk_numN (r + 3) (K := K) 0 99 lM nf), eo, up2_e]
theorem kr_window (d r : Nat) (lX : LayX G 101) (lH : LayH G x) (lM : LayM G2 219) (q : PrH B e a x nr n c I J) : OutK B e a x c (r + 5) I J G G2 L K (mcal mT (d + 6) 41 [.ref x, .ref 101, .ref (x + 5)] (G, I, L)) (gk G2 219 13 (mcI (mcal mT (r + 5) 191 [.ref 219] (G2, J, K)) (fun v66 h65 => gk h65.1 219 13 (gr h65.1 219 2 (fun b67 => gk h65.1 219 13 (mcI (mcal mT (r + 5) 187 [.ref 219, .int 0, .int 99] h65) (fun v69 h68 => gx h68.1 b67 20 (24 + v66) (fun j70 => f_X12_readClause (r + 5) 528 [.ref 219, mU, mU, mU, mU, mU, mU] [] (h68.1, (up2 h68.2.1 b67 j70 v69), h68.2.2))) mthr)))) mthr)) := by
  have z1 : ¬ (1 : Int32) = 0 := by decide
  obtain ⟨q1, q2, q3, q4, q5⟩ := id q
  obtain ⟨⟨a1, a2, a3, a4, a5, a6, a7, a8, a9⟩, -⟩ := id q3
  have i1 : I x 1 = Int32.ofNat nr := a4
  have i10 : I x 10 = Int32.ofNat n := a7
  rcases mr_pair (d + 2) (r + 2) (L := L) (K := K) lX lH lM q1 q2 i1 a5 a6 with ⟨I1, J1, v1, b1, f2, c1, c2, c3, c4, c5, c6, c7, c8, c9, -⟩ | ⟨I1, J1, k1, p1, c1, c2, c3, c4, c5, c6, c7, c8, c9⟩
  · have eo : (24 : Int32) + Int32.ofNat v1 = Int32.ofNat (24 + v1) := i_add 24 v1
    rcases nm_pair (d + 3) (r + 3) (L := L) (K := K) (lo := 0) (h1 := 100) (hi := 99) (by decide) lX lM c5 c6 (by decide) (by decide) with ⟨I2, J2, v2, b2, g1, g2, d1, d2, d3, d4, d5, d6, d7, d8, d9, -⟩ | ⟨I2, J2, k2, p2, d1, d2, d3, d4, d5, d6, d7, d8, d9⟩
    · have d1' : mcal mT (d + 5) 94 [.ref 101, .int 0, .int 99] (G, I1, L) = some (.inl (some (.int 1)), (G, I2, L)) := d1
      have d2' : mcal mT (r + 5) 187 [.ref 219, .int 0, .int 99] (G2, J1, K) = some (.inl (some (.int (Int32.ofNat v2))), (G2, J2, K)) := d2
      refine Or.inl ⟨va_up I2 (x + 5) (va_up (I2 (x + 5)) v1 (Int32.ofNat v2)), va_up J2 221 (va_up (J2 221) (24 + v1) (Int32.ofNat v2)), b2, nr, n, ?_, ?_, ⟨TxR_u d5 q4, RdR_u d6, ?_, q4, by rw [up_ne (by omega), d8, c8]; exact q5⟩, HcF_u (HcF_t (HcF_x c3) (HcF_x d3)) q4 (by decide), HjF_u (HjF_x (RdO_t c4 d4)), by omega⟩
      · rw [q_X4_readOfRoom_, e_X4_readOfRoom_0]
        simp (disch := omega) only [↓vH lH, ↓mcI_of c1, if_neg z1, e_X4_readOfRoom_10, ↓vX lX, c7, ↓mcI_of d1', e_X4_readOfRoom_27, d7, up2_e, mb1]
      · simp (disch := omega) only [↓vM lM, ↓mcI_of c2, ↓mcI_of d2', eo, up2_e]
      · rw [hrw_u, up_eq, hrw_o d3 q4, hrw_o c3 q4, show J2 221 = J 221 by rw [d4.1 221 (by decide), c4.1 221 (by decide)], show I2 (x + 5) = I (x + 5) by rw [d3.1 (x + 5) (by omega), c3.1 (x + 5) (by omega)]]
        exact Hr_of (i := 1) q3 (by omega) (by decide)
    · have d1' : mcal mT (d + 5) 94 [.ref 101, .int 0, .int 99] (G, I1, L) = some (.inl (some (.int 0)), (G, I2, L)) := d1
      have d2' : mcal mT (r + 5) 187 [.ref 219, .int 0, .int 99] (G2, J1, K) = some (.inl (some (.int 0)), (G2, J2, K)) := d2
      refine Or.inr ⟨I2, va_up J2 221 (va_up (J2 221) (24 + v1) 0), k2, p2, ?_, ?_, d5, d6, by rw [up_ne (by decide)]; exact d7, by rw [up_ne (by decide)]; exact d8, d9, HcF_t (HcF_x c3) (HcF_x d3), HjF_u (HjF_x (RdO_t c4 d4))⟩
      · rw [q_X4_readOfRoom_, e_X4_readOfRoom_0]
        simp (disch := omega) only [↓vH lH, ↓mcI_of c1, if_neg z1, e_X4_readOfRoom_10, ↓vX lX, c7, ↓mcI_of d1', if_true, mb0]
      · simp (disch := omega) only [↓vM lM, ↓mcI_of c2, ↓mcI_of d2', eo, up2_e]
  · have nf : ¬ J1 219 6 = -1 := by rw [c7]; exact nm1 (by omega)
    have eo : (24 : Int32) + 0 = Int32.ofNat 24 := by decide
    refine Or.inr ⟨I1, va_up J1 221 (va_up (J1 221) 24 0), k1, p1, ?_, ?_, c5, c6, by rw [up_ne (by decide)]; exact c7, by rw [up_ne (by decide)]; exact c8, c9, HcF_x c3, HjF_u (HjF_x c4)⟩
    · rw [q_X4_readOfRoom_, e_X4_readOfRoom_0]
      simp only [↓vH lH, ↓mcI_of c1, if_true, mb0]
    · simp (disch := omega) only [↓vM lM, ↓mcI_of c2, ↓mcI_of (rk_numN (r + 3) (K := K) 0 99 lM nf), eo, up2_e]
theorem kr_tap (d r : Nat) {kd : Nat} (lX : LayX G 101) (lH : LayH G x) (lM : LayM G2 219) (q : PrH B e a x nr n c I J) (hk : kd ≤ 3) : OutK B e a x c (r + 5) I J G G2 L K (mcal mT (d + 6) 44 [.ref x, .ref 101, .int (Int32.ofNat kd)] (G, I, L)) (gk G2 219 13 (mcV (mcal mT (r + 5) 195 [.ref 219, .int (Int32.ofNat kd)] (G2, J, K)) (fun h85 => f_X12_readClause (r + 5) 528 [.ref 219, mU, mU, mU, mU, mU, mU] [] h85) mthr)) := by
  have z1 : ¬ (1 : Int32) = 0 := by decide
  obtain ⟨q1, q2, q3, q4, q5⟩ := id q
  obtain ⟨⟨a1, a2, a3, a4, a5, a6, a7, a8, a9⟩, -⟩ := id q3
  have i1 : I x 1 = Int32.ofNat nr := a4
  have i10 : I x 10 = Int32.ofNat n := a7
  rw [q_X12_readTap_, e_X12_readTap_0]
  rcases nm_pair (d + 3) (r + 2) (L := L) (K := K) (lo := 0) (h1 := n) (hi := Int32.ofNat n - 1) rfl lX lM q1 q2 (by decide) (by omega) with ⟨I1, J1, v1, b1, f1, f2, c1, c2, c3, c4, c5, c6, c7, c8, c9, -⟩ | ⟨I1, J1, k1, p1, c1, c2, c3, c4, c5, c6, c7, c8, c9⟩
  · have c1' : mcal mT (d + 5) 94 [.ref 101, .int 0, .int (Int32.ofNat n - 1)] (G, I, L) = some (.inl (some (.int 1)), (G, I1, L)) := c1
    have c2' : mcal mT (r + 4) 187 [.ref 219, .int 0, .int (Int32.ofNat n - 1)] (G2, J, K) = some (.inl (some (.int (Int32.ofNat v1))), (G2, J1, K)) := c2
    have eo : (144 : Int32) + Int32.ofNat v1 = Int32.ofNat (144 + v1) := i_add 144 v1
    have eo2 : (152 : Int32) + Int32.ofNat v1 = Int32.ofNat (152 + v1) := i_add 152 v1
    rcases nm_pair (d + 3) (r + 2) (L := L) (K := K) (lo := 0) (h1 := 401) (hi := 400) (by decide) lX lM c5 c6 (by decide) (by decide) with ⟨I2, J2, v2, b2, g1, g2, d1, d2, d3, d4, d5, d6, d7, d8, d9, -⟩ | ⟨I2, J2, k2, p2, d1, d2, d3, d4, d5, d6, d7, d8, d9⟩
    · have d1' : mcal mT (d + 5) 94 [.ref 101, .int 0, .int 400] (G, I1, L) = some (.inl (some (.int 1)), (G, I2, L)) := d1
      have d2' : mcal mT (r + 4) 187 [.ref 219, .int 0, .int 400] (G2, J1, K) = some (.inl (some (.int (Int32.ofNat v2))), (G2, J2, K)) := d2
      have fi := r_fine (r + 3) (K := K) lM d6.2.2.2.2.1
      have u1 : va_up I2 (x + 12) (va_up (I2 (x + 12)) v1 (Int32.ofNat kd)) (x + 13) = I2 (x + 13) := up_ne (by omega)
      have u2 : va_up I2 (x + 12) (va_up (I2 (x + 12)) v1 (Int32.ofNat kd)) 101 = I2 101 := up_ne (by omega)
      refine Or.inl ⟨va_up (va_up I2 (x + 12) (va_up (I2 (x + 12)) v1 (Int32.ofNat kd))) (x + 13) (va_up (I2 (x + 13)) v1 (Int32.ofNat v2)), va_up J2 221 (va_up (va_up (J2 221) (144 + v1) (Int32.ofNat kd)) (152 + v1) (Int32.ofNat v2)), b2, nr, n, ?_, ?_, ⟨TxR_u (TxR_u d5 q4) q4, RdR_u d6, ?_, q4, by rw [up_ne (by omega), up_ne (by omega), d8, c8]; exact q5⟩, HcF_u (HcF_u (HcF_t (HcF_x c3) (HcF_x d3)) q4 (by decide)) q4 (by decide), HjF_u (HjF_x (RdO_t c4 d4)), by omega⟩
      · rw [q_X4_readTap_, e_X4_readTap_0]
        simp (disch := omega) only [↓vH lH, ↓vX lX, i10, ↓mcI_of c1', if_neg z1, e_X4_readTap_16, c7, ↓mcI_of d1', e_X4_readTap_34, up2_e, u1, u2, d7, mb1]
      · simp (disch := omega) only [↓vM lM, a8, ↓mcI_of c2', ↓mcI_of d2', ↓mcI_of fi, if_neg z1, e_X12_readTap_33, eo, eo2, up2_e, up_eq, up_up, mcV_v]
      · rw [hrw_u, hrw_u, up_eq, hrw_o d3 q4, hrw_o c3 q4, show J2 221 = J 221 by rw [d4.1 221 (by decide), c4.1 221 (by decide)], show I2 (x + 12) = I (x + 12) by rw [d3.1 (x + 12) (by omega), c3.1 (x + 12) (by omega)], show I2 (x + 13) = I (x + 13) by rw [d3.1 (x + 13) (by omega), c3.1 (x + 13) (by omega)]]
        exact Hr_tap q3 f2 hk
    · have d1' : mcal mT (d + 5) 94 [.ref 101, .int 0, .int 400] (G, I1, L) = some (.inl (some (.int 0)), (G, I2, L)) := d1
      have d2' : mcal mT (r + 4) 187 [.ref 219, .int 0, .int 400] (G2, J1, K) = some (.inl (some (.int 0)), (G2, J2, K)) := d2
      have fi := r_fineN (r + 3) (J := J2) (K := K) lM (by rw [d7]; exact nm1 (by omega))
      refine Or.inr ⟨I2, J2, k2, p2, ?_, ?_, d5, d6, d7, d8, d9, HcF_t (HcF_x c3) (HcF_x d3), HjF_x (RdO_t c4 d4)⟩
      · rw [q_X4_readTap_, e_X4_readTap_0]
        simp (disch := omega) only [↓vH lH, ↓vX lX, i10, ↓mcI_of c1', if_neg z1, e_X4_readTap_16, c7, ↓mcI_of d1', if_true, mb0]
      · simp (disch := omega) only [↓vM lM, a8, ↓mcI_of c2', ↓mcI_of d2', ↓mcI_of fi, if_true, mcV_v]
  · have c1' : mcal mT (d + 5) 94 [.ref 101, .int 0, .int (Int32.ofNat n - 1)] (G, I, L) = some (.inl (some (.int 0)), (G, I1, L)) := c1
    have c2' : mcal mT (r + 4) 187 [.ref 219, .int 0, .int (Int32.ofNat n - 1)] (G2, J, K) = some (.inl (some (.int 0)), (G2, J1, K)) := c2
    have nf : ¬ J1 219 6 = -1 := by rw [c7]; exact nm1 (by omega)
    have fi := r_fineN (r + 3) (K := K) lM nf
    refine Or.inr ⟨I1, J1, k1, p1, ?_, ?_, c5, c6, c7, c8, c9, HcF_x c3, HjF_x c4⟩
    · rw [q_X4_readTap_, e_X4_readTap_0]
      simp only [↓vH lH, ↓vX lX, i10, ↓mcI_of c1', if_true, mb0]
    · simp (disch := omega) only [↓vM lM, a8, ↓mcI_of c2', ↓mcI_of (rk_numN (r + 2) (K := K) 0 400 lM nf), ↓mcI_of fi, if_true, mcV_v]
end
