/-! a house, read: clauses -/
def hrw (I : Nat → Nat → Int32) (x : Nat) : Nat → Nat → Int32 := fun i => I (x + i)
def PrH (B : Nat → Nat) (e a x nr n c : Nat) (I J : Nat → Nat → Int32) : Prop := TxR B e a I ∧ RdR B e a J ∧ HrI nr n c (hrw I x) (J 221) ∧ (x = 103 ∨ x = 118) ∧ I 101 7 = -1
def HcF (x : Nat) (I I' : Nat → Nat → Int32) : Prop := (∀ y, y ≠ 101 → ¬ (x ≤ y ∧ y < x + 14) → I' y = I y) ∧ ∀ k, (k < 3 ∨ 7 < k) → I' 101 k = I 101 k
def HjF (J J' : Nat → Nat → Int32) : Prop := (∀ y, y ≠ 219 → y ≠ 221 → J' y = J y) ∧ ∀ k, k ≠ 5 → k ≠ 6 → k ≠ 7 → J' 219 k = J 219 k
theorem HcF_t {x : Nat} {I I1 I2 : Nat → Nat → Int32} (a : HcF x I I1) (b : HcF x I1 I2) : HcF x I I2 := ⟨fun y h1 h2 => (b.1 y h1 h2).trans (a.1 y h1 h2), fun k h => (b.2 k h).trans (a.2 k h)⟩
theorem HjF_t {J J1 J2 : Nat → Nat → Int32} (a : HjF J J1) (b : HjF J1 J2) : HjF J J2 := ⟨fun y h1 h2 => (b.1 y h1 h2).trans (a.1 y h1 h2), fun k h1 h2 h3 => (b.2 k h1 h2 h3).trans (a.2 k h1 h2 h3)⟩
theorem HcF_x {x : Nat} {I I' : Nat → Nat → Int32} (o : TxO I I') : HcF x I I' := ⟨fun y h1 _ => o.1 y h1, o.2⟩
theorem HjF_x {J J' : Nat → Nat → Int32} (o : RdO J J') : HjF J J' := ⟨fun y h1 _ => o.1 y h1, o.2⟩
theorem HcF_u {x i : Nat} {I I' : Nat → Nat → Int32} {R : Nat → Int32} (a : HcF x I I') (hx : x = 103 ∨ x = 118) (hi : i < 14) : HcF x I (va_up I' (x + i) R) := ⟨fun y h1 h2 => by rw [up_ne (by omega)]; exact a.1 y h1 h2, fun k hk => by rw [up_ne (by omega)]; exact a.2 k hk⟩
theorem HjF_u {J J' : Nat → Nat → Int32} {R : Nat → Int32} (a : HjF J J') : HjF J (va_up J' 221 R) := ⟨fun y h1 h2 => by rw [up_ne h2]; exact a.1 y h1 h2, fun k h1 h2 h3 => by rw [up_ne (by decide)]; exact a.2 k h1 h2 h3⟩
theorem HcF_i {x : Nat} {I : Nat → Nat → Int32} : HcF x I I := ⟨fun _ _ _ => rfl, fun _ _ => rfl⟩
theorem HjF_i {J : Nat → Nat → Int32} : HjF J J := ⟨fun _ _ _ => rfl, fun _ _ _ _ => rfl⟩
theorem TxR_u {B : Nat → Nat} {e a x i : Nat} {I : Nat → Nat → Int32} {R : Nat → Int32} (q : TxR B e a I) (hx : x = 103 ∨ x = 118) : TxR B e a (va_up I (x + i) R) := TxR_r q (fun k => by rw [up_ne (by omega)]) (by rw [up_ne (by omega)])
theorem RdR_u {B : Nat → Nat} {e a : Nat} {J : Nat → Nat → Int32} {R : Nat → Int32} (q : RdR B e a J) : RdR B e a (va_up J 221 R) := by
  obtain ⟨x1, x2, x3, x4, x5, x6⟩ := q
  exact ⟨by rw [up_ne (by decide)]; exact x1, by rw [up_ne (by decide)]; exact x2, x3, x4, by rw [up_ne (by decide)]; exact x5, by rw [up_ne (by decide)]; exact x6⟩
theorem hrw_u {I : Nat → Nat → Int32} {x i : Nat} {R : Nat → Int32} : hrw (va_up I (x + i) R) x = va_up (hrw I x) i R := by
  funext j
  unfold hrw
  by_cases c : j = i
  · rw [c, up_eq, up_eq]
  · rw [up_ne (by omega), up_ne c]
theorem hrw_o {I I' : Nat → Nat → Int32} {x : Nat} (o : TxO I I') (hx : x = 103 ∨ x = 118) : hrw I' x = hrw I x := by
  funext j
  unfold hrw
  rw [o.1 (x + j) (by omega)]
def OutK (B : Nat → Nat) (e a x c R : Nat) (I J : Nat → Nat → Int32) (G G2 : mG) (L K : Nat → Nat → Int64) (X Y : Option mO) : Prop := (∃ I' J' a' nr' n', X = some (.inl (some (.int 1)), (G, I', L)) ∧ Y = f_X12_readClause R 528 [.ref 219, mU, mU, mU, mU, mU, mU] [] (G2, J', K) ∧ PrH B e a' x nr' n' c I' J' ∧ HcF x I I' ∧ HjF J J' ∧ a < a') ∨ (∃ I' J' k p, X = some (.inl (some (.int 0)), (G, I', L)) ∧ Y = f_X12_readClause R 528 [.ref 219, mU, mU, mU, mU, mU, mU] [] (G2, J', K) ∧ I' 101 6 = k ∧ I' 101 7 = Int32.ofNat p ∧ J' 219 6 = Int32.ofNat p ∧ J' 219 7 = k ∧ p ≤ 500 ∧ HcF x I I' ∧ HjF J J')
section
variable {G G2 : mG} {I J : Nat → Nat → Int32} {L K : Nat → Nat → Int64} {B : Nat → Nat} {e a x nr n c : Nat}
/-- a room's number -/
theorem mr_pair (d r : Nat) (lX : LayX G 101) (lH : LayH G x) (lM : LayM G2 219) (q1 : TxR B e a I) (q2 : RdR B e a J) (h1 : I x 1 = Int32.ofNat nr) (h2 : J 221 163 = Int32.ofNat nr) (h8 : nr ≤ 8) : (∃ I' J' v a', v < nr ∧ mcal mT (d + 3) 39 [.ref x, .ref 101] (G, I, L) = some (.inl (some (.int 1)), (G, I', L)) ∧ mcal mT (r + 3) 191 [.ref 219] (G2, J, K) = some (.inl (some (.int (Int32.ofNat v))), (G2, J', K)) ∧ TxO I I' ∧ RdO J J' ∧ TxR B e a' I' ∧ RdR B e a' J' ∧ I' 101 5 = Int32.ofNat v ∧ I' 101 7 = I 101 7 ∧ a < a' ∧ I' 101 4 = Int32.ofNat (skb B e a)) ∨ (∃ I' J' k p, mcal mT (d + 3) 39 [.ref x, .ref 101] (G, I, L) = some (.inl (some (.int 0)), (G, I', L)) ∧ mcal mT (r + 3) 191 [.ref 219] (G2, J, K) = some (.inl (some (.int 0)), (G2, J', K)) ∧ TxO I I' ∧ RdO J J' ∧ I' 101 6 = k ∧ I' 101 7 = Int32.ofNat p ∧ J' 219 6 = Int32.ofNat p ∧ J' 219 7 = k ∧ p ≤ 500) := by
  rw [q_X4_mustTakeRoom_, e_X4_mustTakeRoom_0, q_X12_readRoom_, e_X12_readRoom_0]
  rcases nm_pair d r (L := L) (K := K) (lo := 0) (h1 := nr) (hi := Int32.ofNat nr - 1) rfl lX lM q1 q2 (by decide) (by omega) with ⟨I1, J1, v, a1, -, v2, c1, c2, c3, c4, c5, c6, c7, c8, c9, -, p, y1, -, -, y4⟩ | ⟨I1, J1, k, p, c1, c2, c3, c4, c5⟩
  · have c1' : mcal mT (d + 2) 94 [.ref 101, .int 0, .int (Int32.ofNat nr - 1)] (G, I, L) = some (.inl (some (.int 1)), (G, I1, L)) := c1
    have c2' : mcal mT (r + 2) 187 [.ref 219, .int 0, .int (Int32.ofNat nr - 1)] (G2, J, K) = some (.inl (some (.int (Int32.ofNat v))), (G2, J1, K)) := c2
    refine Or.inl ⟨I1, J1, v, a1, v2, ?_, ?_, c3, c4, c5, c6, c7, c8, c9, by rw [y1, y4]⟩
    · simp only [↓vH lH, ↓vX lX, h1, ↓mcI_of c1', mb1]
    · simp (disch := omega) only [↓vM lM, h2, ↓mcI_of c2']
  · have c1' : mcal mT (d + 2) 94 [.ref 101, .int 0, .int (Int32.ofNat nr - 1)] (G, I, L) = some (.inl (some (.int 0)), (G, I1, L)) := c1
    have c2' : mcal mT (r + 2) 187 [.ref 219, .int 0, .int (Int32.ofNat nr - 1)] (G2, J, K) = some (.inl (some (.int 0)), (G2, J1, K)) := c2
    refine Or.inr ⟨I1, J1, k, p, ?_, ?_, c3, c4, c5⟩
    · simp only [↓vH lH, ↓vX lX, h1, ↓mcI_of c1', mb0]
    · simp (disch := omega) only [↓vM lM, h2, ↓mcI_of c2']
theorem mr_N (r : Nat) (lM : LayM G2 219) (f : ¬ J 219 6 = -1) : mcal mT (r + 3) 191 [.ref 219] (G2, J, K) = some (.inl (some (.int 0)), (G2, J, K)) := by
  rw [q_X12_readRoom_, e_X12_readRoom_0]
  simp (disch := omega) only [↓vM lM, ↓mcI_of (rk_numN r (K := K) 0 (J 221 163 - 1) lM f)]
/-- room -/
theorem kr_room (d r : Nat) (lX : LayX G 101) (lH : LayH G x) (lM : LayM G2 219) (q : PrH B e a x nr n c I J) (hn : nr < 8) : OutK B e a x c (r + 5) I J G G2 L K (mcal mT (d + 6) 38 [.ref x, .ref 101] (G, I, L)) (gk G2 219 13 (mcI (mcal mT (r + 5) 187 [.ref 219, .int 1, .int 99] (G2, J, K)) (fun v46 h45 => gk h45.1 219 13 (mcI (mcal mT (r + 5) 187 [.ref 219, .int 0, .int 400] h45) (fun v48 h47 => gk h47.1 219 13 (gr h47.1 219 2 (fun b49 => gk h47.1 219 13 (gr h47.1 219 2 (fun b50 => gx h47.1 b50 20 163 (fun j51 => gx h47.1 b49 20 (0 + (h47.2.1 b50 j51)) (fun j52 => gk h47.1 219 13 (gr h47.1 219 2 (fun b53 => gk h47.1 219 13 (gr h47.1 219 2 (fun b54 => gx h47.1 b54 20 163 (fun j55 => gx h47.1 b53 20 (8 + ((up2 h47.2.1 b49 j52 v46) b54 j55)) (fun j56 => gk h47.1 219 13 (gr h47.1 219 2 (fun b57 => gx h47.1 b57 20 163 (fun j58 => gx h47.1 b57 20 163 (fun j59 => f_X12_readClause (r + 5) 528 [.ref 219, mU, mU, mU, mU, mU, mU] [] (h47.1, (up2 (up2 (up2 h47.2.1 b49 j52 v46) b53 j56 (10 * v48)) b57 j59 (((up2 (up2 h47.2.1 b49 j52 v46) b53 j56 (10 * v48)) b57 j58) + 1)), h47.2.2)))))))))))))))))) mthr)) mthr)) := by
  have z1 : ¬ (1 : Int32) = 0 := by decide
  obtain ⟨q1, q2, q3, q4, q5⟩ := id q
  obtain ⟨⟨a1, a2, a3, a4, a5, a6, a7, a8, a9⟩, -⟩ := id q3
  have i1 : I x 1 = Int32.ofNat nr := a4
  have n8 : ¬ (8 : Int32) ≤ Int32.ofNat nr := fun t => by have := (i_le (a := 8) (by decide) (by omega)).mp t; omega
  have e8 : (8 : Int32) + Int32.ofNat nr = Int32.ofNat (8 + nr) := i_add 8 nr
  -- the reference's end, whatever was read
  have er : ∀ (J2 : Nat → Nat → Int32) (v w : Int32), J2 221 163 = Int32.ofNat nr → (gk G2 219 13 (gr G2 219 2 (fun b49 => gk G2 219 13 (gr G2 219 2 (fun b50 => gx G2 b50 20 163 (fun j51 => gx G2 b49 20 (0 + (J2 b50 j51)) (fun j52 => gk G2 219 13 (gr G2 219 2 (fun b53 => gk G2 219 13 (gr G2 219 2 (fun b54 => gx G2 b54 20 163 (fun j55 => gx G2 b53 20 (8 + ((up2 J2 b49 j52 v) b54 j55)) (fun j56 => gk G2 219 13 (gr G2 219 2 (fun b57 => gx G2 b57 20 163 (fun j58 => gx G2 b57 20 163 (fun j59 => f_X12_readClause (r + 5) 528 [.ref 219, mU, mU, mU, mU, mU, mU] [] (G2, (up2 (up2 (up2 J2 b49 j52 v) b53 j56 (10 * w)) b57 j59 (((up2 (up2 J2 b49 j52 v) b53 j56 (10 * w)) b57 j58) + 1)), K)))))))))))))))))) = f_X12_readClause (r + 5) 528 [.ref 219, mU, mU, mU, mU, mU, mU] [] (G2, va_up J2 221 (va_up (va_up (va_up (J2 221) nr v) (8 + nr) (10 * w)) 163 (Int32.ofNat (nr + 1))), K) := by
    intro J2 v w h3
    have u1 : va_up (J2 221) nr v 163 = Int32.ofNat nr := by rw [up_ne (by omega)]; exact h3
    have u2 : va_up (va_up (J2 221) nr v) (8 + nr) (10 * w) 163 = Int32.ofNat nr := by rw [up_ne (by omega), up_ne (by omega)]; exact h3
    simp (disch := omega) only [↓vM lM, h3, Int32.zero_add, up2_e, up_eq, up_up, u1, e8, u2, i_one]
  rcases nm_pair (d + 3) (r + 3) (L := L) (K := K) (lo := 1) (h1 := 100) (hi := 99) (by decide) lX lM q1 q2 (by decide) (by decide) with ⟨I1, J1, v1, b1, f1, f2, c1, c2, c3, c4, c5, c6, c7, c8, c9, -⟩ | ⟨I1, J1, k1, p1, c1, c2, c3, c4, c5, c6, c7, c8, c9⟩
  · have c1' : mcal mT (d + 5) 94 [.ref 101, .int 1, .int 99] (G, I, L) = some (.inl (some (.int 1)), (G, I1, L)) := c1
    have c2' : mcal mT (r + 5) 187 [.ref 219, .int 1, .int 99] (G2, J, K) = some (.inl (some (.int (Int32.ofNat v1))), (G2, J1, K)) := c2
    have i11 : I1 x 1 = Int32.ofNat nr := by rw [c3.1 x (by omega)]; exact i1
    have t2 : TxR B e b1 (va_up I1 (x + 1) (va_up (I1 (x + 1)) nr (Int32.ofNat v1))) := TxR_u c5 q4
    have j13 : J1 221 163 = Int32.ofNat nr := by rw [c4.1 221 (by decide)]; exact a5
    rcases nm_pair (d + 3) (r + 3) (L := L) (K := K) (lo := 0) (h1 := 401) (hi := 400) (by decide) lX lM t2 c6 (by decide) (by decide) with ⟨I2, J2, v2, b2, g1, g2, d1, d2, d3, d4, d5, d6, d7, d8, d9, -⟩ | ⟨I2, J2, k2, p2, d1, d2, d3, d4, d5, d6, d7, d8, d9⟩
    · have d1' : mcal mT (d + 5) 94 [.ref 101, .int 0, .int 400] (G, va_up I1 (x + 1) (va_up (I1 (x + 1)) nr (Int32.ofNat v1)), L) = some (.inl (some (.int 1)), (G, I2, L)) := d1
      have d2' : mcal mT (r + 5) 187 [.ref 219, .int 0, .int 400] (G2, J1, K) = some (.inl (some (.int (Int32.ofNat v2))), (G2, J2, K)) := d2
      have i21 : I2 x 1 = Int32.ofNat nr := by rw [d3.1 x (by omega), up_ne (by omega)]; exact i11
      have j23 : J2 221 163 = Int32.ofNat nr := by rw [d4.1 221 (by decide)]; exact j13
      have m10 : Int32.ofNat v2 * 10 = Int32.ofNat (10 * v2) := by rw [show (10 : Int32) = Int32.ofNat 10 from rfl, i_mul, Nat.mul_comm]
      have m10' : (10 : Int32) * Int32.ofNat v2 = Int32.ofNat (10 * v2) := i_mul 10 v2
      have e2 := er J2 (Int32.ofNat v1) (Int32.ofNat v2) j23
      rw [m10'] at e2
      have x0 : (x : Nat) = x + 0 := rfl
      refine Or.inl ⟨va_up (va_up I2 (x + 2) (va_up (I2 (x + 2)) nr (Int32.ofNat (10 * v2)))) x (va_up (I2 x) 1 (Int32.ofNat (nr + 1))), va_up J2 221 (va_up (va_up (va_up (J2 221) nr (Int32.ofNat v1)) (8 + nr) (Int32.ofNat (10 * v2))) 163 (Int32.ofNat (nr + 1))), b2, nr + 1, n, ?_, ?_, ⟨?_, RdR_u d6, ?_, q4, ?_⟩, ?_, HjF_u (HjF_x (RdO_t c4 d4)), by omega⟩
      · have u1 : va_up I2 (x + 2) (va_up (I2 (x + 2)) nr (Int32.ofNat (10 * v2))) x = I2 x := up_ne (by omega)
        rw [q_X4_readRoom_, e_X4_readRoom_0]
        simp (disch := omega) only [↓vH lH, i1, if_neg n8, ↓vX lX, ↓mcI_of c1', if_neg z1, e_X4_readRoom_21, i11, c7, up2_e, ↓mcI_of d1', e_X4_readRoom_47, i21, d7, m10, u1, i_one, mb1]
      · simp only [↓vM lM, ↓mcI_of c2', ↓mcI_of d2', m10']
        simp only [↓vM lM] at e2
        exact e2
      · exact TxR_u (i := 0) (TxR_u d5 q4) q4
      · have hh : hrw (va_up (va_up I2 (x + 2) (va_up (I2 (x + 2)) nr (Int32.ofNat (10 * v2)))) x (va_up (I2 x) 1 (Int32.ofNat (nr + 1)))) x = va_up (va_up (va_up (hrw I x) 1 (va_up (hrw I x 1) nr (Int32.ofNat v1))) 2 (va_up (hrw I x 2) nr (Int32.ofNat (10 * v2)))) 0 (va_up (hrw I x 0) 1 (Int32.ofNat (nr + 1))) := by
          have s1 : hrw I2 x = va_up (hrw I x) 1 (va_up (hrw I x 1) nr (Int32.ofNat v1)) := by
            rw [hrw_o d3 q4, hrw_u, hrw_o c3 q4, show I1 (x + 1) = I (x + 1) from c3.1 (x + 1) (by omega)]
            rfl
          rw [show va_up (va_up I2 (x + 2) (va_up (I2 (x + 2)) nr (Int32.ofNat (10 * v2)))) x (va_up (I2 x) 1 (Int32.ofNat (nr + 1))) = va_up (va_up I2 (x + 2) (va_up (I2 (x + 2)) nr (Int32.ofNat (10 * v2)))) (x + 0) (va_up (I2 x) 1 (Int32.ofNat (nr + 1))) from rfl, hrw_u, hrw_u, s1]
          rw [show I2 (x + 2) = I (x + 2) by rw [d3.1 (x + 2) (by omega), up_ne (by omega), c3.1 (x + 2) (by omega)], show I2 x = I x by rw [d3.1 x (by omega), up_ne (by omega), c3.1 x (by omega)]]
          rfl
        rw [hh, up_eq, show J2 221 = J 221 by rw [d4.1 221 (by decide), c4.1 221 (by decide)]]
        exact Hr_room q3 hn f1 f2 g2
      · rw [up_ne (by omega), up_ne (by omega), d8, up_ne (by omega), c8]; exact q5
      · exact HcF_u (i := 0) (HcF_u (HcF_t (HcF_u (HcF_x c3) q4 (by decide)) (HcF_x d3)) q4 (by decide)) q4 (by decide)
    · have d1' : mcal mT (d + 5) 94 [.ref 101, .int 0, .int 400] (G, va_up I1 (x + 1) (va_up (I1 (x + 1)) nr (Int32.ofNat v1)), L) = some (.inl (some (.int 0)), (G, I2, L)) := d1
      have d2' : mcal mT (r + 5) 187 [.ref 219, .int 0, .int 400] (G2, J1, K) = some (.inl (some (.int 0)), (G2, J2, K)) := d2
      have j23 : J2 221 163 = Int32.ofNat nr := by rw [d4.1 221 (by decide)]; exact j13
      have e2 := er J2 (Int32.ofNat v1) 0 j23
      refine Or.inr ⟨I2, va_up J2 221 (va_up (va_up (va_up (J2 221) nr (Int32.ofNat v1)) (8 + nr) (10 * 0)) 163 (Int32.ofNat (nr + 1))), k2, p2, ?_, ?_, d5, d6, by rw [up_ne (by decide)]; exact d7, by rw [up_ne (by decide)]; exact d8, d9, HcF_t (HcF_u (HcF_x c3) q4 (by decide)) (HcF_x d3), HjF_u (HjF_x (RdO_t c4 d4))⟩
      · rw [q_X4_readRoom_, e_X4_readRoom_0]
        simp (disch := omega) only [↓vH lH, i1, if_neg n8, ↓vX lX, ↓mcI_of c1', if_neg z1, e_X4_readRoom_21, i11, c7, up2_e, ↓mcI_of d1', if_true, mb0]
      · simp only [↓vM lM, ↓mcI_of c2', ↓mcI_of d2']
        simp only [↓vM lM] at e2
        exact e2
  · have c1' : mcal mT (d + 5) 94 [.ref 101, .int 1, .int 99] (G, I, L) = some (.inl (some (.int 0)), (G, I1, L)) := c1
    have c2' : mcal mT (r + 5) 187 [.ref 219, .int 1, .int 99] (G2, J, K) = some (.inl (some (.int 0)), (G2, J1, K)) := c2
    have nf : ¬ J1 219 6 = -1 := by rw [c7]; exact nm1 (by omega)
    have j13 : J1 221 163 = Int32.ofNat nr := by rw [c4.1 221 (by decide)]; exact a5
    have e2 := er J1 0 0 j13
    refine Or.inr ⟨I1, va_up J1 221 (va_up (va_up (va_up (J1 221) nr 0) (8 + nr) (10 * 0)) 163 (Int32.ofNat (nr + 1))), k1, p1, ?_, ?_, c5, c6, by rw [up_ne (by decide)]; exact c7, by rw [up_ne (by decide)]; exact c8, c9, HcF_x c3, HjF_u (HjF_x c4)⟩
    · rw [q_X4_readRoom_, e_X4_readRoom_0]
      simp only [↓vH lH, i1, if_neg n8, ↓vX lX, ↓mcI_of c1', if_true, e_X4_readRoom_19, mb0]
    · simp only [↓vM lM, ↓mcI_of c2', ↓mcI_of (rk_numN (r + 3) (K := K) 0 400 lM nf)]
      simp only [↓vM lM] at e2
      exact e2
end
