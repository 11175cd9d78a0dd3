/-! call: claim -/
section
variable {G G2 : mG} {I J : Nat → Nat → Int32} {L K : Nat → Nat → Int64} {B : Nat → Nat} {h hs bl bs cl cs kc b e : Nat} {mk : Nat → Nat}
/-- claims exchanged -/
theorem LyR_C (q : LyR G h hs bl bs cl cs kc mk) : LyR (gS (gS G 100 10 (some cl)) 100 9 (some cs)) h hs bl bs cs cl kc mk := by
  obtain ⟨a1, a2, a3, ⟨ht, a4⟩, ⟨a5, a6⟩, ⟨a7, a8⟩, ⟨a9, a10⟩, ⟨a11, a12⟩, a13, ⟨a14, a15⟩, ⟨a16, a17⟩, a18, ⟨a19, a20⟩, a21, a22, a23, a24, a25, a26, a27, a28, a29⟩ := q
  refine ⟨?_, LayX_m (Sam_S (by omega)) (LayX_m (Sam_S (by omega)) a2), LayP_m (Sam_S (by omega)) (LayP_m (Sam_S (by omega)) a3), ⟨ht, LayP_m (Sam_S (by omega)) (LayP_m (Sam_S (by omega)) a4)⟩, ⟨LayH_m (Sam_S (by omega)) (LayH_m (Sam_S (by omega)) a5), LayH_m (Sam_S (by omega)) (LayH_m (Sam_S (by omega)) a6)⟩, ⟨LayS_m (Sam_S (by omega)) (LayS_m (Sam_S (by omega)) a7), LayS_m (Sam_S (by omega)) (LayS_m (Sam_S (by omega)) a8)⟩, ⟨LayT_m (Sam_S (by omega)) (LayT_m (Sam_S (by omega)) a9), LayT_m (Sam_S (by omega)) (LayT_m (Sam_S (by omega)) a10)⟩, ⟨LayU_m (Sam_S (by omega)) (LayU_m (Sam_S (by omega)) a11), LayU_m (Sam_S (by omega)) (LayU_m (Sam_S (by omega)) a12)⟩, LayD_m (Sam_S (by omega)) (LayD_m (Sam_S (by omega)) a13), ⟨LayW_m (Sam_S (by omega)) (LayW_m (Sam_S (by omega)) a14), LayW_m (Sam_S (by omega)) (LayW_m (Sam_S (by omega)) a15)⟩, ⟨LayW_m (Sam_S (by omega)) (LayW_m (Sam_S (by omega)) a16), LayW_m (Sam_S (by omega)) (LayW_m (Sam_S (by omega)) a17)⟩, LayM_m (Sam_S (by omega)) (LayM_m (Sam_S (by omega)) a18), ⟨a19, a20⟩, a21, a22, a23, ?_, a25, a26, ?_, ?_, a29⟩
  · unfold LayB at a1 ⊢
    simp (disch := decide) only [kS, nS, rS, up_eq, up_ne, up_up]
    obtain ⟨b1, b2, b3, b4, b5, b6, b7, b8, b9, b10, b11⟩ := a1
    obtain ⟨b12, b13, b14⟩ := b11
    exact ⟨b1, b2, b3, b4, b5, b6, b7, b8, b9, trivial, trivial, b13, b14⟩
  · omega
  · intro i hi
    obtain ⟨b1, b2, b3, b4⟩ := a27 i hi
    rw [rS, up_ne (by decide), rS, up_ne (by decide)]
    exact ⟨b1, LayK_m (Sam_S (by omega)) (LayK_m (Sam_S (by omega)) b2), b3, b4⟩
  · intro i hi h4
    rw [rS, up_ne (by decide), rS, up_ne (by decide)]
    exact a28 i hi h4
theorem CcR_i {s : Nat} {I' : Nat → Nat → Int32} (hb : b = 207 ∨ b = 211) (o : TxO I I') (q : CcR b s I J) : CcR b s I' J := by
  unfold CcR CcJ at q ⊢
  rw [o.1 (b + 1) (by omega), o.1 (b + 2) (by omega)]
  exact q
/-- a text of claims, read by both -/
theorem cp_pair (d r : Nat) (lX : LayX G 101) (lW : LayW G 2 b) (lM : LayM G2 219) (hb : b = 207 ∨ b = 211) (he : e ≤ 200) (q1 : TxR B e 0 I) (i7 : I 101 7 = -1) (q2 : RdR B e 0 J) (j8 : J 219 8 = 0) (j37 : J 219 45 = 0) : (∃ I' J' s, mcal mT (d + 28) 10 [.ref b, .ref 101] (G, I, L) = some (.inl (some (.int 1)), (G, I', L)) ∧ (mcV (mcal mT (r + 27) 279 [.ref 219] (G2, J, K)) (fun h4 => gk h4.1 219 13 (mcI (mcal mT (r + 27) 179 [.ref 219] h4) (fun v6 h5 => (if v6 = 0 then f_X12_claim (r + 27) 76 [.ref 219, mU, mU, mU] [] h5 else gk h5.1 219 13 (mcI (mcal mT (r + 27) 190 [.ref 219] h5) (fun v8 h7 => (if v8 = 0 then f_X12_claim (r + 27) 76 [.ref 219, mU, mU, mU] [] h7 else gk h7.1 219 13 (gk h7.1 219 13 (mcV (mcal mT (r + 27) 180 [.ref 219, .int 1, .int (h7.2.1 219 5)] h7) (fun h9 => f_X12_claim (r + 27) 76 [.ref 219, mU, mU, mU] [] h9) mthr)))) mthr))) mthr)) mthr) = f_X12_claim (r + 27) 76 [.ref 219, mU, mU, mU] [] (G2, J', K) ∧ BlC b I I' ∧ I' 101 7 = -1 ∧ ClJ J J' ∧ J' 219 6 = -1 ∧ CcR b s I' J' ∧ SgC (wK J') 0 s 15 ∧ 0 < s ∧ s ≤ 100 ∧ pos (wK J') s ≤ 200) ∨ (∃ I' J' k p, mcal mT (d + 28) 10 [.ref b, .ref 101] (G, I, L) = some (.inl (some (.int 0)), (G, I', L)) ∧ (mcV (mcal mT (r + 27) 279 [.ref 219] (G2, J, K)) (fun h4 => gk h4.1 219 13 (mcI (mcal mT (r + 27) 179 [.ref 219] h4) (fun v6 h5 => (if v6 = 0 then f_X12_claim (r + 27) 76 [.ref 219, mU, mU, mU] [] h5 else gk h5.1 219 13 (mcI (mcal mT (r + 27) 190 [.ref 219] h5) (fun v8 h7 => (if v8 = 0 then f_X12_claim (r + 27) 76 [.ref 219, mU, mU, mU] [] h7 else gk h7.1 219 13 (gk h7.1 219 13 (mcV (mcal mT (r + 27) 180 [.ref 219, .int 1, .int (h7.2.1 219 5)] h7) (fun h9 => f_X12_claim (r + 27) 76 [.ref 219, mU, mU, mU] [] h9) mthr)))) mthr))) mthr)) mthr) = f_X12_claim (r + 27) 76 [.ref 219, mU, mU, mU] [] (G2, J', K) ∧ BlC b I I' ∧ ClJ J J' ∧ I' 101 6 = k ∧ I' 101 7 = Int32.ofNat p ∧ J' 219 6 = Int32.ofNat p ∧ J' 219 7 = k ∧ p ≤ 500) := by
  have z1 : ¬ (1 : Int32) = 0 := by decide
  have lC := lW.2.2
  generalize hI1 : va_up I (b + 1) (va_up (I (b + 1)) 1 0) = I1
  have o1 : ∀ x, x ≠ b + 1 → I1 x = I x := fun x hx => by rw [← hI1, up_ne hx]
  have bc1 : BlC b I I1 := ⟨fun x _ h2 _ => o1 x h2, fun k _ => by rw [o1 101 (by omega)], fun k hk => by rw [← hI1, up_eq, up_ne hk]⟩
  have t1 : TxR B e 0 I1 := by
    obtain ⟨x1, x2, x3, x4, x5⟩ := q1
    exact ⟨by rw [o1 101 (by omega)]; exact x1, by rw [o1 101 (by omega)]; exact x2, x3, x4, by rw [o1 102 (by omega)]; exact x5⟩
  have q : PrC B b e 0 (6 - 6) 0 I1 J := ⟨t1, q2, j8, ⟨by rw [← hI1, up_eq, up_eq]; rfl, j37, fun j hj => absurd hj (Nat.not_lt_zero _)⟩, Nat.le_refl _, Nat.le_refl _, he, hb, by rw [o1 101 (by omega)]; exact i7⟩
  have ec : ∀ X, mcal mT (d + 27) 11 [.ref b, .ref 101, .int 0] (G, I1, L) = X → mcal mT (d + 28) 10 [.ref b, .ref 101] (G, I, L) = mcI X (fun v3 h2 => (if v3 = 0 then f_X1_readFrom (d + 27) 28 [mU, mU] [] h2 else gk h2.1 101 11 (mcI (mcal mT (d + 27) 90 [.ref 101] h2) (fun v5 h4 => (if v5 = 0 then f_X1_readFrom (d + 27) 28 [mU, mU] [] h4 else f_X1_readFrom (d + 27) 29 [mU, mU] [.int 1] h4)) mthr))) mthr := by
    intro X hX
    rw [q_X1_readFrom_, e_X1_readFrom_0]
    simp only [↓vW lW, ↓vC lC, up2_e, hI1, hX]
  rcases (any_all (L := L) (K := K) lX lW lM 6 (Nat.le_refl _)).1 d r I1 J 0 0 q with ⟨I2, J2, a2, s2, x1, x2, x3, x4, x5, x6, x7, x8, x9, x9', x10, x11, x12⟩ | ⟨I2, J2, k2, p2, x1, x2, x3, x4, x5, x6, x7, x8, x9⟩
  · have x1' : mcal mT (d + 27) 11 [.ref b, .ref 101, .int 0] (G, I1, L) = some (.inl (some (.int 1)), (G, I2, L)) := x1
    have x2' : mcal mT (r + 27) 279 [.ref 219] (G2, J, K) = some (.inl none, (G2, J2, K)) := x2
    obtain ⟨y1, y2, y3, y4, y5, y6, y7, -, y8⟩ := id x3
    have bb := skb_b (B := B) (e := e) (a := a2) y1.2.2.1
    have fi := r_fine (r + 26) (K := K) lM y2.2.2.2.2.1
    obtain ⟨J3, m1, m2, m3, m4⟩ := rk_more (r + 25) (K := K) lM y2
    rcases tk_mustEnd (d + 24) (L := L) lX y1 with ⟨n1, I3, c1, c2, c3⟩ | ⟨n1, I3, c1, c2, c3, c4⟩
    · rw [if_neg n1] at m1
      refine Or.inl ⟨I3, J3, s2, ?_, ?_, BlC_t bc1 (BlC_t x4 (BlC_y hb c2)), by rw [c3 7 (by decide)]; exact y8, ClJ_t x5 (ClJ_x m2), m3.2.2.2.2.1, CcR_r (CcR_i hb c2 y4) m2, SgC_c x12 (wK_s (SaC_x m2)) (Nat.zero_le _) (Nat.le_refl _), x11, by omega, by rw [← pos_c s2 (wK_s (SaC_x m2))]; omega⟩
      · rw [ec _ x1', mcI_v]
        simp only [if_neg z1, ↓vX lX, ↓mcI_of c1, e_X1_readFrom_29, mb1]
      · rw [x2', mcV_v]
        simp only [↓vM lM, ↓mcI_of fi, if_neg z1, ↓mcI_of m1, if_true]
    · rw [if_pos n1] at m1
      have j5 : J3 219 5 = Int32.ofNat (skb B e a2) := m3.2.1
      have w := r_wrong (r + 26) (K := K) 1 (Int32.ofNat (skb B e a2)) lM m3.2.2.2.2.1
      have o3 := RdO_u (k := 6) (v := Int32.ofNat (skb B e a2)) m2 (by omega)
      have o4 := RdO_u (k := 7) (v := 1) o3 (by omega)
      rw [up_eq, up_up] at o4
      refine Or.inr ⟨I3, _, 1, skb B e a2, ?_, ?_, BlC_t bc1 (BlC_t x4 (BlC_y hb c2)), ClJ_t x5 (ClJ_x o4), c3, c4, by rw [up_eq, up_ne (by decide), up_eq], by rw [up_eq, up_eq], by omega⟩
      · rw [ec _ x1', mcI_v]
        simp only [if_neg z1, ↓vX lX, ↓mcI_of c1, if_true, e_X1_readFrom_28, e_X1_readFrom_29, mb0]
      · rw [x2', mcV_v]
        simp only [↓vM lM, ↓mcI_of fi, if_neg z1, ↓mcI_of m1, j5, ↓mcV_of w]
  · have x1' : mcal mT (d + 27) 11 [.ref b, .ref 101, .int 0] (G, I1, L) = some (.inl (some (.int 0)), (G, I2, L)) := x1
    have x2' : mcal mT (r + 27) 279 [.ref 219] (G2, J, K) = some (.inl none, (G2, J2, K)) := x2
    have nf : ¬ J2 219 6 = -1 := by rw [x5]; exact nm1 (by omega)
    have fi := r_fineN (r + 26) (K := K) lM nf
    refine Or.inr ⟨I2, J2, k2, p2, ?_, ?_, BlC_t bc1 x8, x9, x3, x4, x5, x6, x7⟩
    · rw [ec _ x1', mcI_v]
      simp only [if_true, e_X1_readFrom_28, e_X1_readFrom_29, mb0]
    · rw [x2', mcV_v]
      simp only [↓vM lM, ↓mcI_of fi, if_true]
end
section
variable {G : mG} {I J : Nat → Nat → Int32} {L K : Nat → Nat → Int64} {B : Nat → Nat} {m : Nat}
/-- the read sayings become the claim in use -/
theorem cp_copy (r : Nat) {s : Nat} (lM : LayM G 219) (h6 : J 219 6 = -1) (h45 : J 219 45 = Int32.ofNat s) (hs : s ≤ 100) : f_X12_claim (r + 1) 76 [.ref 219, mU, mU, mU] [] (G, J, K) = some (.inl (some (.int 0)), (G, va_up (va_up (va_up J 219 (va_up (va_up (J 219) 9 (-1)) 44 (Int32.ofNat s))) 241 (pre s (J 243) (J 241))) 242 (pre (4 * s) (J 244) (J 242)), K)) := by
  have fi := r_fine r (G := G) (J := va_up J 219 (va_up (J 219) 9 (-1))) (K := K) lM (by rw [up_eq, up_ne (by decide)]; exact h6)
  rw [e_X12_claim_76]
  simp only [↓vM lM, h6, up2_e, ↓mcI_of fi, if_neg (show ¬ (1 : Int32) = 0 by decide), e_X12_claim_99]
  generalize hJ1 : va_up J 219 (va_up (va_up (J 219) 9 (-1)) 44 (Int32.ofNat s)) = J1
  have e1 : va_up (va_up J 219 (va_up (J 219) 9 (-1))) 219 (va_up (va_up J 219 (va_up (J 219) 9 (-1)) 219) 44 (va_up J 219 (va_up (J 219) 9 (-1)) 219 45)) = J1 := by
    rw [up_eq, up_up, up_ne (show (45 : Nat) ≠ 9 by decide), h45]
    exact hJ1
  rw [e1]
  have o1 : ∀ x, x ≠ 219 → J1 x = J x := fun x hx => by rw [← hJ1, up_ne hx]
  have e44 : J1 219 44 = Int32.ofNat s := by rw [← hJ1, up_eq, up_eq]
  have z9 : ∀ R S, va_up (va_up J1 241 R) 242 S 219 = J1 219 := fun R S => by rw [up_ne (by decide), up_ne (by decide)]
  have z3 : ∀ R S, va_up (va_up J1 241 R) 242 S 243 = J 243 := fun R S => by rw [up_ne (by decide), up_ne (by decide), o1 243 (by decide)]
  have z4 : ∀ R S, va_up (va_up J1 241 R) 242 S 244 = J 244 := fun R S => by rw [up_ne (by decide), up_ne (by decide), o1 244 (by decide)]
  have z1 : ∀ R S, va_up (va_up J1 241 R) 242 S 241 = R := fun R S => by rw [up_ne (by decide), up_eq]
  have z2 : ∀ R S, va_up (va_up J1 241 R) 242 S 242 = S := fun R S => up_eq
  have cm : ∀ R S T, va_up (va_up (va_up J1 241 R) 242 S) 241 T = va_up (va_up J1 241 T) 242 S := fun R S T => by
    funext x
    by_cases c : x = 242
    · rw [c, up_eq, up_ne (by decide), up_eq]
    · rw [up_ne c]
      by_cases c2 : x = 241
      · rw [c2, up_eq, up_eq]
      · rw [up_ne c2, up_ne c, up_ne c2, up_ne c2]
  have cm2 : ∀ R S T, va_up (va_up (va_up J1 241 R) 242 S) 242 T = va_up (va_up J1 241 R) 242 T := fun R S T => up_up
  have inn : ∀ k R, k < 100 → f_X12_claim (r + 1) 131 [.ref 219, mU, .int (Int32.ofNat k), .int 0] [] (G, va_up (va_up J1 241 R) 242 (pre (4 * k) (J 244) (J 242)), K) = f_X12_claim (r + 1) 162 [.ref 219, mU, .int (Int32.ofNat k), mU] [] (G, va_up (va_up J1 241 R) 242 (pre (4 * (k + 1)) (J 244) (J 242)), K) := by
    intro k R hk
    have lp := loopx (fun i (st : mH) => f_X12_claim (r + 1) 131 [.ref 219, mU, .int (Int32.ofNat k), .int i] [] st) (fun i => (G, va_up (va_up J1 241 R) 242 (pre (4 * k + i) (J 244) (J 242)), K)) 4 (fun i hi => by
      have nn : ¬ (4 : Int32) ≤ Int32.ofNat i := fun p => by have := (i_le (a := 4) (by decide) (by omega)).mp p; omega
      have m4 : (4 : Int32) * Int32.ofNat k + Int32.ofNat i = Int32.ofNat (4 * k + i) := by rw [show (4 : Int32) = Int32.ofNat 4 from rfl, i_mul, i_add]
      show f_X12_claim (r + 1) 131 _ _ _ = f_X12_claim (r + 1) 131 _ _ _
      rw [e_X12_claim_131, if_neg nn]
      simp (disch := omega) only [↓vM lM, m4, z4, up2_e, z2, cm2, i_one]
      rw [pre_s rfl]
      rfl)
    refine Eq.trans lp ?_
    show f_X12_claim (r + 1) 131 _ _ _ = _
    rw [e_X12_claim_131, if_pos (by decide)]
    rfl
  have lp := loopy (fun k (st : mH) => f_X12_claim (r + 1) 109 [.ref 219, mU, .int k, mU] [] st) (fun k => (G, va_up (va_up J1 241 (pre k (J 243) (J 241))) 242 (pre (4 * k) (J 244) (J 242)), K)) s (G, J1, K) (by rw [pre_0, Nat.mul_zero, pre_0, ← o1 241 (by decide), ← o1 242 (by decide), up_id, up_id]) (fun k hk => by
    have nn : ¬ Int32.ofNat s ≤ Int32.ofNat k := fun p => by have := (i_le (by omega) (by omega)).mp p; omega
    show f_X12_claim (r + 1) 109 _ _ _ = f_X12_claim (r + 1) 109 _ _ _
    rw [e_X12_claim_109]
    simp (disch := omega) only [↓vM lM, z9, e44, if_neg nn, z3, up2_e, z1, cm]
    rw [pre_s rfl, inn k _ (by omega), e_X12_claim_162, i_one])
  refine Eq.trans lp ?_
  show f_X12_claim (r + 1) 109 _ _ _ = _
  rw [e_X12_claim_109]
  simp only [↓vM lM, z9, e44, if_pos i_rf, e_X12_claim_168]
theorem cp_bad (r : Nat) (lM : LayM G 219) (h6 : ¬ J 219 6 = -1) : f_X12_claim (r + 1) 76 [.ref 219, mU, mU, mU] [] (G, J, K) = some (.inl (some (.int (J 219 7 - 10))), (G, va_up J 219 (va_up (J 219) 9 (J 219 6)), K)) := by
  have fi := r_fineN r (G := G) (J := va_up J 219 (va_up (J 219) 9 (J 219 6))) (K := K) lM (by rw [up_eq, up_ne (by decide)]; exact h6)
  rw [e_X12_claim_76]
  simp only [↓vM lM, up2_e, ↓mcI_of fi, if_true, up_eq, up_ne (show (7 : Nat) ≠ 9 by decide)]
end
section
variable {z h hs bl bs cl cs nr n nh M hN w lc mc kc ta : Nat} {rm pi mk : Nat → Nat} {G : mG} {I : Nat → Nat → Int32} {L : Nat → Nat → Int64}
theorem ca_claim (d : Nat) (q : Rel z h hs bl bs cl cs nr n nh M hN w lc mc kc ta rm pi mk G I L) (g1 : G.1 ≤ 252 + z + 25 * kc) (g2 : G.2.1 ≤ 60000 + 6 * z + 4000 * kc) (hz : z + 1 ≤ 512) (x : Int32) : Ste (d + 30) 321 283 [.int x] (z + 1) G I L := by
  obtain ⟨lB, lX, lP, -, ⟨lH1, lH2⟩, ⟨lS, -⟩, ⟨lT, -⟩, ⟨lU, -⟩, lD, -, -, lM, ⟨o1, o2⟩, -, hh, -⟩ := id q.1
  have ho := q.2.1
  obtain ⟨s1, s2, s3, s4, s5, s6⟩ := ho_sz ho
  have lH : LayH G h := by
    rcases hh with ⟨a, -⟩ | ⟨a, -⟩
    · rw [a]; exact lH1
    · rw [a]; exact lH2
  have hb : 103 ≤ h ∧ h + 14 ≤ 132 := by omega
  obtain ⟨-, -, ⟨hF, hHN⟩, hS, ⟨hT, hMz⟩, hU, hD, hTp, hEg, hLg, -, -, -, -⟩ := id q
  have z1 : ¬ (1 : Int32) = 0 := by decide
  have I00 : (va_up I 219 (va_up (I 219) 0 0)) 219 0 = 0 := by rw [up_eq, up_eq]
  have I01 : (va_up I 219 (va_up (I 219) 0 0)) 220 = I 220 := up_ne (by decide)
  obtain ⟨t1, t2, t3, t4, t5⟩ := id hTp
  have jm : jmin (Int32.ofNat ta) 200 = Int32.ofNat (if ta ≤ 200 then ta else 200) := jmin_n (b := 200) (by omega) (by decide)
  by_cases c0 : x < 0 ∨ Int32.ofNat (if ta ≤ 200 then ta else 200) < x
  · have hc : mcal mT (d + 29) 103 [.ref 100, .int x] (G, I, L) = some (.inr "java/lang/IllegalArgumentException", (G, I, L)) := by
      simp only [q_X11_claim_, e_X11_claim_0, ↓vB lB, ↓vX lX, t1, jm, nw_no (d + 27) c0 (G, I, L), mcV_e, mthr_e]
    refine Ste_e (k := 1) q g1 g2 hz (by decide) (w_claim_A (d + 29) hc lB.1) fun lM => ?_
    have my := r_may0 (d + 28) 1 lM (I := va_up I 219 (va_up (I 219) 0 0)) (L := L) I00 (by decide)
    have e3 : va_up I 219 (va_up (I 219) 0 0) 219 3 = Int32.ofNat ta := by rw [up_eq, up_ne (by decide)]; exact t2
    show mcal mT (d + 30) 283 [.ref 219, .int x] _ = _
    rw [q_X12_claim_, e_X12_claim_0]
    simp only [up2_e, e3]
    have fin : f_X12_claim (d + 29) 29 [.ref 219, .int x, mU, mU] [.ref 219] (gC G, va_up I 219 (va_up (I 219) 0 0), L) = some (.inl (some (.int 0)), (gC G, va_up I 219 (va_up (I 219) 0 1), L)) := by
      simp only [e_X12_claim_29, e_X12_claim_30, ↓vM lM, ↓mcI_of my, if_true, up_eq, up_up]
    simp only [↓vM lM]
    by_cases c1 : x < 0
    · rw [if_pos c1]; exact fin
    rw [if_neg c1]
    by_cases c2 : Int32.ofNat ta < x
    · rw [if_pos c2]; exact fin
    rw [if_neg c2]
    have c3 : (200 : Int32) < x := by
      have c4 := c0.resolve_left c1
      by_cases c5 : ta ≤ 200
      · rw [if_pos c5] at c4; exact absurd c4 c2
      · rw [if_neg c5] at c4; exact c4
    rw [if_pos c3]
    exact fin
  obtain ⟨m, hm, rfl⟩ := i_rng (x := x) (n := if ta ≤ 200 then ta else 200) c0 (by split <;> omega)
  have hm2 : m ≤ ta ∧ m ≤ 200 := by split at hm <;> omega
  obtain ⟨B, hB⟩ := byts q
  obtain ⟨-, -, -, -, -, -, -, -, -, -, ⟨lW1, lW2⟩, -, -, -, -, hbl, hcl0, -⟩ := id q.1
  have hbs : cs = 207 ∨ cs = 211 := by omega
  have lW : LayW G 2 cs := by
    rcases hcl0 with ⟨-, a⟩ | ⟨-, a⟩
    · rw [a]; exact lW2
    · rw [a]; exact lW1
  obtain ⟨x1, x2, x3⟩ := bgT_x (I := I) (B := B) (m := m) (by omega) (fun j hj => (hB j (by omega)).1)
  have bg := c_begin (d + 27) (I := I) (L := L) (m := m) lX (by omega)
  -- the reference from any heap
  have rf : ∀ (Gx : mG) (Ix : Nat → Nat → Int32) (Lx : Nat → Nat → Int64), LayM Gx 219 → Ix 222 = I 222 → (∀ v : Int32, RdR B m 0 (va_up (rbT (va_up Ix 219 (va_up (Ix 219) 0 v)) m) 219 (va_up (rbT (va_up Ix 219 (va_up (Ix 219) 0 v)) m 219) 45 0)) ∧ va_up (rbT (va_up Ix 219 (va_up (Ix 219) 0 v)) m) 219 (va_up (rbT (va_up Ix 219 (va_up (Ix 219) 0 v)) m 219) 45 0) 219 8 = 0 ∧ va_up (rbT (va_up Ix 219 (va_up (Ix 219) 0 v)) m) 219 (va_up (rbT (va_up Ix 219 (va_up (Ix 219) 0 v)) m 219) 45 0) 219 45 = 0 ∧ va_up (rbT (va_up Ix 219 (va_up (Ix 219) 0 v)) m) 219 (va_up (rbT (va_up Ix 219 (va_up (Ix 219) 0 v)) m 219) 45 0) 219 3 = 0) := by
    intro Gx Ix Lx lMx e222 v
    obtain ⟨y1, y2, y3⟩ := rbT_x (J := va_up Ix 219 (va_up (Ix 219) 0 v)) (B := B) (m := m) (by omega) (fun j hj => by rw [up_ne (by decide), e222, (hB j (by omega)).2]; exact (hB j (by omega)).1)
    refine ⟨RdR_k y1 (by decide), by rw [up_eq, up_ne (by decide)]; exact y2, by rw [up_eq, up_eq], by rw [up_eq, up_ne (by decide)]; exact y3⟩
  obtain ⟨f1, f2, f3, -⟩ := rf G I L lM rfl 0
  -- the end of a call
  have ends : ∀ (cl' cs' : Nat) (v : Int32) (If : Nat → Nat → Int32) (Gf : mG), LyR Gf h hs bl bs cl' cs' kc mk → Gf.1 = G.1 → Gf.2.1 = G.2.1 → gN Gf 0 = gN G 0 → BlC cs (bgT I m) If → mcal mT (d + 29) 103 [.ref 100, .int (Int32.ofNat m)] (G, I, L) = some (.inl (some (.int v)), (Gf, If, L)) → (∀ K : Nat → Nat → Int64, ∃ F, (mcV (mcal mT (d + 29) 279 [.ref 219] (Gf, va_up (rbT (va_up If 219 (va_up (If 219) 0 0)) m) 219 (va_up (rbT (va_up If 219 (va_up (If 219) 0 0)) m 219) 45 0), K)) (fun h4 => gk h4.1 219 13 (mcI (mcal mT (d + 29) 179 [.ref 219] h4) (fun v6 h5 => (if v6 = 0 then f_X12_claim (d + 29) 76 [.ref 219, mU, mU, mU] [] h5 else gk h5.1 219 13 (mcI (mcal mT (d + 29) 190 [.ref 219] h5) (fun v8 h7 => (if v8 = 0 then f_X12_claim (d + 29) 76 [.ref 219, mU, mU, mU] [] h7 else gk h7.1 219 13 (gk h7.1 219 13 (mcV (mcal mT (d + 29) 180 [.ref 219, .int 1, .int (h7.2.1 219 5)] h7) (fun h9 => f_X12_claim (d + 29) 76 [.ref 219, mU, mU, mU] [] h9) mthr)))) mthr))) mthr)) mthr) = some (.inl (some (.int v)), (Gf, F, K)) ∧ (∀ a, ¬ RdX hs a → F a = If a) ∧ (∀ k, 10 ≤ k → k ≠ 36 → k ≠ 37 → k ≠ 44 → k ≠ 45 → F 219 k = If 219 k) ∧ F 219 0 = 0 ∧ TpR F 0 ∧ BiR F bl ∧ ClR F cl') → Ste (d + 30) 321 283 [.int (Int32.ofNat m)] (z + 1) G I L := by
    intro cl' cs' v If Gf lyf gf1 gf2 gf3 bc hc hF
    have lMf : LayM Gf 219 := lyf.2.2.2.2.2.2.2.2.2.2.2.1
    obtain ⟨w1, w2⟩ := lyf.2.2.2.2.2.2.2.2.2.2.2.2.1
    obtain ⟨F, h1, h2, h3, h4, h5, h6, h7⟩ := hF (up2 L 251 0 (Int32.toInt64 v))
    have oI : ∀ a, ¬ RdX hs a → If a = I a := fun a ha => by
      unfold RdX at ha
      rw [bc.1 a (by omega) (by omega) (by omega), bgT_o (by omega)]
    have i9 : If 219 = I 219 := by rw [bc.1 219 (by decide) (by omega) (by omega), bgT_o (by decide)]
    have J00 : va_up If 219 (va_up (If 219) 0 0) 219 0 = 0 := by rw [up_eq, up_eq]
    have my := r_may1 (d + 28) 1 lMf (I := va_up If 219 (va_up (If 219) 0 0)) (L := up2 L 251 0 (Int32.toInt64 v)) J00
    have rb := r_begin (d + 28) (J := va_up If 219 (va_up (If 219) 0 0)) (K := up2 L 251 0 (Int32.toInt64 v)) (m := m) lMf
    have e3 : va_up If 219 (va_up (If 219) 0 0) 219 3 = Int32.ofNat ta := by rw [up_eq, up_ne (by decide), i9]; exact t2
    have n1 : ¬ Int32.ofNat m < 0 := i_neg (by omega)
    have n2 : ¬ Int32.ofNat ta < Int32.ofNat m := fun t => by have := (i_lt (by omega) (by omega)).mp t; omega
    have n3 : ¬ (200 : Int32) < Int32.ofNat m := fun t => by have := (i_lt (a := 200) (by decide) (by omega)).mp t; omega
    refine ⟨0, v, Gf, If, _, F, up2 L 251 0 (Int32.toInt64 v), w_claim (d + 29) hc lB.1 w1 w2, ?_, gf3, ?_, ?_, h4, fun _ => ?_, h, hs, bl, bs, cl', cs', nr, n, nh, M, hN, w, lc, mc, kc, 0, rm, pi, mk, Rel_rd q lyf hz (fun a ha => by rw [h2 a ha, oI a ha]) (fun k k1 k2 k3 k4 k5 => by rw [h3 k k1 k2 k3 k4 k5, i9]) h5 h6 h7 (fun a ha => by rw [up2_e, up_ne ha]), by omega, by omega⟩
    · exact oI 0 (by unfold RdX; omega)
    · show mcal mT (d + 30) 283 [.ref 219, .int (Int32.ofNat m)] _ = _
      rw [q_X12_claim_, e_X12_claim_0]
      simp only [show ∀ v, up2 If 219 0 v = va_up If 219 (va_up (If 219) 0 v) from fun _ => rfl, e3, ↓vM lMf, if_neg n1, if_neg n2, if_neg n3, e_X12_claim_30, ↓mcI_of my, if_neg z1, e_X12_claim_39, ↓mcV_of rb, show ∀ (J : Nat → Nat → Int32) (v : Int32), up2 J 219 45 v = va_up J 219 (va_up (J 219) 45 v) from fun _ _ => rfl]
      exact h1
    · rw [h2 0 (by unfold RdX; omega), oI 0 (by unfold RdX; omega)]
    · rw [up2_e, up_eq, up_eq]
  have e500 : m ≤ 500 := by omega
  have cl0 : ∀ X, mcal mT (d + 28) 10 [.ref cs, .ref 101] (G, bgT I m, L) = X → mcal mT (d + 29) 103 [.ref 100, .int (Int32.ofNat m)] (G, I, L) = mcI X (fun v8 h7 => (if v8 = 0 then gk h7.1 100 12 (gr h7.1 100 0 (fun b9 => gk h7.1 b9 11 (some (.inl (some (.int ((h7.2.1 b9 6) - 10))), h7)))) else f_X11_claim (d + 28) 53 [.ref 100, mU, .ref cs] [] h7)) mthr := by
    intro X hX
    have k1 := lW.1
    rw [q_X11_claim_, e_X11_claim_0]
    simp only [↓vB lB, ↓vX lX, t1, jm, nw_ok (d + 27) c0 (G, I, L), mcV_v, ↓mcV_of bg, ↓gk_t k1, hX]
  rcases cp_pair d (d + 2) (G2 := G) (I := bgT I m) (L := L) (K := L) (B := B) lX lW lM hbs hm2.2 x1 x2 f1 f2 f3 with ⟨If, Ja, sa, a1, -, a3, a4, -⟩ | ⟨If, Ja, ka, pa, a1, -, a3, -, a5, a6, -⟩
  · -- both have read it
    have lyf := LyR_C q.1
    have hc : mcal mT (d + 29) 103 [.ref 100, .int (Int32.ofNat m)] (G, I, L) = some (.inl (some (.int 0)), (gS (gS G 100 10 (some cl)) 100 9 (some cs), If, L)) := by
      have k8 : gK (gS G 100 10 (some cl)) 100 = 12 := lB.1
      rw [cl0 _ a1, mcI_v]
      simp only [if_neg z1, e_X11_claim_53, ↓vB lB, ↓gk_t k8]
    refine ends cs cl 0 If _ lyf rfl rfl rfl a3 hc (fun K => ?_)
    generalize gS (gS G 100 10 (some cl)) 100 9 (some cs) = Gf at lyf
    have lMf : LayM Gf 219 := lyf.2.2.2.2.2.2.2.2.2.2.2.1
    obtain ⟨f1, f2, f3, f4⟩ := rf Gf If L lMf (by rw [a3.1 222 (by decide) (by omega) (by omega), bgT_o (by decide)]) 0
    rcases cp_pair d (d + 2) (G2 := Gf) (I := bgT I m) (L := L) (K := K) (B := B) lX lW lMf hbs hm2.2 x1 x2 f1 f2 f3 with ⟨If', Jb, sb, b1, b2, b3, b4, b5, b6, ⟨b7, b8, b9⟩, b10, b11, b12, b13⟩ | ⟨If', Jb, kb, pb, b1, -⟩
    · obtain ⟨-, -, rfl, -⟩ := some_i a1 b1
      have cp := cp_copy (d + 28) (G := Gf) (J := Jb) (K := K) (s := sb) lMf b6 b8 b12
      have r9 : ∀ k, k ≠ 9 → k ≠ 44 → va_up (va_up (va_up Jb 219 (va_up (va_up (Jb 219) 9 (-1)) 44 (Int32.ofNat sb))) 241 (pre sb (Jb 243) (Jb 241))) 242 (pre (4 * sb) (Jb 244) (Jb 242)) 219 k = Jb 219 k := fun k k1 k2 => by rw [up_ne (by decide), up_ne (by decide), up_eq, up_ne k2, up_ne k1]
      have rx : ∀ a, a ≠ 219 → a ≠ 241 → a ≠ 242 → a ≠ 243 → a ≠ 244 → va_up (va_up (va_up Jb 219 (va_up (va_up (Jb 219) 9 (-1)) 44 (Int32.ofNat sb))) 241 (pre sb (Jb 243) (Jb 241))) 242 (pre (4 * sb) (Jb 244) (Jb 242)) a = If' a := fun a h1 h2 h3 h4 h5 => by rw [up_ne h3, up_ne h2, up_ne h1, b5.1 a h1 h4 h5, up_ne h1, rbT_o h1, up_ne h1]
      have j9 : ∀ k, 10 ≤ k ∨ k = 0 → k ≠ 45 → Jb 219 k = va_up If' 219 (va_up (If' 219) 0 0) 219 k := fun k k1 k2 => by rw [b5.2 k (by omega) (by omega) (by omega) (by omega) k2, up_eq, up_ne k2, rbT_k (by omega)]
      have i9 : If' 219 = I 219 := by rw [b3.1 219 (by decide) (by omega) (by omega), bgT_o (by decide)]
      refine ⟨_, b2.trans cp, fun a ha => ?_, fun k k1 k2 k3 k4 k5 => ?_, ?_, ?_, ?_, ?_⟩
      · unfold RdX at ha
        exact rx a (by omega) (by omega) (by omega) (by omega) (by omega)
      · rw [r9 k (by omega) k4, j9 k (by omega) k5, up_eq, up_ne (by omega)]
      · rw [r9 0 (by decide) (by decide), j9 0 (by omega) (by decide), up_eq, up_eq]
      · refine ⟨?_, ?_, by decide, fun j hj => absurd hj (Nat.not_lt_zero _), ?_⟩
        · rw [rx 101 (by decide) (by decide) (by decide) (by decide) (by decide), b3.2.1 1 (by omega), x3]; rfl
        · rw [r9 3 (by decide) (by decide), b5.2 3 (by decide) (by decide) (by decide) (by decide) (by decide), f4]; rfl
        · rw [rx 101 (by decide) (by decide) (by decide) (by decide) (by decide), b4, up_ne (by decide), up_ne (by decide), up_eq, up_ne (by decide), up_eq]
      · have hbl1 : bl = 199 ∨ bl = 203 := by omega
        have rz : ∀ a, a = bl + 1 ∨ a = bl + 2 ∨ a = 235 ∨ a = 236 → va_up (va_up (va_up Jb 219 (va_up (va_up (Jb 219) 9 (-1)) 44 (Int32.ofNat sb))) 241 (pre sb (Jb 243) (Jb 241))) 242 (pre (4 * sb) (Jb 244) (Jb 242)) a = I a := fun a ha => by rw [rx a (by omega) (by omega) (by omega) (by omega) (by omega), b3.1 a (by omega) (by omega) (by omega), bgT_o (by omega)]
        refine BiR_c (q.2.2.2.2.2.2.2.2.2.2.1) (by rw [rz (bl + 1) (by omega)]) ?_ (rz (bl + 2) (by omega)) (rz 235 (by omega)) (rz 236 (by omega))
        rw [r9 36 (by decide) (by decide), j9 36 (by omega) (by decide), up_eq, up_ne (by decide), i9]
      · have r1 : va_up (va_up (va_up Jb 219 (va_up (va_up (Jb 219) 9 (-1)) 44 (Int32.ofNat sb))) 241 (pre sb (Jb 243) (Jb 241))) 242 (pre (4 * sb) (Jb 244) (Jb 242)) (cs + 1) = If' (cs + 1) := rx _ (by omega) (by omega) (by omega) (by omega) (by omega)
        have r2 : va_up (va_up (va_up Jb 219 (va_up (va_up (Jb 219) 9 (-1)) 44 (Int32.ofNat sb))) 241 (pre sb (Jb 243) (Jb 241))) 242 (pre (4 * sb) (Jb 244) (Jb 242)) (cs + 2) = If' (cs + 2) := rx _ (by omega) (by omega) (by omega) (by omega) (by omega)
        have r3 : ∀ j, j < sb → va_up (va_up (va_up Jb 219 (va_up (va_up (Jb 219) 9 (-1)) 44 (Int32.ofNat sb))) 241 (pre sb (Jb 243) (Jb 241))) 242 (pre (4 * sb) (Jb 244) (Jb 242)) 241 j = Jb 243 j := fun j hj => by rw [up_ne (by decide), up_eq, pre_lt hj]
        have r4 : ∀ i, i < 4 * sb → va_up (va_up (va_up Jb 219 (va_up (va_up (Jb 219) 9 (-1)) 44 (Int32.ofNat sb))) 241 (pre sb (Jb 243) (Jb 241))) 242 (pre (4 * sb) (Jb 244) (Jb 242)) 242 i = Jb 244 i := fun i hi => by rw [up_eq, pre_lt hi]
        have h0 : hgc (wK Jb) 0 = 0 := rfl
        refine ⟨sb, wK Jb, by rw [r1]; exact b7, by rw [up_ne (by decide), up_ne (by decide), up_eq, up_eq], by omega, b13, fun j hj => ?_, fun j hj => ?_, Or.inr (by have := b10.2; rw [this]; rfl)⟩
        · obtain ⟨wv, v1, v2, v3, v4, v5, v6⟩ := b9 j hj
          have ew : wK Jb j = wv := by unfold wK; rw [v2, i_nat (by omega)]
          rw [ew, r2, r3 j hj]
          refine ⟨v2, v1, fun p => ?_, v4, v5, v6⟩
          obtain ⟨y1, rr, qq, ff, tt, y2, y3, y4, y5, y6, y7, y8, y9, y10, y11, y12, y13⟩ := v3 p
          rw [r4 (4 * j) (by omega), r4 (4 * j + 1) (by omega), r4 (4 * j + 2) (by omega), r4 (4 * j + 3) (by omega)]
          exact ⟨y1, rr, qq, ff, tt, y2, y3, y4, y5, y6, y7, y8, y9, y10, y11, y12, y13⟩
        · obtain ⟨u1, u2, u3⟩ := b10.1 j (Nat.zero_le _) hj
          exact ⟨fun p => by have := u1 p; omega, fun p => by have := u2 p; omega, fun p => by have := u3 p; omega⟩
    · obtain ⟨e, -⟩ := some_i a1 b1
      exact absurd e (by decide)
  · -- both have found a fault
    have hc : mcal mT (d + 29) 103 [.ref 100, .int (Int32.ofNat m)] (G, I, L) = some (.inl (some (.int (ka - 10))), (G, If, L)) := by
      rw [cl0 _ a1, mcI_v]
      simp only [if_true, ↓vB lB, ↓vX lX, a5]
    refine ends cl cs (ka - 10) If G q.1 rfl rfl rfl a3 hc (fun K => ?_)
    obtain ⟨f1, f2, f3, f4⟩ := rf G If L lM (by rw [a3.1 222 (by decide) (by omega) (by omega), bgT_o (by decide)]) 0
    rcases cp_pair d (d + 2) (G2 := G) (I := bgT I m) (L := L) (K := K) (B := B) lX lW lM hbs hm2.2 x1 x2 f1 f2 f3 with ⟨If', Jb, sb, b1, -⟩ | ⟨If', Jb, kb, pb, b1, b2, b3, b4, b5, b6, b7, b8, b9⟩
    · obtain ⟨e, -⟩ := some_i a1 b1
      exact absurd e (by decide)
    · obtain ⟨-, -, rfl, -⟩ := some_i a1 b1
      have ek : ka = kb := by rw [← a5, ← b5]
      have nf : ¬ Jb 219 6 = -1 := by rw [b7]; exact nm1 (by omega)
      have bad := cp_bad (d + 28) (G := G) (J := Jb) (K := K) lM nf
      rw [b8, ← ek] at bad
      have ry : ∀ a, ¬ (a = 219 ∨ a = 243 ∨ a = 244) → va_up Jb 219 (va_up (Jb 219) 9 (Jb 219 6)) a = If' a := fun a ha => by rw [up_ne (by omega), b4.1 a (by omega) (by omega) (by omega), up_ne (by omega), rbT_o (by omega), up_ne (by omega)]
      have r9 : ∀ k, 10 ≤ k → k ≠ 45 → va_up Jb 219 (va_up (Jb 219) 9 (Jb 219 6)) 219 k = If' 219 k := fun k k1 k3 => by rw [up_eq, up_ne (by omega), b4.2 k (by omega) (by omega) (by omega) (by omega) k3, up_eq, up_ne k3, rbT_k (by omega), up_eq, up_ne (by omega)]
      have i9 : If' 219 = I 219 := by rw [b3.1 219 (by decide) (by omega) (by omega), bgT_o (by decide)]
      refine ⟨_, b2.trans bad, fun a ha => ?_, fun k k1 k2 k3 k4 k5 => r9 k k1 k5, ?_, ⟨?_, ?_, by decide, fun j hj => absurd hj (Nat.not_lt_zero _), ?_⟩, ?_, ?_⟩
      · unfold RdX at ha
        exact ry a (by omega)
      · rw [up_eq, up_ne (by decide), b4.2 0 (by decide) (by decide) (by decide) (by decide) (by decide), up_eq, up_ne (by decide), rbT_k (by omega), up_eq, up_eq]
      · rw [ry 101 (by omega), b3.2.1 1 (by omega), x3]; rfl
      · rw [up_eq, up_ne (by decide), b4.2 3 (by decide) (by decide) (by decide) (by decide) (by decide), f4]; rfl
      · rw [ry 101 (by omega), b6, up_eq, up_eq, b7]
      · have rz : ∀ a, a = bl + 1 ∨ a = bl + 2 ∨ a = 235 ∨ a = 236 → va_up Jb 219 (va_up (Jb 219) 9 (Jb 219 6)) a = I a := fun a ha => by rw [ry a (by omega), b3.1 a (by omega) (by omega) (by omega), bgT_o (by omega)]
        refine BiR_c (q.2.2.2.2.2.2.2.2.2.2.1) (by rw [rz (bl + 1) (by omega)]) ?_ (rz (bl + 2) (by omega)) (rz 235 (by omega)) (rz 236 (by omega))
        rw [r9 36 (by decide) (by decide), i9]
      · have hcl : cl = 207 ∨ cl = 211 := by
          obtain ⟨-, -, -, -, -, -, -, -, -, -, -, -, -, -, -, -, hcl, -⟩ := id q.1
          omega
        have rz : ∀ a, a = cl + 1 ∨ a = cl + 2 ∨ a = 241 ∨ a = 242 → va_up Jb 219 (va_up (Jb 219) 9 (Jb 219 6)) a = I a := fun a ha => by rw [ry a (by omega), b3.1 a (by omega) (by omega) (by omega), bgT_o (by omega)]
        refine ClR_c (q.2.2.2.2.2.2.2.2.2.2.2.1) (by rw [rz (cl + 1) (by omega)]) ?_ (rz (cl + 2) (by omega)) (rz 241 (by omega)) (rz 242 (by omega))
        rw [r9 44 (by decide) (by decide), i9]
end
