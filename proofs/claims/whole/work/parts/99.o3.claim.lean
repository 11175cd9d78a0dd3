/-! claims, read: one, and the whole -/
section
variable {G G2 : mG} {I J : Nat → Nat → Int32} {L K : Nat → Nat → Int64} {B : Nat → Nat} {b e a t s : Nat}
/-- a bracket or a not opened by the reference -/
theorem op_N (d x : Nat) (lM : LayM G2 219) (f : ¬ J 219 6 = -1) : mcal mT (d + 2) 281 [.ref 219, .int (Int32.ofNat x)] (G2, J, K) = some (.inl none, (G2, va_up J 219 (va_up (J 219) 8 (J 219 8 + 1)), K)) := by
  have fi := r_fineN d (K := K) lM f
  rw [q_X12_opensOne_, e_X12_opensOne_0]
  simp only [↓vM lM, ↓mcI_of fi, if_true, e_X12_opensOne_25, e_X12_opensOne_42, up2_e]
theorem op_deep (d x p : Nat) (lM : LayM G2 219) (f : J 219 6 = -1) (h8 : J 219 8 = 6) (h5 : J 219 5 = Int32.ofNat p) (hp : p < 2147483648) : ∃ J', mcal mT (d + 2) 281 [.ref 219, .int (Int32.ofNat x)] (G2, J, K) = some (.inl none, (G2, J', K)) ∧ ClJ J J' ∧ J' 219 6 = Int32.ofNat p ∧ J' 219 7 = 3 := by
  have fi := r_fine d (K := K) lM f
  have w := r_wrong d (K := K) 3 (Int32.ofNat p) lM f
  have nf : ¬ va_up J 219 (va_up (va_up (J 219) 6 (Int32.ofNat p)) 7 3) 219 6 = -1 := by rw [up_eq, up_ne (by decide), up_eq]; exact nm1 hp
  have fn := r_fineN d (G := G2) (K := K) lM nf
  have c1 : ClJ J (va_up J 219 (va_up (va_up (J 219) 6 (Int32.ofNat p)) 7 3)) := by
    have := ClJ_u (k := 7) (v := 3) (ClJ_u (k := 6) (v := Int32.ofNat p) (ClJ_i (J := J)) (by omega)) (by omega)
    rwa [up_eq, up_up] at this
  refine ⟨_, ?_, ClJ_u (k := 8) (v := va_up J 219 (va_up (va_up (J 219) 6 (Int32.ofNat p)) 7 3) 219 8 + 1) c1 (by omega), by rw [up_eq, up_ne (by decide), up_eq, up_ne (by decide), up_eq], by rw [up_eq, up_ne (by decide), up_eq, up_eq]⟩
  rw [q_X12_opensOne_, e_X12_opensOne_0]
  simp only [↓vM lM, ↓mcI_of fi, if_neg (show ¬ (1 : Int32) = 0 by decide), if_pos h8, h5, ↓mcV_of w, e_X12_opensOne_25, ↓mcI_of fn, if_true, e_X12_opensOne_42, up2_e]
theorem op_ok (d x p t : Nat) (lM : LayM G2 219) (f : J 219 6 = -1) (h8 : J 219 8 = Int32.ofNat t) (ht : t < 6) (h5 : J 219 5 = Int32.ofNat p) : mcal mT (d + 2) 281 [.ref 219, .int (Int32.ofNat x)] (G2, J, K) = some (.inl none, (G2, va_up J 219 (va_up (va_up (J 219) 5 (Int32.ofNat (p + x))) 8 (Int32.ofNat (t + 1))), K)) := by
  have fi := r_fine d (K := K) lM f
  have n6 : ¬ Int32.ofNat t = 6 := fun z => by have := (i_eq (b := 6) (by omega) (by decide)).mp z; omega
  have u8 : va_up J 219 (va_up (J 219) 5 (Int32.ofNat (p + x))) 219 8 = Int32.ofNat t := by rw [up_eq, up_ne (by decide)]; exact h8
  rw [q_X12_opensOne_, e_X12_opensOne_0]
  simp only [↓vM lM, ↓mcI_of fi, if_neg (show ¬ (1 : Int32) = 0 by decide), h8, if_neg n6, e_X12_opensOne_25, h5, i_add, up2_e, e_X12_opensOne_42, u8, i_one]
  rw [up_eq, up_up]
theorem on_all (d r u : Nat) (lX : LayX G 101) (lW : LayW G 2 b) (lM : LayM G2 219) (hu : u ≤ 6) (HO : 0 < u → ∀ I J a s, PrC B b e a (6 - u + 1) s I J → OutC B b e a (6 - u + 1) s I J G G2 L K (mcal mT (d + 6) 11 [.ref b, .ref 101, .int (Int32.ofNat (6 - u + 1))] (G, I, L)) (mcal mT (r + 6) 279 [.ref 219] (G2, J, K)) (fun J' a' s' => a < a' ∧ s < s' ∧ SgC (wK J') s s' (1 + 2 * u))) (HN : 0 < u → ∀ I J a s, PrC B b e a (6 - u + 1) s I J → OutC B b e a (6 - u + 1) s I J G G2 L K (mcal mT (d + 6) 13 [.ref b, .ref 101, .int (Int32.ofNat (6 - u + 1))] (G, I, L)) (mcal mT (r + 6) 282 [.ref 219] (G2, J, K)) (fun J' a' s' => a < a' ∧ s < s' ∧ SgC (wK J') s s' (2 * u))) (q : PrC B b e a (6 - u) s I J) : OutC B b e a (6 - u) s I J G G2 L K (mcal mT (d + 7) 13 [.ref b, .ref 101, .int (Int32.ofNat (6 - u))] (G, I, L)) (mcal mT (r + 7) 282 [.ref 219] (G2, J, K)) (fun J' a' s' => a < a' ∧ s < s' ∧ SgC (wK J') s s' (1 + 2 * u)) := by
  have z1 : ¬ (1 : Int32) = 0 := by decide
  have lC := lW.2.2
  obtain ⟨q1, q2, q3, q4, q5, q6, q7, q8, q9⟩ := id q
  have ae := q1.2.2.1
  have bb := skb_b (B := B) (e := e) (a := a) ae
  have pp := skb_i (B := B) (e := e) (a := a) ae
  have wb := wde_b (B := B) (e := e) (a := a) ae
  have fi := r_fine (r + 5) (K := K) lM q2.2.2.2.2.1
  obtain ⟨J1, e1, e2, e3, e4⟩ := rk_here (r + 5) (K := K) lM q2
  obtain ⟨J2, g1, g2, g3, g4⟩ := rk_word (r + 4) (K := K) lM e3
  have wdp : wde B e (skb B e a) = wde B e a := by unfold wde; rw [pp]
  rw [pp, wdp] at g1
  rw [pp] at g3
  have hb := hre_b q2
  have o2 := RdO_t e2 g2
  have j5 : J2 219 5 = Int32.ofNat (skb B e a) := g3.2.1
  have j8 : J2 219 8 = Int32.ofNat (6 - u) := by rw [g4 8 (by decide), e4 8 (by decide)]; exact q3
  have j6 : J2 219 6 = -1 := g3.2.2.2.2.1
  obtain ⟨I1, c1, c2, c3, c4, c5⟩ := tk_sign (d + 3) (L := L) (x := 91) lX q1 (by decide)
  rw [q_X1_readOne_, e_X1_readOne_0, q_X12_one_, e_X12_one_0]
  -- a step inwards of both
  have inw : ∀ (x : Nat) (Ix : Nat → Nat → Int32), TxO I Ix → TxR B e (skb B e a + x) Ix → Ix 101 7 = I 101 7 → skb B e a + x ≤ e → 0 < u → ∃ J3, mcal mT (r + 6) 281 [.ref 219, .int (Int32.ofNat x)] (G2, J2, K) = some (.inl none, (G2, J3, K)) ∧ PrC B b e (skb B e a + x) (6 - u + 1) s Ix J3 ∧ ClJ J J3 ∧ SaC s J J3 := by
    intro x Ix ox tx x7 hx u0
    have op := op_ok (r + 4) x (skb B e a) (6 - u) (G2 := G2) (J := J2) (K := K) lM j6 j8 (by omega) j5
    refine ⟨_, op, ?_, ?_, ?_⟩
    · have o3 := RdO_u (k := 5) (v := Int32.ofNat (skb B e a + x)) o2 (by omega)
      have r3 := RdR_o q2 o3 (a' := skb B e a + x) (by rw [up_eq, up_eq]) hx (by rw [up_eq, up_ne (by decide)]; exact j6)
      have q' := PrC_x q ox o3 tx r3 (by omega) x7
      exact PrC_d q' (fun y hy => by rw [up_ne hy, up_ne hy]) (fun k hk => by rw [up_eq, up_eq, up_ne hk]) (by rw [up_eq, up_eq])
    · have := ClJ_u (k := 8) (v := Int32.ofNat (6 - u + 1)) (ClJ_u (k := 5) (v := Int32.ofNat (skb B e a + x)) (ClJ_x o2) (by omega)) (by omega)
      rwa [up_eq, up_up] at this
    · intro j hj
      rw [up_ne (by decide), up_ne (by decide)]
      exact SaC_x o2 j hj
  by_cases n1 : skb B e a < e ∧ B (skb B e a) = 91
  · -- a bracket
    have hv : hre B e a = 91 := (hre_x (by decide)).mpr n1
    rw [hv] at e1
    rw [if_pos n1] at c1 c3
    have c1' : mcal mT (d + 6) 91 [.ref 101, .int 91] (G, I, L) = some (.inl (some (.int 1)), (G, I1, L)) := c1
    have c5' := c5 n1
    by_cases u0 : u = 0
    · obtain ⟨I2, d1, d2, d3, d4⟩ := tk_fail (d + 5) (I := I1) (L := L) 3 (Int32.ofNat (skb B e a)) lX
      obtain ⟨J3, o1, o3, o4, o5⟩ := op_deep (r + 4) 1 (skb B e a) (G2 := G2) (J := J2) (K := K) lM j6 (by rw [j8, u0]; rfl) j5 (by omega)
      have o1' : mcal mT (r + 6) 281 [.ref 219, .int 1] (G2, J2, K) = some (.inl none, (G2, J3, K)) := o1
      have nf : ¬ J3 219 6 = -1 := by rw [o4]; exact nm1 (by omega)
      have t6 : ¬ Int32.ofNat (6 - u) < 6 := by rw [u0]; decide
      refine OutC_f (I' := I2) (J' := va_up J3 219 (va_up (J3 219) 8 (J3 219 8 - 1))) (k := 3) (p := skb B e a) ?_ ?_ d3 d4 (by rw [up_eq, up_ne (by decide)]; exact o4) (by rw [up_eq, up_ne (by decide)]; exact o5) (by omega) (BlC_y q8 (TxO_t c2 d2)) (ClJ_u (ClJ_t (ClJ_x o2) o3) (by omega))
      · simp only [↓vX lX, ↓mcI_of c1', if_neg z1, e_X1_readOne_21, e_X1_readOne_43, e_X1_readOne_61, if_neg t6, c5', ↓mcI_of d1, mb0]
      · simp only [↓vM lM, ↓mcI_of fi, if_neg z1, e_X12_one_8, ↓mcI_of e1, ↓mcL_of g1, if_pos (show Int32.ofNat 91 = 91 from rfl), ↓mcV_of o1', ↓mcV_of (an_N (r + 2) (K := K) lM nf), ↓mcV_of (rk_needN (r + 4) (K := K) 93 lM nf), up2_e]
    · have t6 : Int32.ofNat (6 - u) < 6 := (i_lt (b := 6) (by omega) (by decide)).mpr (by omega)
      obtain ⟨J3, o1, o3, o4, o5⟩ := inw 1 I1 c2 c3 (c4 7 (by decide)) (by omega) (by omega)
      have o1' : mcal mT (r + 6) 281 [.ref 219, .int 1] (G2, J2, K) = some (.inl none, (G2, J3, K)) := o1
      have er : ∀ J4, mcal mT (r + 6) 279 [.ref 219] (G2, J3, K) = some (.inl none, (G2, J4, K)) → ∀ J5, mcal mT (r + 6) 188 [.ref 219, .int 93] (G2, J4, K) = some (.inl none, (G2, J5, K)) → (gk G2 219 13 (mcI (mcal mT (r + 6) 179 [.ref 219] (G2, J, K)) (fun v2 h1 => (if v2 = 0 then some (.inl none, h1) else f_X12_one (r + 6) 8 [.ref 219, mU, mU, mU, mU, mU, mU, mU, mU] [] h1)) mthr)) = some (.inl none, (G2, va_up J5 219 (va_up (J5 219) 8 (J5 219 8 - 1)), K)) := by
        intro J4 h4 J5 h5
        simp only [↓vM lM, ↓mcI_of fi, if_neg z1, e_X12_one_8, ↓mcI_of e1, ↓mcL_of g1, if_pos (show Int32.ofNat 91 = 91 from rfl), ↓mcV_of o1', ↓mcV_of h4, ↓mcV_of h5, up2_e]
      have ec : gk G 101 11 (mcI (mcal mT (d + 6) 91 [.ref 101, .int 91] (G, I, L)) (fun v2 h1 => (if v2 = 0 then f_X1_readOne (d + 6) 15 [.ref b, .ref 101, .int (Int32.ofNat (6 - u)), .int v2, mU] [] h1 else f_X1_readOne (d + 6) 21 [.ref b, .ref 101, .int (Int32.ofNat (6 - u)), .int v2, mU] [.int (-1)] h1)) mthr) = f_X1_readOne (d + 6) 77 [.ref b, .ref 101, .int (Int32.ofNat (6 - u)), .int 1, mU] [] (G, I1, L) := by
        simp only [↓vX lX, ↓mcI_of c1', if_neg z1, e_X1_readOne_21, e_X1_readOne_43, e_X1_readOne_61, if_pos t6]
      have ps : pos (wK J) s = pos (wK J3) s := pos_c s (wK_s o5)
      rcases HO (by omega) I1 J3 _ s o3 with ⟨I4, J4, a4, s4, x1, x2, x3, x4, x5, x6, x7, x8, x9, x9', x10, x11, x12⟩ | ⟨I4, J4, k4, p4, x1, x2, x3, x4, x5, x6, x7, x8, x9⟩
      · have bb4 := skb_b (B := B) (e := e) (a := a4) x3.1.2.2.1
        have h1 := tk_must (d + 2) (L := L) (x := 93) lX x3.1 (by decide)
        have h2 := rk_need (r + 4) (K := K) (x := 93) lM x3.2.1 (by decide) (by decide)
        rcases h1 with ⟨n2, I5, y1, y2, y3, y4⟩ | ⟨n2, I5, y1, y2, y3, y4⟩
        · rcases h2 with ⟨m2, J5, w1, w2, w3, w4⟩ | ⟨m2, -⟩
          · have j58 : J5 219 8 = Int32.ofNat (6 - u + 1) := by rw [w2.2 8 (by decide) (by decide) (by decide)]; exact x3.2.2.1
            have q5' := PrC_x x3 y2 w2 y3 w3 (by omega) (y4 7 (by decide))
            have q6' : PrC B b e (skb B e a4 + 1) (6 - u) s4 I5 (va_up J5 219 (va_up (J5 219) 8 (J5 219 8 - 1))) := PrC_d q5' (fun x hx => up_ne hx) (fun k hk => by rw [up_eq, up_ne hk]) (by rw [up_eq, up_eq, j58, i_pred])
            have s5 : SaC s4 J4 (va_up J5 219 (va_up (J5 219) 8 (J5 219 8 - 1))) := fun j hj => by rw [up_ne (by decide), up_ne (by decide)]; exact SaC_x w2 j hj
            have ps5 := pos_c s4 (wK_s s5)
            refine Or.inl ⟨I5, _, skb B e a4 + 1, s4, ?_, er J4 x2 J5 w1, q6', BlC_t (BlC_t (BlC_y q8 c2) x4) (BlC_y q8 y2), ClJ_t (ClJ_t o4 x5) (ClJ_u (ClJ_x w2) (by omega)), SaC_t (SaC_t o5 (Nat.le_refl _) x6) (by omega) s5, by omega, by omega, by rw [← ps5]; omega, by omega, by omega, by omega, SgC_c x12 (wK_s s5) (by omega) (Nat.le_refl _)⟩
            have y1' : mcal mT (d + 6) 92 [.ref 101, .int 93] (G, I4, L) = some (.inl (some (.int 1)), (G, I5, L)) := y1
            rw [ec, e_X1_readOne_77, if_neg z1, i_one]
            simp only [↓vW lW, ↓mcI_of x1, if_neg z1, ↓vX lX, ↓mcI_of y1', e_X1_readOne_106, mb1]
          · exact absurd n2 m2
        · rcases h2 with ⟨m2, -⟩ | ⟨m2, J5, w1, w2, w3, w4⟩
          · exact absurd m2 n2
          · refine OutC_f (I' := I5) (k := 1) (p := skb B e a4) ?_ (er J4 x2 J5 w1) y3 y4 (by rw [up_eq, up_ne (by decide)]; exact w3) (by rw [up_eq, up_ne (by decide)]; exact w4) (by omega) (BlC_t (BlC_t (BlC_y q8 c2) x4) (BlC_y q8 y2)) (ClJ_t (ClJ_t o4 x5) (ClJ_u (ClJ_x w2) (by omega)))
            have y1' : mcal mT (d + 6) 92 [.ref 101, .int 93] (G, I4, L) = some (.inl (some (.int 0)), (G, I5, L)) := y1
            rw [ec, e_X1_readOne_77, if_neg z1, i_one]
            simp only [↓vW lW, ↓mcI_of x1, if_neg z1, ↓vX lX, ↓mcI_of y1', if_true, e_X1_readOne_105, e_X1_readOne_106, mb0]
      · have nf : ¬ J4 219 6 = -1 := by rw [x5]; exact nm1 (by omega)
        refine OutC_f (I' := I4) (k := k4) (p := p4) ?_ (er J4 x2 J4 (rk_needN (r + 4) (K := K) 93 lM nf)) x3 x4 (by rw [up_eq, up_ne (by decide)]; exact x5) (by rw [up_eq, up_ne (by decide)]; exact x6) x7 (BlC_t (BlC_y q8 c2) x8) (ClJ_u (ClJ_t o4 x9) (by omega))
        rw [ec, e_X1_readOne_77, if_neg z1, i_one]
        simp only [↓vW lW, ↓mcI_of x1, if_true, e_X1_readOne_105, e_X1_readOne_106, mb0]
  · -- no bracket: a word
    rw [if_neg n1] at c1 c3
    have c1' : mcal mT (d + 6) 91 [.ref 101, .int 91] (G, I, L) = some (.inl (some (.int 0)), (G, I1, L)) := c1
    have hv : ¬ Int32.ofNat (hre B e a) = 91 := fun z => n1 ((hre_x (by decide)).mp ((i_eq (b := 91) (by omega) (by decide)).mp z))
    obtain ⟨I2, d1, d2, d3, d4, d5⟩ := tw_27 (d + 4) (L := L) lX c3
    rw [pp, wdp] at d1
    rw [wdp] at d3
    rw [pp] at d4
    have oI := TxO_t c2 d2
    have i27 : I2 101 7 = I 101 7 := by rw [d5 7 (by decide), c4 7 (by decide)]
    have cm := fun (w : List Nat) (hw : lets w) => wd_cmp (B := B) (e := e) (a := a) hw ae
    have ecw : ∀ v, mcal mT (d + 6) 95 [.ref 101, .ref 27] (G, I1, L) = some (.inl (some (.int v)), (G, I2, L)) → gk G 101 11 (mcI (mcal mT (d + 6) 91 [.ref 101, .int 91] (G, I, L)) (fun v2 h1 => (if v2 = 0 then f_X1_readOne (d + 6) 15 [.ref b, .ref 101, .int (Int32.ofNat (6 - u)), .int v2, mU] [] h1 else f_X1_readOne (d + 6) 21 [.ref b, .ref 101, .int (Int32.ofNat (6 - u)), .int v2, mU] [.int (-1)] h1)) mthr) = f_X1_readOne (d + 6) 21 [.ref b, .ref 101, .int (Int32.ofNat (6 - u)), .int 0, mU] [.int v] (G, I2, L) := by
      intro v hv2
      simp only [↓vX lX, ↓mcI_of c1', if_true, e_X1_readOne_15, ↓mcI_of hv2]
    have er0 : (gk G2 219 13 (mcI (mcal mT (r + 6) 179 [.ref 219] (G2, J, K)) (fun v2 h1 => (if v2 = 0 then some (.inl none, h1) else f_X12_one (r + 6) 8 [.ref 219, mU, mU, mU, mU, mU, mU, mU, mU] [] h1)) mthr)) = f_X12_one (r + 6) 50 [.ref 219, mU, .long (Int64.ofNat (whs B (skb B e a) (wde B e a))), mU, mU, mU, mU, mU, mU] [] (G2, J2, K) := by
      simp only [↓vM lM, ↓mcI_of fi, if_neg z1, e_X12_one_8, ↓mcI_of e1, ↓mcL_of g1, if_neg hv]
    rw [er0]
    -- only one word can stand there
    have uq : ∀ w w' : List Nat, isw w B (skb B e a) (wde B e a) → isw w' B (skb B e a) (wde B e a) → w.length = w'.length ∧ ∀ k, k < w.length → w.getD k 0 = w'.getD k 0 := fun w w' h h' => ⟨h.1.trans h'.1.symm, fun k hk => (h.2 k hk).trans (h'.2 k (by rw [h'.1, ← h.1]; exact hk)).symm⟩
    -- a saying
    have say : ∀ w, w ≤ 3 → skb B e a + 3 ≤ wde B e a → mcal mT (d + 6) 95 [.ref 101, .ref 27] (G, I1, L) = some (.inl (some (.int (Int32.ofNat w))), (G, I2, L)) → f_X12_one (r + 6) 50 [.ref 219, mU, .long (Int64.ofNat (whs B (skb B e a) (wde B e a))), mU, mU, mU, mU, mU, mU] [] (G2, J2, K) = f_X12_one (r + 6) 152 [.ref 219, mU, mU, mU, mU, mU, mU, mU, mU] [.int (Int32.ofNat w)] (G2, J2, K) → OutC B b e a (6 - u) s I J G G2 L K (gk G 101 11 (mcI (mcal mT (d + 6) 91 [.ref 101, .int 91] (G, I, L)) (fun v2 h1 => (if v2 = 0 then f_X1_readOne (d + 6) 15 [.ref b, .ref 101, .int (Int32.ofNat (6 - u)), .int v2, mU] [] h1 else f_X1_readOne (d + 6) 21 [.ref b, .ref 101, .int (Int32.ofNat (6 - u)), .int v2, mU] [.int (-1)] h1)) mthr)) (f_X12_one (r + 6) 50 [.ref 219, mU, .long (Int64.ofNat (whs B (skb B e a) (wde B e a))), mU, mU, mU, mU, mU, mU] [] (G2, J2, K)) (fun J' a' s' => a < a' ∧ s < s' ∧ SgC (wK J') s s' (1 + 2 * u)) := by
      intro w hw l3 hc hr
      have pa := rk_pass (r + 4) (K := K) lM _ _ J2 rfl g3
      have wq : skr (isL B) e (skb B e a) = wde B e a := rfl
      rw [wq] at pa
      have o3 := RdO_u (k := 5) (v := Int32.ofNat (wde B e a)) o2 (by omega)
      have r3 := RdR_o q2 o3 (a' := wde B e a) (by rw [up_eq, up_eq]) wb.2 (by rw [up_eq, up_ne (by decide)]; exact j6)
      have n4 : ¬ Int32.ofNat w = 4 := fun z => by have := (i_eq (b := 4) (by omega) (by decide)).mp z; omega
      have nm : ¬ Int32.ofNat w = -1 := nm1 (by omega)
      have ec2 : gk G 101 11 (mcI (mcal mT (d + 6) 91 [.ref 101, .int 91] (G, I, L)) (fun v2 h1 => (if v2 = 0 then f_X1_readOne (d + 6) 15 [.ref b, .ref 101, .int (Int32.ofNat (6 - u)), .int v2, mU] [] h1 else f_X1_readOne (d + 6) 21 [.ref b, .ref 101, .int (Int32.ofNat (6 - u)), .int v2, mU] [.int (-1)] h1)) mthr) = mcI (mcal mT (d + 6) 14 [.ref b, .ref 101, .int (Int32.ofNat w)] (G, I2, L)) (fun v8 h7 => mbool v8 (some (.inl (some (.int v8)), h7))) mthr := by
        rw [ecw _ hc, e_X1_readOne_21, if_pos rfl, if_neg nm, e_X1_readOne_43, if_pos rfl, if_neg n4]
        simp only [↓vW lW]
      rw [ec2, hr, e_X12_one_152, if_neg nm, e_X12_one_170]
      simp only [↓vM lM, ↓mcV_of pa]
      rcases sy_pair d (r + 1) (w := w) (a0 := a) (a1 := wde B e a) (L := L) (K := K) lX lW lM q hw (by omega) oI o3 d3 r3 (by rw [i27]; exact q9) with ⟨I4, J4, a4, s4, x1, x2, x3, x4, x5, x6, x7, x8, x9, x9', x10, x11, x12⟩ | ⟨I4, J4, k4, p4, x1, x2, x3, x4, x5, x6, x7, x8, x9⟩
      · refine Or.inl ⟨I4, J4, a4, s4, ?_, x2, x3, x4, x5, x6, x7, x8, x9, x9', x10, by omega, ?_⟩
        · rw [x1, mcI_v, mb1]
        · rw [x11]
          exact SgC_1 (by rw [x12]; exact hw) (by omega)
      · refine OutC_f ?_ x2 x3 x4 x5 x6 x7 x8 x9
        rw [x1, mcI_v, mb0]
    by_cases h0 : isw wd_under B (skb B e a) (wde B e a)
    · have l3 : (wd_under).length = wde B e a - skb B e a := h0.1
      have l4 : 3 ≤ (wd_under).length := by decide
      have n4 : ¬ isw wd_not B (skb B e a) (wde B e a) := fun z => by
        have := uq wd_under wd_not h0 z
        exact absurd this (by decide)
      rw [if_pos h0] at d1
      refine say 0 (by decide) (by omega) d1 ?_
      rw [e_X12_one_50]
      simp only [↓mcL_of (o_not (r + 5)), if_neg (fun z => n4 ((cm wd_not lt_not).mp z)), e_X12_one_91, ↓mcL_of (o_under (r + 5)), if_pos ((cm wd_under lt_under).mpr h0)]
      rfl
    by_cases h1 : isw wd_over B (skb B e a) (wde B e a)
    · have l3 : (wd_over).length = wde B e a - skb B e a := h1.1
      have l4 : 3 ≤ (wd_over).length := by decide
      have n4 : ¬ isw wd_not B (skb B e a) (wde B e a) := fun z => by
        have := uq wd_over wd_not h1 z
        exact absurd this (by decide)
      rw [if_neg h0, if_pos h1] at d1
      refine say 1 (by decide) (by omega) d1 ?_
      rw [e_X12_one_50]
      simp only [↓mcL_of (o_not (r + 5)), if_neg (fun z => n4 ((cm wd_not lt_not).mp z)), e_X12_one_91, ↓mcL_of (o_under (r + 5)), if_neg (fun z => h0 ((cm wd_under lt_under).mp z)), e_X12_one_106, ↓mcL_of (o_over (r + 5)), if_pos ((cm wd_over lt_over).mpr h1)]
      rfl
    by_cases h2 : isw wd_opened B (skb B e a) (wde B e a)
    · have l3 : (wd_opened).length = wde B e a - skb B e a := h2.1
      have l4 : 3 ≤ (wd_opened).length := by decide
      have n4 : ¬ isw wd_not B (skb B e a) (wde B e a) := fun z => by
        have := uq wd_opened wd_not h2 z
        exact absurd this (by decide)
      rw [if_neg h0, if_neg h1, if_pos h2] at d1
      refine say 2 (by decide) (by omega) d1 ?_
      rw [e_X12_one_50]
      simp only [↓mcL_of (o_not (r + 5)), if_neg (fun z => n4 ((cm wd_not lt_not).mp z)), e_X12_one_91, ↓mcL_of (o_under (r + 5)), if_neg (fun z => h0 ((cm wd_under lt_under).mp z)), e_X12_one_106, ↓mcL_of (o_over (r + 5)), if_neg (fun z => h1 ((cm wd_over lt_over).mp z)), e_X12_one_121, ↓mcL_of (o_opened (r + 5)), if_pos ((cm wd_opened lt_opened).mpr h2)]
      rfl
    by_cases h3 : isw wd_got B (skb B e a) (wde B e a)
    · have l3 : (wd_got).length = wde B e a - skb B e a := h3.1
      have l4 : 3 ≤ (wd_got).length := by decide
      have n4 : ¬ isw wd_not B (skb B e a) (wde B e a) := fun z => by
        have := uq wd_got wd_not h3 z
        exact absurd this (by decide)
      rw [if_neg h0, if_neg h1, if_neg h2, if_pos h3] at d1
      refine say 3 (by decide) (by omega) d1 ?_
      rw [e_X12_one_50]
      simp only [↓mcL_of (o_not (r + 5)), if_neg (fun z => n4 ((cm wd_not lt_not).mp z)), e_X12_one_91, ↓mcL_of (o_under (r + 5)), if_neg (fun z => h0 ((cm wd_under lt_under).mp z)), e_X12_one_106, ↓mcL_of (o_over (r + 5)), if_neg (fun z => h1 ((cm wd_over lt_over).mp z)), e_X12_one_121, ↓mcL_of (o_opened (r + 5)), if_neg (fun z => h2 ((cm wd_opened lt_opened).mp z)), e_X12_one_136, ↓mcL_of (o_got (r + 5)), if_pos ((cm wd_got lt_got).mpr h3)]
      rfl
    by_cases h4 : isw wd_not B (skb B e a) (wde B e a)
    · -- not
      have l3 : (wd_not).length = wde B e a - skb B e a := h4.1
      have l4 : (wd_not).length = 3 := by decide
      have w3 : wde B e a = skb B e a + 3 := by omega
      rw [if_neg h0, if_neg h1, if_neg h2, if_neg h3, if_pos h4] at d1
      have ec2 := ecw _ d1
      rw [ec2, e_X1_readOne_21, if_pos rfl, if_neg (show ¬ Int32.ofNat 4 = -1 by decide), e_X1_readOne_43, if_pos rfl, if_pos (show Int32.ofNat 4 = 4 from rfl), e_X1_readOne_61, e_X12_one_50]
      simp only [↓mcL_of (o_not (r + 5)), if_pos ((cm wd_not lt_not).mpr h4)]
      by_cases u0 : u = 0
      · obtain ⟨I3, f1, f2, f3, f4⟩ := tk_fail (d + 5) (I := I2) (L := L) 3 (Int32.ofNat (skb B e a)) lX
        obtain ⟨J3, o1, o3, o4, o5⟩ := op_deep (r + 4) 3 (skb B e a) (G2 := G2) (J := J2) (K := K) lM j6 (by rw [j8, u0]; rfl) j5 (by omega)
        have o1' : mcal mT (r + 6) 281 [.ref 219, .int 3] (G2, J2, K) = some (.inl none, (G2, J3, K)) := o1
        have nf : ¬ J3 219 6 = -1 := by rw [o4]; exact nm1 (by omega)
        have nf2 : ¬ va_up J3 219 (va_up (J3 219) 8 (J3 219 8 - 1)) 219 6 = -1 := by rw [up_eq, up_ne (by decide)]; exact nf
        have t6 : ¬ Int32.ofNat (6 - u) < 6 := by rw [u0]; decide
        refine OutC_f (I' := I3) (J' := va_up J3 219 (va_up (J3 219) 8 (J3 219 8 - 1))) (k := 3) (p := skb B e a) ?_ ?_ f3 f4 (by rw [up_eq, up_ne (by decide)]; exact o4) (by rw [up_eq, up_ne (by decide)]; exact o5) (by omega) (BlC_y q8 (TxO_t oI f2)) (ClJ_u (ClJ_t (ClJ_x o2) o3) (by omega))
        · rw [if_neg t6]
          simp only [↓vX lX, d4, ↓mcI_of f1, mb0]
        · simp only [↓vM lM, ↓mcV_of o1', ↓mcV_of (on_N (r + 4) (K := K) lM nf), up2_e, ↓mcV_of (r_emCN (r + 4) (K := K) 6 0 0 0 0 lM nf2)]
      · have t6 : Int32.ofNat (6 - u) < 6 := (i_lt (b := 6) (by omega) (by decide)).mpr (by omega)
        rw [w3] at d3
        obtain ⟨J3, o1, o3, o4, o5⟩ := inw 3 I2 oI d3 i27 (by omega) (by omega)
        have o1' : mcal mT (r + 6) 281 [.ref 219, .int 3] (G2, J2, K) = some (.inl none, (G2, J3, K)) := o1
        have ps : pos (wK J) s = pos (wK J3) s := pos_c s (wK_s o5)
        rw [if_pos t6, e_X1_readOne_77, if_pos rfl, e_X1_readOne_107, i_one]
        rcases HN (by omega) I2 J3 _ s o3 with ⟨I4, J4, a4, s4, x1, x2, x3, x4, x5, x6, x7, x8, x9, x9', x10, x11, x12⟩ | ⟨I4, J4, k4, p4, x1, x2, x3, x4, x5, x6, x7, x8, x9⟩
        · have q4' : PrC B b e a4 (6 - u) s4 I4 (va_up J4 219 (va_up (J4 219) 8 (J4 219 8 - 1))) := PrC_d x3 (fun x hx => up_ne hx) (fun k hk => by rw [up_eq, up_ne hk]) (by rw [up_eq, up_eq, x3.2.2.1, i_pred])
          have s5 : SaC s4 J4 (va_up J4 219 (va_up (J4 219) 8 (J4 219 8 - 1))) := fun j hj => by rw [up_ne (by decide), up_ne (by decide)]; exact ⟨rfl, rfl, rfl, rfl, rfl⟩
          have ps5 := pos_c s4 (wK_s s5)
          obtain ⟨I5, J5, y1, y2, y3, y4, y5, y6, y7, y8⟩ := ec_pair (d + 5) (r + 4) (w := 6) (cw := 4) (L := L) (K := K) lW lM q4' (by omega) (by omega) (by decide)
          have y2' : mcal mT (r + 6) 278 [.ref 219, .int 6, .int 0, .int 0, .int 0, .int 0] (G2, va_up J4 219 (va_up (J4 219) 8 (J4 219 8 - 1)), K) = some (.inl none, (G2, J5, K)) := y2
          have sc5 := SaC_t s5 (Nat.le_refl _) y6
          refine Or.inl ⟨I5, J5, a4, s4 + 1, ?_, ?_, y3, BlC_t (BlC_t (BlC_y q8 oI) x4) y4, ClJ_t (ClJ_u (ClJ_t o4 x5) (by omega)) y5, SaC_t (SaC_t o5 (Nat.le_refl _) x6) (by omega) sc5, by omega, by omega, by omega, by omega, by omega, by omega, ?_⟩
          · simp only [↓vW lW, ↓mcI_of x1, if_neg z1, e_X1_readOne_120, ↓vC lC, ↓mcV_of y1, mb1]
          · simp only [↓vM lM, ↓mcV_of o1', ↓mcV_of x2, up2_e, ↓mcV_of y2']
          · exact SgC_n (SgC_c x12 (wK_s sc5) (by omega) (Nat.le_refl _)) (by omega) y7 (by omega)
        · have nf : ¬ J4 219 6 = -1 := by rw [x5]; exact nm1 (by omega)
          have nf2 : ¬ va_up J4 219 (va_up (J4 219) 8 (J4 219 8 - 1)) 219 6 = -1 := by rw [up_eq, up_ne (by decide)]; exact nf
          refine OutC_f (I' := I4) (J' := va_up J4 219 (va_up (J4 219) 8 (J4 219 8 - 1))) (k := k4) (p := p4) ?_ ?_ x3 x4 (by rw [up_eq, up_ne (by decide)]; exact x5) (by rw [up_eq, up_ne (by decide)]; exact x6) x7 (BlC_t (BlC_y q8 oI) x8) (ClJ_u (ClJ_t o4 x9) (by omega))
          · simp only [↓vW lW, ↓mcI_of x1, if_true, mb0]
          · simp only [↓vM lM, ↓mcV_of o1', ↓mcV_of x2, up2_e, ↓mcV_of (r_emCN (r + 4) (K := K) 6 0 0 0 0 lM nf2)]
    · -- no such word
      rw [if_neg h0, if_neg h1, if_neg h2, if_neg h3, if_neg h4] at d1
      obtain ⟨I3, f1, f2, f3, f4⟩ := tk_fail (d + 5) (I := I2) (L := L) 1 (Int32.ofNat (skb B e a)) lX
      have w := r_wrong (r + 5) (K := K) 1 (Int32.ofNat (skb B e a)) lM j6
      have o3 := RdO_u (k := 6) (v := Int32.ofNat (skb B e a)) o2 (by omega)
      have o4 := RdO_u (k := 7) (v := 1) o3 (by omega)
      rw [up_eq, up_up] at o4
      refine OutC_f (I' := I3) (k := 1) (p := skb B e a) ?_ ?_ f3 f4 (J' := va_up J2 219 (va_up (va_up (J2 219) 6 (Int32.ofNat (skb B e a))) 7 1)) (by rw [up_eq, up_ne (by decide), up_eq]) (by rw [up_eq, up_eq]) (by omega) (BlC_y q8 (TxO_t oI f2)) (ClJ_x o4)
      · rw [ecw _ d1, e_X1_readOne_21, if_pos rfl, if_pos rfl]
        simp only [↓vX lX, d4, ↓mcI_of f1, mb0]
      · rw [e_X12_one_50]
        simp only [↓mcL_of (o_not (r + 5)), if_neg (fun z => h4 ((cm wd_not lt_not).mp z)), e_X12_one_91, ↓mcL_of (o_under (r + 5)), if_neg (fun z => h0 ((cm wd_under lt_under).mp z)), e_X12_one_106, ↓mcL_of (o_over (r + 5)), if_neg (fun z => h1 ((cm wd_over lt_over).mp z)), e_X12_one_121, ↓mcL_of (o_opened (r + 5)), if_neg (fun z => h2 ((cm wd_opened lt_opened).mp z)), e_X12_one_136, ↓mcL_of (o_got (r + 5)), if_neg (fun z => h3 ((cm wd_got lt_got).mp z)), e_X12_one_151, e_X12_one_152, if_true, ↓vM lM, j5, ↓mcV_of w]
/-- claims of every depth -/
theorem any_all (lX : LayX G 101) (lW : LayW G 2 b) (lM : LayM G2 219) : ∀ u, u ≤ 6 → (∀ d r I J a s, PrC B b e a (6 - u) s I J → OutC B b e a (6 - u) s I J G G2 L K (mcal mT (d + 3 * u + 9) 11 [.ref b, .ref 101, .int (Int32.ofNat (6 - u))] (G, I, L)) (mcal mT (r + 3 * u + 9) 279 [.ref 219] (G2, J, K)) (fun J' a' s' => a < a' ∧ s < s' ∧ SgC (wK J') s s' (3 + 2 * u))) ∧ (∀ d r I J a s, PrC B b e a (6 - u) s I J → OutC B b e a (6 - u) s I J G G2 L K (mcal mT (d + 3 * u + 7) 13 [.ref b, .ref 101, .int (Int32.ofNat (6 - u))] (G, I, L)) (mcal mT (r + 3 * u + 7) 282 [.ref 219] (G2, J, K)) (fun J' a' s' => a < a' ∧ s < s' ∧ SgC (wK J') s s' (1 + 2 * u))) := by
  intro u
  induction u with
  | zero =>
    intro _
    have one : ∀ d r I J a s, PrC B b e a (6 - 0) s I J → OutC B b e a (6 - 0) s I J G G2 L K (mcal mT (d + 7) 13 [.ref b, .ref 101, .int (Int32.ofNat (6 - 0))] (G, I, L)) (mcal mT (r + 7) 282 [.ref 219] (G2, J, K)) (fun J' a' s' => a < a' ∧ s < s' ∧ SgC (wK J') s s' 1) := fun d r I J a s q => on_all d r 0 lX lW lM (by decide) (fun h => absurd h (Nat.lt_irrefl _)) (fun h => absurd h (Nat.lt_irrefl _)) q
    refine ⟨fun d r I J a s q => ?_, one⟩
    exact an_all (d + 3) (r + 3) lX lW lM (fun I J a s q => al_all (d + 2) (r + 2) lX lW lM (fun I J a s q => one d r I J a s q) q) q
  | succ u ih =>
    intro hu
    obtain ⟨iA, iO⟩ := ih (by omega)
    have e1 : 6 - (u + 1) + 1 = 6 - u := by omega
    have one : ∀ d r I J a s, PrC B b e a (6 - (u + 1)) s I J → OutC B b e a (6 - (u + 1)) s I J G G2 L K (mcal mT (d + 3 * u + 3 + 7) 13 [.ref b, .ref 101, .int (Int32.ofNat (6 - (u + 1)))] (G, I, L)) (mcal mT (r + 3 * u + 3 + 7) 282 [.ref 219] (G2, J, K)) (fun J' a' s' => a < a' ∧ s < s' ∧ SgC (wK J') s s' (1 + 2 * (u + 1))) := by
      intro d r I J a s q
      refine on_all (d + 3 * u + 3) (r + 3 * u + 3) (u + 1) lX lW lM hu (fun _ I J a s q => ?_) (fun _ I J a s q => ?_) q
      · rw [e1] at q ⊢
        rw [show 1 + 2 * (u + 1) = 3 + 2 * u by omega]
        exact iA d r I J a s q
      · rw [e1] at q ⊢
        have h := iO (d + 2) (r + 2) I J a s q
        rw [show d + 2 + 3 * u + 7 = d + 3 * u + 3 + 6 by omega, show r + 2 + 3 * u + 7 = r + 3 * u + 3 + 6 by omega] at h
        rcases h with ⟨I4, J4, a4, s4, x1, x2, x3, x4, x5, x6, x7, x8, x9, x9', x10, x11, x12⟩ | h
        · exact Or.inl ⟨I4, J4, a4, s4, x1, x2, x3, x4, x5, x6, x7, x8, x9, x9', x10, x11, SgC_c x12 (fun _ _ => rfl) (by omega) (by omega)⟩
        · exact Or.inr h
    refine ⟨fun d r I J a s q => ?_, fun d r I J a s q => ?_⟩
    · have h := an_all (d + 3 * u + 6) (r + 3 * u + 6) (L := L) (K := K) (Du := 1 + 2 * (u + 1) + 1) lX lW lM (fun I J a s q => al_all (d + 3 * u + 5) (r + 3 * u + 5) lX lW lM (fun I J a s q => one d r I J a s q) q) q
      rw [show d + 3 * (u + 1) + 9 = d + 3 * u + 6 + 6 by omega, show r + 3 * (u + 1) + 9 = r + 3 * u + 6 + 6 by omega, show 3 + 2 * (u + 1) = 1 + 2 * (u + 1) + 1 + 1 by omega]
      exact h
    · rw [show d + 3 * (u + 1) + 7 = d + 3 * u + 3 + 7 by omega, show r + 3 * (u + 1) + 7 = r + 3 * u + 3 + 7 by omega]
      exact one d r I J a s q
end
