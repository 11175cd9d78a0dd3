/-! the words of bills: products and sums -/
section
variable {G G2 : mG} {L K : Nat → Nat → Int64} {B : Nat → Nat} {b e t s0 Du : Nat}
theorem OutB_f {I J I' J' : Nat → Nat → Int32} {a s : Nat} {k : Int32} {p : Nat} {X Y : Option mO} {Q : (Nat → Nat → Int32) → Nat → Nat → Prop} (hX : X = some (.inl (some (.int 0)), (G, I', L))) (hY : Y = some (.inl none, (G2, J', K))) (h1 : I' 101 6 = k) (h2 : I' 101 7 = Int32.ofNat p) (h3 : J' 219 6 = Int32.ofNat p) (h4 : J' 219 7 = k) (hp : p ≤ 500) (c : BlC b I I') (j : BlJ J J') : OutB B b e a t s I J G G2 L K X Y Q := Or.inr ⟨I', J', k, p, hX, hY, h1, h2, h3, h4, hp, c, j⟩
theorem pr_lp (d r : Nat) (lX : LayX G 101) (lW : LayW G 1 b) (lM : LayM G2 219) (HU : ∀ I J a s, PrS B b e a t s I J → OutB B b e a t s I J G G2 L K (mcal mT (d + 5) 4 [.ref b, .ref 101, .int (Int32.ofNat t)] (G, I, L)) (mcal mT (r + 5) 261 [.ref 219] (G2, J, K)) (fun J' a' s' => a < a' ∧ s < s' ∧ Sgm (wJ J') s s' Du)) : ∀ k i a s I J, e - a ≤ k → PrS B b e a t s I J → i < a → s0 ≤ s → Sgm (wJ J) s0 s (Du + 1) → OutB B b e a t s I J G G2 L K (f_X0_readProduct (d + 5) 13 [.ref b, .ref 101, .int (Int32.ofNat t), .int (Int32.ofNat i), mU] [] (G, I, L)) (f_X12_product (r + 5) 4 [.ref 219, mU] [] (G2, J, K)) (fun J' a' s' => Sgm (wJ J') s0 s' (Du + 1)) := by
  intro k
  have z1 : ¬ (1 : Int32) = 0 := by decide
  induction k with
  | zero =>
    intro i a s I J hk q hi hs sg
    obtain ⟨q1, q2, q3, q4, q5, q6, q7, q8⟩ := id q
    have ae : a = e := by have := q1.2.2.1; omega
    have pe : skb B e a = a := sk_e (by omega)
    have n : ∀ x, ¬ (skb B e a < e ∧ B (skb B e a) = x) := fun x p => by omega
    obtain ⟨I1, c1, c2, c3, c4, -⟩ := tk_sign (d + 2) (L := L) (x := 42) lX q1 (by decide)
    rw [if_neg (n 42)] at c1 c3
    rw [pe] at c3
    obtain ⟨I2, d1, d2, d3, d4, -⟩ := tk_sign (d + 2) (L := L) (x := 47) lX c3 (by decide)
    rw [if_neg (n 47)] at d1 d3
    rw [pe] at d3
    have fi := r_fine (r + 4) (K := K) lM q2.2.2.2.2.1
    obtain ⟨J1, e1, e2, e3, e4⟩ := rk_here (r + 4) (K := K) lM q2
    rw [pe] at e3
    obtain ⟨J2, f1, f2, f3, f4⟩ := rk_here (r + 4) (K := K) lM e3
    rw [pe] at f3
    have h0 : hre B e a = 0 := by unfold hre; rw [if_neg (by omega)]
    rw [h0] at e1 f1
    have o1 := TxO_t c2 d2
    have o2 := RdO_t e2 f2
    have n200 : ¬ (200 : Int32) ≤ Int32.ofNat i := fun z => by have := (i_le (a := 200) (by decide) (by omega)).mp z; omega
    have c1' : mcal mT (d + 5) 91 [.ref 101, .int 42] (G, I, L) = some (.inl (some (.int 0)), (G, I1, L)) := c1
    have d1' : mcal mT (d + 5) 91 [.ref 101, .int 47] (G, I1, L) = some (.inl (some (.int 0)), (G, I2, L)) := d1
    refine Or.inl ⟨I2, J2, a, s, ?_, ?_, PrS_x q o1 o2 d3 f3 (Nat.le_refl _) (by rw [d4 7 (by decide), c4 7 (by decide)]), BlC_x q7 o1, BlJ_x o2, SaR_x o2, Nat.le_refl _, Nat.le_refl _, Nat.le_refl _, Sgm_c sg (wJ_s (SaR_x o2)) hs (Nat.le_refl _)⟩
    · rw [e_X0_readProduct_13, if_neg n200]
      simp only [↓vX lX, ↓mcI_of c1', if_true, e_X0_readProduct_34, ↓mcI_of d1', e_X0_readProduct_48, e_X0_readProduct_49, mb1]
    · rw [e_X12_product_4]
      simp only [↓vM lM, ↓mcI_of fi, if_neg z1, ↓mcI_of e1, if_neg (show ¬ Int32.ofNat 0 = 42 by decide), ↓mcI_of f1, if_neg (show ¬ Int32.ofNat 0 = 47 by decide), e_X12_product_69]
  | succ k ih =>
    intro i a s I J hk q hi hs sg
    obtain ⟨q1, q2, q3, q4, q5, q6, q7, q8⟩ := id q
    have ae := q1.2.2.1
    have bb := skb_b (B := B) (e := e) (a := a) ae
    have pp := skb_i (B := B) (e := e) (a := a) ae
    have n200 : ¬ (200 : Int32) ≤ Int32.ofNat i := fun z => by have := (i_le (a := 200) (by decide) (by omega)).mp z; omega
    have fi := r_fine (r + 4) (K := K) lM q2.2.2.2.2.1
    obtain ⟨J1, e1, e2, e3, e4⟩ := rk_here (r + 4) (K := K) lM q2
    have hb := hre_b q2
    -- what follows a sign
    have step : ∀ (w : Nat) (cw : Int32) (I1 J1 : Nat → Nat → Int32), (w = 8 ∨ w = 9) → cw = -Int32.ofNat w → skb B e a < e → PrS B b e (skb B e a + 1) t s I1 J1 → BlC b I I1 → BlJ J J1 → SaR s J J1 → f_X0_readProduct (d + 5) 13 [.ref b, .ref 101, .int (Int32.ofNat t), .int (Int32.ofNat i), mU] [] (G, I, L) = f_X0_readProduct (d + 5) 58 [.ref b, .ref 101, .int (Int32.ofNat t), .int (Int32.ofNat i), .int cw] [] (G, I1, L) → (∀ J2, mcal mT (r + 5) 261 [.ref 219] (G2, J1, K) = some (.inl none, (G2, J2, K)) → f_X12_product (r + 5) 4 [.ref 219, mU] [] (G2, J, K) = f_X12_product (r + 5) 62 [.ref 219, mU] [.int (Int32.ofNat w), .ref 219] (G2, J2, K)) → OutB B b e a t s I J G G2 L K (f_X0_readProduct (d + 5) 13 [.ref b, .ref 101, .int (Int32.ofNat t), .int (Int32.ofNat i), mU] [] (G, I, L)) (f_X12_product (r + 5) 4 [.ref 219, mU] [] (G2, J, K)) (fun J' a' s' => Sgm (wJ J') s0 s' (Du + 1)) := by
      intro w cw I1 J1 hw hcw pe q' bc bj sr ec er
      rcases HU I1 J1 _ s q' with ⟨I2, J2, a2, s2, x1, x2, x3, x4, x5, x6, x7, x8, x9, x10, x11, x12⟩ | ⟨I2, J2, k2, p2, x1, x2, x3, x4, x5, x6, x7, x8, x9⟩
      · obtain ⟨I3, J3, y1, y2, y3, y4, y5, y6, y7⟩ := em_pair (d + 4) (r + 3) (w := w) (N := 0) (L := L) (K := K) lW lM x3 (by omega) (by omega) (by unfold irng; decide)
        rw [if_neg (by omega), ← hcw] at y1
        have ag : ∀ j, j < s2 → wJ J2 j = wJ J3 j := wJ_s y6
        have ag0 : ∀ j, j < s → wJ J j = wJ J3 j := fun j hj => (wJ_s (SaR_t sr (Nat.le_refl _) x6) j hj).trans (ag j (by omega))
        have sg3 : Sgm (wJ J3) s0 (s2 + 1) (Du + 1) := Sgm_j (Sgm_c sg ag0 hs (Nat.le_refl _)) (Sgm_c x12 ag (by omega) (Nat.le_refl _)) hs (by omega) (by rw [y7]; omega)
        have bc3 := BlC_t (BlC_t bc x4) y4
        have bj3 := BlJ_t (BlJ_t bj x5) y5
        have sr3 : SaR s J J3 := SaR_t (SaR_t sr (Nat.le_refl _) x6) x8 y6
        have ec2 : f_X0_readProduct (d + 5) 13 [.ref b, .ref 101, .int (Int32.ofNat t), .int (Int32.ofNat i), mU] [] (G, I, L) = f_X0_readProduct (d + 5) 13 [.ref b, .ref 101, .int (Int32.ofNat t), .int (Int32.ofNat (i + 1)), mU] [] (G, I3, L) := by
          rw [ec, e_X0_readProduct_58]
          have lC := lW.2.2
          simp only [↓vW lW, ↓mcI_of x1, if_neg z1, e_X0_readProduct_69, ↓vC lC, ↓mcV_of y1, i_one]
        have er2 : f_X12_product (r + 5) 4 [.ref 219, mU] [] (G2, J, K) = f_X12_product (r + 5) 4 [.ref 219, mU] [] (G2, J3, K) := by
          rw [er J2 x2, e_X12_product_62]
          simp only [↓vM lM, ↓mcV_of y2]
        rw [ec2, er2]
        rcases ih (i + 1) a2 (s2 + 1) I3 J3 (by omega) y3 (by omega) (by omega) sg3 with ⟨I4, J4, a4, s4, w1, w2, w3, w4, w5, w6, w7, w8, w9, w10⟩ | ⟨I4, J4, k4, p4, w1, w2, w3, w4, w5, w6, w7, w8, w9⟩
        · exact Or.inl ⟨I4, J4, a4, s4, w1, w2, w3, BlC_t bc3 w4, BlJ_t bj3 w5, SaR_t sr3 (by omega) w6, by omega, by omega, by omega, w10⟩
        · exact OutB_f w1 w2 w3 w4 w5 w6 w7 (BlC_t bc3 w8) (BlJ_t bj3 w9)
      · have nf : ¬ J2 219 6 = -1 := by rw [x5]; exact nm1 (by omega)
        refine OutB_f (I' := I2) (J' := J2) (k := k2) (p := p2) ?_ ?_ x3 x4 x5 x6 x7 (BlC_t bc x8) (BlJ_t bj x9)
        · rw [ec, e_X0_readProduct_58]
          simp only [↓vW lW, ↓mcI_of x1, if_true, mb0]
        · rw [er J2 x2, e_X12_product_62]
          simp only [↓vM lM, ↓mcV_of (r_emitN (r + 3) (K := K) (Int32.ofNat w) 0 lM nf)]
          exact pr_N4 (r + 4) lM nf
    by_cases n1 : skb B e a < e ∧ B (skb B e a) = 42
    · obtain ⟨I1, c1, c2, c3, c4, -⟩ := tk_sign (d + 2) (L := L) (x := 42) lX q1 (by decide)
      rw [if_pos n1] at c1 c3
      have c1' : mcal mT (d + 5) 91 [.ref 101, .int 42] (G, I, L) = some (.inl (some (.int 1)), (G, I1, L)) := c1
      have hv : hre B e a = 42 := (hre_x (by decide)).mpr n1
      obtain ⟨J2, f1, f2, f3, f4⟩ := rk_here (r + 4) (K := K) lM e3
      rw [pp] at f3
      have hv2 : hre B e (skb B e a) = 42 := (hre_x (by decide)).mpr (by rw [pp]; exact n1)
      rw [hv] at e1
      rw [hv2] at f1
      have o3 := RdO_u (k := 5) (v := Int32.ofNat (skb B e a + 1)) (RdO_t e2 f2) (by omega)
      have r3 := RdR_o q2 o3 (a' := skb B e a + 1) (by rw [up_eq, up_eq]) (by omega) (by rw [up_eq, up_ne (by decide)]; exact f3.2.2.2.2.1)
      have f5 : J2 219 5 = Int32.ofNat (skb B e a) := f3.2.1
      refine step 8 (-8) I1 _ (Or.inl rfl) (by decide) n1.1 (PrS_x q c2 o3 c3 r3 (by omega) (c4 7 (by decide))) (BlC_x q7 c2) (BlJ_x o3) (SaR_x o3) ?_ (fun J3 hJ3 => ?_)
      · rw [e_X0_readProduct_13, if_neg n200]
        simp only [↓vX lX, ↓mcI_of c1', if_neg z1, e_X0_readProduct_49, if_neg (show ¬ (-8 : Int32) = 0 by decide)]
      · rw [e_X12_product_4]
        simp only [↓vM lM, ↓mcI_of fi, if_neg z1, ↓mcI_of e1, if_pos (show Int32.ofNat 42 = 42 from rfl), e_X12_product_29, ↓mcI_of f1, f5, up2_e, i_one, ↓mcV_of hJ3]
        rfl
    · obtain ⟨I1, c1, c2, c3, c4, -⟩ := tk_sign (d + 2) (L := L) (x := 42) lX q1 (by decide)
      rw [if_neg n1] at c1 c3
      have c1' : mcal mT (d + 5) 91 [.ref 101, .int 42] (G, I, L) = some (.inl (some (.int 0)), (G, I1, L)) := c1
      have hv : ¬ Int32.ofNat (hre B e a) = 42 := fun z => n1 ((hre_x (by decide)).mp ((i_eq (b := 42) (by omega) (by decide)).mp z))
      obtain ⟨J2, f1, f2, f3, f4⟩ := rk_here (r + 4) (K := K) lM e3
      have hb2 := hre_b e3
      by_cases n2 : skb B e a < e ∧ B (skb B e a) = 47
      · obtain ⟨I2, d1, d2, d3, d4, -⟩ := tk_sign (d + 2) (L := L) (x := 47) lX c3 (by decide)
        rw [pp, if_pos n2] at d1 d3
        have d1' : mcal mT (d + 5) 91 [.ref 101, .int 47] (G, I1, L) = some (.inl (some (.int 1)), (G, I2, L)) := d1
        rw [pp] at f3
        have hv2 : hre B e (skb B e a) = 47 := (hre_x (by decide)).mpr (by rw [pp]; exact n2)
        rw [hv2] at f1
        obtain ⟨J3, g1, g2, g3, g4⟩ := rk_here (r + 4) (K := K) lM f3
        rw [hv2] at g1
        rw [pp] at g3
        have o3 := RdO_u (k := 5) (v := Int32.ofNat (skb B e a + 1)) (RdO_t (RdO_t e2 f2) g2) (by omega)
        have r3 := RdR_o q2 o3 (a' := skb B e a + 1) (by rw [up_eq, up_eq]) (by omega) (by rw [up_eq, up_ne (by decide)]; exact g3.2.2.2.2.1)
        have g5 : J3 219 5 = Int32.ofNat (skb B e a) := g3.2.1
        refine step 9 (-9) I2 _ (Or.inr rfl) (by decide) n2.1 (PrS_x q (TxO_t c2 d2) o3 d3 r3 (by omega) (by rw [d4 7 (by decide), c4 7 (by decide)])) (BlC_x q7 (TxO_t c2 d2)) (BlJ_x o3) (SaR_x o3) ?_ (fun J4 hJ4 => ?_)
        · rw [e_X0_readProduct_13, if_neg n200]
          simp only [↓vX lX, ↓mcI_of c1', if_true, e_X0_readProduct_34, ↓mcI_of d1', if_neg z1, e_X0_readProduct_49, if_neg (show ¬ (-9 : Int32) = 0 by decide)]
        · rw [e_X12_product_4]
          simp only [↓vM lM, ↓mcI_of fi, if_neg z1, ↓mcI_of e1, if_neg hv, ↓mcI_of f1, if_pos (show Int32.ofNat 47 = 47 from rfl), e_X12_product_29, ↓mcI_of g1, g5, up2_e, i_one, ↓mcV_of hJ4, if_neg (show ¬ Int32.ofNat 47 = 42 by decide), e_X12_product_60]
          rfl
      · obtain ⟨I2, d1, d2, d3, d4, -⟩ := tk_sign (d + 2) (L := L) (x := 47) lX c3 (by decide)
        rw [pp, if_neg n2] at d1 d3
        have d1' : mcal mT (d + 5) 91 [.ref 101, .int 47] (G, I1, L) = some (.inl (some (.int 0)), (G, I2, L)) := d1
        rw [pp] at f3
        have hv2 : ¬ Int32.ofNat (hre B e (skb B e a)) = 47 := fun z => n2 (by have := (hre_x (B := B) (e := e) (a := skb B e a) (x := 47) (by decide)).mp ((i_eq (b := 47) (by omega) (by decide)).mp z); rw [pp] at this; exact this)
        have o1 := TxO_t c2 d2
        have o2 := RdO_t e2 f2
        refine Or.inl ⟨I2, J2, skb B e a, s, ?_, ?_, PrS_x q o1 o2 d3 f3 bb.1 (by rw [d4 7 (by decide), c4 7 (by decide)]), BlC_x q7 o1, BlJ_x o2, SaR_x o2, bb.1, Nat.le_refl _, by omega, Sgm_c sg (wJ_s (SaR_x o2)) hs (Nat.le_refl _)⟩
        · rw [e_X0_readProduct_13, if_neg n200]
          simp only [↓vX lX, ↓mcI_of c1', if_true, e_X0_readProduct_34, ↓mcI_of d1', e_X0_readProduct_48, e_X0_readProduct_49, mb1]
        · rw [e_X12_product_4]
          simp only [↓vM lM, ↓mcI_of fi, if_neg z1, ↓mcI_of e1, if_neg hv, ↓mcI_of f1, if_neg hv2, e_X12_product_69]
theorem pr_all (d r : Nat) {I J : Nat → Nat → Int32} {a s : Nat} (lX : LayX G 101) (lW : LayW G 1 b) (lM : LayM G2 219) (HU : ∀ I J a s, PrS B b e a t s I J → OutB B b e a t s I J G G2 L K (mcal mT (d + 5) 4 [.ref b, .ref 101, .int (Int32.ofNat t)] (G, I, L)) (mcal mT (r + 5) 261 [.ref 219] (G2, J, K)) (fun J' a' s' => a < a' ∧ s < s' ∧ Sgm (wJ J') s s' Du)) (q : PrS B b e a t s I J) : OutB B b e a t s I J G G2 L K (mcal mT (d + 6) 3 [.ref b, .ref 101, .int (Int32.ofNat t)] (G, I, L)) (mcal mT (r + 6) 262 [.ref 219] (G2, J, K)) (fun J' a' s' => a < a' ∧ s < s' ∧ Sgm (wJ J') s s' (Du + 1)) := by
  have z1 : ¬ (1 : Int32) = 0 := by decide
  rw [q_X0_readProduct_, e_X0_readProduct_0, q_X12_product_, e_X12_product_0]
  rcases HU I J a s q with ⟨I2, J2, a2, s2, x1, x2, x3, x4, x5, x6, x7, x8, x9, x10, x11, x12⟩ | ⟨I2, J2, k2, p2, x1, x2, x3, x4, x5, x6, x7, x8, x9⟩
  · simp only [↓vW lW, ↓mcI_of x1, if_neg z1, e_X0_readProduct_11, ↓vM lM, ↓mcV_of x2]
    rcases pr_lp (s0 := s) d r lX lW lM HU (e - a2) 0 a2 s2 I2 J2 (Nat.le_refl _) x3 (by omega) (by omega) (Sgm_c x12 (fun _ _ => rfl) (by omega) (Nat.le_succ _)) with ⟨I4, J4, a4, s4, w1, w2, w3, w4, w5, w6, w7, w8, w9, w10⟩ | ⟨I4, J4, k4, p4, w1, w2, w3, w4, w5, w6, w7, w8, w9⟩
    · exact Or.inl ⟨I4, J4, a4, s4, w1, w2, w3, BlC_t x4 w4, BlJ_t x5 w5, SaR_t x6 (by omega) w6, by omega, by omega, by omega, by omega, by omega, w10⟩
    · exact OutB_f w1 w2 w3 w4 w5 w6 w7 (BlC_t x4 w8) (BlJ_t x5 w9)
  · have nf : ¬ J2 219 6 = -1 := by rw [x5]; exact nm1 (by omega)
    simp only [↓vW lW, ↓mcI_of x1, if_true, mb0, ↓vM lM, ↓mcV_of x2]
    exact OutB_f rfl (pr_N4 (r + 4) lM nf) x3 x4 x5 x6 x7 x8 x9
theorem su_lp (d r : Nat) (lX : LayX G 101) (lW : LayW G 1 b) (lM : LayM G2 219) (HU : ∀ I J a s, PrS B b e a t s I J → OutB B b e a t s I J G G2 L K (mcal mT (d + 5) 3 [.ref b, .ref 101, .int (Int32.ofNat t)] (G, I, L)) (mcal mT (r + 5) 262 [.ref 219] (G2, J, K)) (fun J' a' s' => a < a' ∧ s < s' ∧ Sgm (wJ J') s s' Du)) : ∀ k i a s I J, e - a ≤ k → PrS B b e a t s I J → i < a → s0 ≤ s → Sgm (wJ J) s0 s (Du + 1) → OutB B b e a t s I J G G2 L K (f_X0_readSum (d + 5) 13 [.ref b, .ref 101, .int (Int32.ofNat t), .int (Int32.ofNat i), mU] [] (G, I, L)) (f_X12_sum (r + 5) 4 [.ref 219, mU] [] (G2, J, K)) (fun J' a' s' => Sgm (wJ J') s0 s' (Du + 1)) := by
  intro k
  have z1 : ¬ (1 : Int32) = 0 := by decide
  induction k with
  | zero =>
    intro i a s I J hk q hi hs sg
    obtain ⟨q1, q2, q3, q4, q5, q6, q7, q8⟩ := id q
    have ae : a = e := by have := q1.2.2.1; omega
    have pe : skb B e a = a := sk_e (by omega)
    have n : ∀ x, ¬ (skb B e a < e ∧ B (skb B e a) = x) := fun x p => by omega
    obtain ⟨I1, c1, c2, c3, c4, -⟩ := tk_sign (d + 2) (L := L) (x := 43) lX q1 (by decide)
    rw [if_neg (n 43)] at c1 c3
    rw [pe] at c3
    obtain ⟨I2, d1, d2, d3, d4, -⟩ := tk_sign (d + 2) (L := L) (x := 45) lX c3 (by decide)
    rw [if_neg (n 45)] at d1 d3
    rw [pe] at d3
    have fi := r_fine (r + 4) (K := K) lM q2.2.2.2.2.1
    obtain ⟨J1, e1, e2, e3, e4⟩ := rk_here (r + 4) (K := K) lM q2
    rw [pe] at e3
    obtain ⟨J2, f1, f2, f3, f4⟩ := rk_here (r + 4) (K := K) lM e3
    rw [pe] at f3
    have h0 : hre B e a = 0 := by unfold hre; rw [if_neg (by omega)]
    rw [h0] at e1 f1
    have o1 := TxO_t c2 d2
    have o2 := RdO_t e2 f2
    have n200 : ¬ (200 : Int32) ≤ Int32.ofNat i := fun z => by have := (i_le (a := 200) (by decide) (by omega)).mp z; omega
    have c1' : mcal mT (d + 5) 91 [.ref 101, .int 43] (G, I, L) = some (.inl (some (.int 0)), (G, I1, L)) := c1
    have d1' : mcal mT (d + 5) 91 [.ref 101, .int 45] (G, I1, L) = some (.inl (some (.int 0)), (G, I2, L)) := d1
    refine Or.inl ⟨I2, J2, a, s, ?_, ?_, PrS_x q o1 o2 d3 f3 (Nat.le_refl _) (by rw [d4 7 (by decide), c4 7 (by decide)]), BlC_x q7 o1, BlJ_x o2, SaR_x o2, Nat.le_refl _, Nat.le_refl _, Nat.le_refl _, Sgm_c sg (wJ_s (SaR_x o2)) hs (Nat.le_refl _)⟩
    · rw [e_X0_readSum_13, if_neg n200]
      simp only [↓vX lX, ↓mcI_of c1', if_true, e_X0_readSum_34, ↓mcI_of d1', e_X0_readSum_48, e_X0_readSum_49, mb1]
    · rw [e_X12_sum_4]
      simp only [↓vM lM, ↓mcI_of fi, if_neg z1, ↓mcI_of e1, if_neg (show ¬ Int32.ofNat 0 = 43 by decide), ↓mcI_of f1, if_neg (show ¬ Int32.ofNat 0 = 45 by decide), e_X12_sum_69]
  | succ k ih =>
    intro i a s I J hk q hi hs sg
    obtain ⟨q1, q2, q3, q4, q5, q6, q7, q8⟩ := id q
    have ae := q1.2.2.1
    have bb := skb_b (B := B) (e := e) (a := a) ae
    have pp := skb_i (B := B) (e := e) (a := a) ae
    have n200 : ¬ (200 : Int32) ≤ Int32.ofNat i := fun z => by have := (i_le (a := 200) (by decide) (by omega)).mp z; omega
    have fi := r_fine (r + 4) (K := K) lM q2.2.2.2.2.1
    obtain ⟨J1, e1, e2, e3, e4⟩ := rk_here (r + 4) (K := K) lM q2
    have hb := hre_b q2
    -- what follows a sign
    have step : ∀ (w : Nat) (cw : Int32) (I1 J1 : Nat → Nat → Int32), (w = 6 ∨ w = 7) → cw = -Int32.ofNat w → skb B e a < e → PrS B b e (skb B e a + 1) t s I1 J1 → BlC b I I1 → BlJ J J1 → SaR s J J1 → f_X0_readSum (d + 5) 13 [.ref b, .ref 101, .int (Int32.ofNat t), .int (Int32.ofNat i), mU] [] (G, I, L) = f_X0_readSum (d + 5) 58 [.ref b, .ref 101, .int (Int32.ofNat t), .int (Int32.ofNat i), .int cw] [] (G, I1, L) → (∀ J2, mcal mT (r + 5) 262 [.ref 219] (G2, J1, K) = some (.inl none, (G2, J2, K)) → f_X12_sum (r + 5) 4 [.ref 219, mU] [] (G2, J, K) = f_X12_sum (r + 5) 62 [.ref 219, mU] [.int (Int32.ofNat w), .ref 219] (G2, J2, K)) → OutB B b e a t s I J G G2 L K (f_X0_readSum (d + 5) 13 [.ref b, .ref 101, .int (Int32.ofNat t), .int (Int32.ofNat i), mU] [] (G, I, L)) (f_X12_sum (r + 5) 4 [.ref 219, mU] [] (G2, J, K)) (fun J' a' s' => Sgm (wJ J') s0 s' (Du + 1)) := by
      intro w cw I1 J1 hw hcw pe q' bc bj sr ec er
      rcases HU I1 J1 _ s q' with ⟨I2, J2, a2, s2, x1, x2, x3, x4, x5, x6, x7, x8, x9, x10, x11, x12⟩ | ⟨I2, J2, k2, p2, x1, x2, x3, x4, x5, x6, x7, x8, x9⟩
      · obtain ⟨I3, J3, y1, y2, y3, y4, y5, y6, y7⟩ := em_pair (d + 4) (r + 3) (w := w) (N := 0) (L := L) (K := K) lW lM x3 (by omega) (by omega) (by unfold irng; decide)
        rw [if_neg (by omega), ← hcw] at y1
        have ag : ∀ j, j < s2 → wJ J2 j = wJ J3 j := wJ_s y6
        have ag0 : ∀ j, j < s → wJ J j = wJ J3 j := fun j hj => (wJ_s (SaR_t sr (Nat.le_refl _) x6) j hj).trans (ag j (by omega))
        have sg3 : Sgm (wJ J3) s0 (s2 + 1) (Du + 1) := Sgm_j (Sgm_c sg ag0 hs (Nat.le_refl _)) (Sgm_c x12 ag (by omega) (Nat.le_refl _)) hs (by omega) (by rw [y7]; omega)
        have bc3 := BlC_t (BlC_t bc x4) y4
        have bj3 := BlJ_t (BlJ_t bj x5) y5
        have sr3 : SaR s J J3 := SaR_t (SaR_t sr (Nat.le_refl _) x6) x8 y6
        have ec2 : f_X0_readSum (d + 5) 13 [.ref b, .ref 101, .int (Int32.ofNat t), .int (Int32.ofNat i), mU] [] (G, I, L) = f_X0_readSum (d + 5) 13 [.ref b, .ref 101, .int (Int32.ofNat t), .int (Int32.ofNat (i + 1)), mU] [] (G, I3, L) := by
          rw [ec, e_X0_readSum_58]
          have lC := lW.2.2
          simp only [↓vW lW, ↓mcI_of x1, if_neg z1, e_X0_readSum_69, ↓vC lC, ↓mcV_of y1, i_one]
        have er2 : f_X12_sum (r + 5) 4 [.ref 219, mU] [] (G2, J, K) = f_X12_sum (r + 5) 4 [.ref 219, mU] [] (G2, J3, K) := by
          rw [er J2 x2, e_X12_sum_62]
          simp only [↓vM lM, ↓mcV_of y2]
        rw [ec2, er2]
        rcases ih (i + 1) a2 (s2 + 1) I3 J3 (by omega) y3 (by omega) (by omega) sg3 with ⟨I4, J4, a4, s4, w1, w2, w3, w4, w5, w6, w7, w8, w9, w10⟩ | ⟨I4, J4, k4, p4, w1, w2, w3, w4, w5, w6, w7, w8, w9⟩
        · exact Or.inl ⟨I4, J4, a4, s4, w1, w2, w3, BlC_t bc3 w4, BlJ_t bj3 w5, SaR_t sr3 (by omega) w6, by omega, by omega, by omega, w10⟩
        · exact OutB_f w1 w2 w3 w4 w5 w6 w7 (BlC_t bc3 w8) (BlJ_t bj3 w9)
      · have nf : ¬ J2 219 6 = -1 := by rw [x5]; exact nm1 (by omega)
        refine OutB_f (I' := I2) (J' := J2) (k := k2) (p := p2) ?_ ?_ x3 x4 x5 x6 x7 (BlC_t bc x8) (BlJ_t bj x9)
        · rw [ec, e_X0_readSum_58]
          simp only [↓vW lW, ↓mcI_of x1, if_true, mb0]
        · rw [er J2 x2, e_X12_sum_62]
          simp only [↓vM lM, ↓mcV_of (r_emitN (r + 3) (K := K) (Int32.ofNat w) 0 lM nf)]
          exact su_N4 (r + 4) lM nf
    by_cases n1 : skb B e a < e ∧ B (skb B e a) = 43
    · obtain ⟨I1, c1, c2, c3, c4, -⟩ := tk_sign (d + 2) (L := L) (x := 43) lX q1 (by decide)
      rw [if_pos n1] at c1 c3
      have c1' : mcal mT (d + 5) 91 [.ref 101, .int 43] (G, I, L) = some (.inl (some (.int 1)), (G, I1, L)) := c1
      have hv : hre B e a = 43 := (hre_x (by decide)).mpr n1
      obtain ⟨J2, f1, f2, f3, f4⟩ := rk_here (r + 4) (K := K) lM e3
      rw [pp] at f3
      have hv2 : hre B e (skb B e a) = 43 := (hre_x (by decide)).mpr (by rw [pp]; exact n1)
      rw [hv] at e1
      rw [hv2] at f1
      have o3 := RdO_u (k := 5) (v := Int32.ofNat (skb B e a + 1)) (RdO_t e2 f2) (by omega)
      have r3 := RdR_o q2 o3 (a' := skb B e a + 1) (by rw [up_eq, up_eq]) (by omega) (by rw [up_eq, up_ne (by decide)]; exact f3.2.2.2.2.1)
      have f5 : J2 219 5 = Int32.ofNat (skb B e a) := f3.2.1
      refine step 6 (-6) I1 _ (Or.inl rfl) (by decide) n1.1 (PrS_x q c2 o3 c3 r3 (by omega) (c4 7 (by decide))) (BlC_x q7 c2) (BlJ_x o3) (SaR_x o3) ?_ (fun J3 hJ3 => ?_)
      · rw [e_X0_readSum_13, if_neg n200]
        simp only [↓vX lX, ↓mcI_of c1', if_neg z1, e_X0_readSum_49, if_neg (show ¬ (-6 : Int32) = 0 by decide)]
      · rw [e_X12_sum_4]
        simp only [↓vM lM, ↓mcI_of fi, if_neg z1, ↓mcI_of e1, if_pos (show Int32.ofNat 43 = 43 from rfl), e_X12_sum_29, ↓mcI_of f1, f5, up2_e, i_one, ↓mcV_of hJ3]
        rfl
    · obtain ⟨I1, c1, c2, c3, c4, -⟩ := tk_sign (d + 2) (L := L) (x := 43) lX q1 (by decide)
      rw [if_neg n1] at c1 c3
      have c1' : mcal mT (d + 5) 91 [.ref 101, .int 43] (G, I, L) = some (.inl (some (.int 0)), (G, I1, L)) := c1
      have hv : ¬ Int32.ofNat (hre B e a) = 43 := fun z => n1 ((hre_x (by decide)).mp ((i_eq (b := 43) (by omega) (by decide)).mp z))
      obtain ⟨J2, f1, f2, f3, f4⟩ := rk_here (r + 4) (K := K) lM e3
      have hb2 := hre_b e3
      by_cases n2 : skb B e a < e ∧ B (skb B e a) = 45
      · obtain ⟨I2, d1, d2, d3, d4, -⟩ := tk_sign (d + 2) (L := L) (x := 45) lX c3 (by decide)
        rw [pp, if_pos n2] at d1 d3
        have d1' : mcal mT (d + 5) 91 [.ref 101, .int 45] (G, I1, L) = some (.inl (some (.int 1)), (G, I2, L)) := d1
        rw [pp] at f3
        have hv2 : hre B e (skb B e a) = 45 := (hre_x (by decide)).mpr (by rw [pp]; exact n2)
        rw [hv2] at f1
        obtain ⟨J3, g1, g2, g3, g4⟩ := rk_here (r + 4) (K := K) lM f3
        rw [hv2] at g1
        rw [pp] at g3
        have o3 := RdO_u (k := 5) (v := Int32.ofNat (skb B e a + 1)) (RdO_t (RdO_t e2 f2) g2) (by omega)
        have r3 := RdR_o q2 o3 (a' := skb B e a + 1) (by rw [up_eq, up_eq]) (by omega) (by rw [up_eq, up_ne (by decide)]; exact g3.2.2.2.2.1)
        have g5 : J3 219 5 = Int32.ofNat (skb B e a) := g3.2.1
        refine step 7 (-7) I2 _ (Or.inr rfl) (by decide) n2.1 (PrS_x q (TxO_t c2 d2) o3 d3 r3 (by omega) (by rw [d4 7 (by decide), c4 7 (by decide)])) (BlC_x q7 (TxO_t c2 d2)) (BlJ_x o3) (SaR_x o3) ?_ (fun J4 hJ4 => ?_)
        · rw [e_X0_readSum_13, if_neg n200]
          simp only [↓vX lX, ↓mcI_of c1', if_true, e_X0_readSum_34, ↓mcI_of d1', if_neg z1, e_X0_readSum_49, if_neg (show ¬ (-7 : Int32) = 0 by decide)]
        · rw [e_X12_sum_4]
          simp only [↓vM lM, ↓mcI_of fi, if_neg z1, ↓mcI_of e1, if_neg hv, ↓mcI_of f1, if_pos (show Int32.ofNat 45 = 45 from rfl), e_X12_sum_29, ↓mcI_of g1, g5, up2_e, i_one, ↓mcV_of hJ4, if_neg (show ¬ Int32.ofNat 45 = 43 by decide), e_X12_sum_60]
          rfl
      · obtain ⟨I2, d1, d2, d3, d4, -⟩ := tk_sign (d + 2) (L := L) (x := 45) lX c3 (by decide)
        rw [pp, if_neg n2] at d1 d3
        have d1' : mcal mT (d + 5) 91 [.ref 101, .int 45] (G, I1, L) = some (.inl (some (.int 0)), (G, I2, L)) := d1
        rw [pp] at f3
        have hv2 : ¬ Int32.ofNat (hre B e (skb B e a)) = 45 := fun z => n2 (by have := (hre_x (B := B) (e := e) (a := skb B e a) (x := 45) (by decide)).mp ((i_eq (b := 45) (by omega) (by decide)).mp z); rw [pp] at this; exact this)
        have o1 := TxO_t c2 d2
        have o2 := RdO_t e2 f2
        refine Or.inl ⟨I2, J2, skb B e a, s, ?_, ?_, PrS_x q o1 o2 d3 f3 bb.1 (by rw [d4 7 (by decide), c4 7 (by decide)]), BlC_x q7 o1, BlJ_x o2, SaR_x o2, bb.1, Nat.le_refl _, by omega, Sgm_c sg (wJ_s (SaR_x o2)) hs (Nat.le_refl _)⟩
        · rw [e_X0_readSum_13, if_neg n200]
          simp only [↓vX lX, ↓mcI_of c1', if_true, e_X0_readSum_34, ↓mcI_of d1', e_X0_readSum_48, e_X0_readSum_49, mb1]
        · rw [e_X12_sum_4]
          simp only [↓vM lM, ↓mcI_of fi, if_neg z1, ↓mcI_of e1, if_neg hv, ↓mcI_of f1, if_neg hv2, e_X12_sum_69]
theorem su_all (d r : Nat) {I J : Nat → Nat → Int32} {a s : Nat} (lX : LayX G 101) (lW : LayW G 1 b) (lM : LayM G2 219) (HU : ∀ I J a s, PrS B b e a t s I J → OutB B b e a t s I J G G2 L K (mcal mT (d + 5) 3 [.ref b, .ref 101, .int (Int32.ofNat t)] (G, I, L)) (mcal mT (r + 5) 262 [.ref 219] (G2, J, K)) (fun J' a' s' => a < a' ∧ s < s' ∧ Sgm (wJ J') s s' Du)) (q : PrS B b e a t s I J) : OutB B b e a t s I J G G2 L K (mcal mT (d + 6) 2 [.ref b, .ref 101, .int (Int32.ofNat t)] (G, I, L)) (mcal mT (r + 6) 263 [.ref 219] (G2, J, K)) (fun J' a' s' => a < a' ∧ s < s' ∧ Sgm (wJ J') s s' (Du + 1)) := by
  have z1 : ¬ (1 : Int32) = 0 := by decide
  rw [q_X0_readSum_, e_X0_readSum_0, q_X12_sum_, e_X12_sum_0]
  rcases HU I J a s q with ⟨I2, J2, a2, s2, x1, x2, x3, x4, x5, x6, x7, x8, x9, x10, x11, x12⟩ | ⟨I2, J2, k2, p2, x1, x2, x3, x4, x5, x6, x7, x8, x9⟩
  · simp only [↓vW lW, ↓mcI_of x1, if_neg z1, e_X0_readSum_11, ↓vM lM, ↓mcV_of x2]
    rcases su_lp (s0 := s) d r lX lW lM HU (e - a2) 0 a2 s2 I2 J2 (Nat.le_refl _) x3 (by omega) (by omega) (Sgm_c x12 (fun _ _ => rfl) (by omega) (Nat.le_succ _)) with ⟨I4, J4, a4, s4, w1, w2, w3, w4, w5, w6, w7, w8, w9, w10⟩ | ⟨I4, J4, k4, p4, w1, w2, w3, w4, w5, w6, w7, w8, w9⟩
    · exact Or.inl ⟨I4, J4, a4, s4, w1, w2, w3, BlC_t x4 w4, BlJ_t x5 w5, SaR_t x6 (by omega) w6, by omega, by omega, by omega, by omega, by omega, w10⟩
    · exact OutB_f w1 w2 w3 w4 w5 w6 w7 (BlC_t x4 w8) (BlJ_t x5 w9)
  · have nf : ¬ J2 219 6 = -1 := by rw [x5]; exact nm1 (by omega)
    simp only [↓vW lW, ↓mcI_of x1, if_true, mb0, ↓vM lM, ↓mcV_of x2]
    exact OutB_f rfl (su_N4 (r + 4) lM nf) x3 x4 x5 x6 x7 x8 x9
end
