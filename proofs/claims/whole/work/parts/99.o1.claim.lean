/-! claims, read: and, or -/
section
variable {G G2 : mG} {I J : Nat → Nat → Int32} {L K : Nat → Nat → Int64} {B : Nat → Nat} {b e t s0 Du : Nat}
theorem on_N (d : Nat) (lM : LayM G2 219) (f : ¬ J 219 6 = -1) : mcal mT (d + 2) 282 [.ref 219] (G2, J, K) = some (.inl none, (G2, J, K)) := by
  have fi := r_fineN d (K := K) lM f
  rw [q_X12_one_, e_X12_one_0]
  simp only [↓vM lM, ↓mcI_of fi, if_true]
theorem al_N4 (d : Nat) (lM : LayM G2 219) (f : ¬ J 219 6 = -1) : f_X12_allOf (d + 1) 4 [.ref 219] [] (G2, J, K) = some (.inl none, (G2, J, K)) := by
  have fi := r_fineN d (K := K) lM f
  rw [e_X12_allOf_4]
  simp only [↓vM lM, ↓mcI_of fi, if_true, e_X12_allOf_45]
theorem al_N (d : Nat) (lM : LayM G2 219) (f : ¬ J 219 6 = -1) : mcal mT (d + 3) 280 [.ref 219] (G2, J, K) = some (.inl none, (G2, J, K)) := by
  rw [q_X12_allOf_, e_X12_allOf_0]
  simp only [↓vM lM, ↓mcV_of (on_N d (K := K) lM f)]
  exact al_N4 (d + 1) lM f
theorem an_N4 (d : Nat) (lM : LayM G2 219) (f : ¬ J 219 6 = -1) : f_X12_anyOf (d + 1) 4 [.ref 219] [] (G2, J, K) = some (.inl none, (G2, J, K)) := by
  have fi := r_fineN d (K := K) lM f
  rw [e_X12_anyOf_4]
  simp only [↓vM lM, ↓mcI_of fi, if_true, e_X12_anyOf_45]
theorem an_N (d : Nat) (lM : LayM G2 219) (f : ¬ J 219 6 = -1) : mcal mT (d + 4) 279 [.ref 219] (G2, J, K) = some (.inl none, (G2, J, K)) := by
  rw [q_X12_anyOf_, e_X12_anyOf_0]
  simp only [↓vM lM, ↓mcV_of (al_N d (K := K) lM f)]
  exact an_N4 (d + 2) lM f
theorem al_lp (d r : Nat) (lX : LayX G 101) (lW : LayW G 2 b) (lM : LayM G2 219) (HU : ∀ I J a s, PrC B b e a t s I J → OutC B b e a t s I J G G2 L K (mcal mT (d + 5) 13 [.ref b, .ref 101, .int (Int32.ofNat t)] (G, I, L)) (mcal mT (r + 5) 282 [.ref 219] (G2, J, K)) (fun J' a' s' => a < a' ∧ s < s' ∧ SgC (wK J') s s' Du)) : ∀ k i a s I J, e - a ≤ k → PrC B b e a t s I J → i < a → s0 ≤ s → SgC (wK J) s0 s (Du + 1) → OutC B b e a t s I J G G2 L K (f_X1_readAnd (d + 5) 13 [.ref b, .ref 101, .int (Int32.ofNat t), .int (Int32.ofNat i)] [] (G, I, L)) (f_X12_allOf (r + 5) 4 [.ref 219] [] (G2, J, K)) (fun J' a' s' => SgC (wK J') s0 s' (Du + 1)) := by
  have z1 : ¬ (1 : Int32) = 0 := by decide
  have stop : ∀ i a s I J, PrC B b e a t s I J → i < a → s0 ≤ s → SgC (wK J) s0 s (Du + 1) → ¬ isw wd_and B (skb B e a) (wde B e a) → OutC B b e a t s I J G G2 L K (f_X1_readAnd (d + 5) 13 [.ref b, .ref 101, .int (Int32.ofNat t), .int (Int32.ofNat i)] [] (G, I, L)) (f_X12_allOf (r + 5) 4 [.ref 219] [] (G2, J, K)) (fun J' a' s' => SgC (wK J') s0 s' (Du + 1)) := by
    intro i a s I J q hi hs sg n
    obtain ⟨q1, q2, q3, q4, q5, q6, q7, q8, q9⟩ := id q
    have ae := q1.2.2.1
    have bb := skb_b (B := B) (e := e) (a := a) ae
    obtain ⟨I1, c1, c2, c3, c4⟩ := tf_26 (d + 2) (L := L) lX q1
    rw [if_neg n] at c1 c3
    have fi := r_fine (r + 4) (K := K) lM q2.2.2.2.2.1
    obtain ⟨J1, e1, e2, e3, e4⟩ := rk_word (r + 3) (K := K) lM q2
    have n200 : ¬ (200 : Int32) ≤ Int32.ofNat i := fun z => by have := (i_le (a := 200) (by decide) (by omega)).mp z; omega
    have q' := PrC_x q c2 e2 c3 e3 bb.1 (c4 7 (by decide))
    have sc := SaC_x (s := s) e2
    refine Or.inl ⟨I1, J1, skb B e a, s, ?_, ?_, q', BlC_y q8 c2, ClJ_x e2, sc, bb.1, Nat.le_refl _, by rw [← pos_c s (wK_s sc)]; omega, by omega, SgC_c sg (wK_s sc) hs (Nat.le_refl _)⟩
    · rw [e_X1_readAnd_13, if_neg n200]
      simp only [↓vX lX, ↓mcI_of c1, if_true, e_X1_readAnd_54, mb1]
    · rw [e_X12_allOf_4]
      simp only [↓vM lM, ↓mcI_of fi, if_neg z1, ↓mcL_of e1, ↓mcL_of (o_and (r + 4)), if_neg (fun z => n ((wd_cmp lt_and ae).mp z)), e_X12_allOf_45]
  intro k
  induction k with
  | zero =>
    intro i a s I J hk q hi hs sg
    have ae := q.1.2.2.1
    have wb := wde_b (B := B) (e := e) (a := a) ae
    have bb := skb_b (B := B) (e := e) (a := a) ae
    refine stop i a s I J q hi hs sg (fun z => ?_)
    have l1 : (wd_and).length = wde B e a - skb B e a := z.1
    have l2 : 2 ≤ (wd_and).length := by decide
    omega
  | succ k ih =>
    intro i a s I J hk q hi hs sg
    by_cases n : isw wd_and B (skb B e a) (wde B e a)
    case neg => exact stop i a s I J q hi hs sg n
    obtain ⟨q1, q2, q3, q4, q5, q6, q7, q8, q9⟩ := id q
    have ae := q1.2.2.1
    have bb := skb_b (B := B) (e := e) (a := a) ae
    have pp := skb_i (B := B) (e := e) (a := a) ae
    have wb := wde_b (B := B) (e := e) (a := a) ae
    have l1 : (wd_and).length = wde B e a - skb B e a := n.1
    have l2 : 2 ≤ (wd_and).length := by decide
    obtain ⟨I1, c1, c2, c3, c4⟩ := tf_26 (d + 2) (L := L) lX q1
    rw [if_pos n] at c1 c3
    have fi := r_fine (r + 4) (K := K) lM q2.2.2.2.2.1
    obtain ⟨J1, e1, e2, e3, e4⟩ := rk_word (r + 3) (K := K) lM q2
    have pa := rk_pass (r + 3) (K := K) lM _ _ J1 rfl e3
    have wq : skr (isL B) e (skb B e a) = wde B e a := rfl
    rw [wq] at pa
    have o3 := RdO_u (k := 5) (v := Int32.ofNat (wde B e a)) e2 (by omega)
    have r3 := RdR_o q2 o3 (a' := wde B e a) (by rw [up_eq, up_eq]) wb.2 (by rw [up_eq, up_ne (by decide)]; exact e3.2.2.2.2.1)
    generalize hJ2 : va_up J1 219 (va_up (J1 219) 5 (Int32.ofNat (wde B e a))) = J2 at pa o3 r3
    have n200 : ¬ (200 : Int32) ≤ Int32.ofNat i := fun z => by have := (i_le (a := 200) (by decide) (by omega)).mp z; omega
    have q' := PrC_x q c2 o3 c3 r3 (by omega) (c4 7 (by decide))
    have sc := SaC_x (s := s) o3
    have ps : pos (wK J) s = pos (wK J2) s := pos_c s (wK_s sc)
    have ec : f_X1_readAnd (d + 5) 13 [.ref b, .ref 101, .int (Int32.ofNat t), .int (Int32.ofNat i)] [] (G, I, L) = mcI (mcal mT (d + 5) 13 [.ref b, .ref 101, .int (Int32.ofNat t)] (G, I1, L)) (fun v6 h5 => (if v6 = 0 then mbool 0 (some (.inl (some (.int 0)), h5)) else f_X1_readAnd (d + 5) 40 [.ref b, .ref 101, .int (Int32.ofNat t), .int (Int32.ofNat i)] [] h5)) mthr := by
      rw [e_X1_readAnd_13, if_neg n200]
      simp only [↓vX lX, ↓mcI_of c1, if_neg z1, ↓vW lW]
    have er : ∀ J3, mcal mT (r + 5) 282 [.ref 219] (G2, J2, K) = some (.inl none, (G2, J3, K)) → ∀ J4, mcal mT (r + 5) 278 [.ref 219, .int 4, .int 0, .int 0, .int 0, .int 0] (G2, J3, K) = some (.inl none, (G2, J4, K)) → f_X12_allOf (r + 5) 4 [.ref 219] [] (G2, J, K) = f_X12_allOf (r + 5) 4 [.ref 219] [] (G2, J4, K) := by
      intro J3 h3 J4 h4
      rw [e_X12_allOf_4]
      simp only [↓vM lM, ↓mcI_of fi, if_neg z1, ↓mcL_of e1, ↓mcL_of (o_and (r + 4)), if_pos ((wd_cmp lt_and ae).mpr n), ↓mcV_of pa, ↓mcV_of h3, ↓mcV_of h4]
    rcases HU I1 J2 _ s q' with ⟨I2, J3, a2, s2, x1, x2, x3, x4, x5, x6, x7, x8, x9, x9', x10, x11, x12⟩ | ⟨I2, J3, k2, p2, x1, x2, x3, x4, x5, x6, x7, x8, x9⟩
    · obtain ⟨I3, J4, y1, y2, y3, y4, y5, y6, y7, y8⟩ := ec_pair (d + 4) (r + 3) (w := 4) (cw := 5) (L := L) (K := K) lW lM x3 (by omega) (by omega) (by decide)
      have ag : ∀ j, j < s2 → wK J3 j = wK J4 j := wK_s y6
      have ag0 : ∀ j, j < s → wK J j = wK J4 j := fun j hj => (wK_s (SaC_t sc (Nat.le_refl _) x6) j hj).trans (ag j (by omega))
      have sg3 : SgC (wK J4) s0 (s2 + 1) (Du + 1) := SgC_j (SgC_c sg ag0 hs (Nat.le_refl _)) (SgC_c x12 ag (by omega) (Nat.le_refl _)) hs (by omega) (by rw [y7]; decide)
      have bc3 := BlC_t (BlC_t (BlC_y q8 c2) x4) y4
      have bj3 := ClJ_t (ClJ_t (ClJ_x o3) x5) y5
      have sr3 : SaC s J J4 := SaC_t (SaC_t sc (Nat.le_refl _) x6) x8 y6
      have ec2 : f_X1_readAnd (d + 5) 13 [.ref b, .ref 101, .int (Int32.ofNat t), .int (Int32.ofNat i)] [] (G, I, L) = f_X1_readAnd (d + 5) 13 [.ref b, .ref 101, .int (Int32.ofNat t), .int (Int32.ofNat (i + 1))] [] (G, I3, L) := by
        have lC := lW.2.2
        rw [ec, x1, mcI_v, if_neg z1, e_X1_readAnd_40]
        simp only [↓vW lW, ↓vC lC, ↓mcV_of y1, i_one]
      rw [ec2, er J3 x2 J4 y2]
      rcases ih (i + 1) a2 (s2 + 1) I3 J4 (by omega) y3 (by omega) (by omega) sg3 with ⟨I4, J5, a4, s4, w1, w2, w3, w4, w5, w6, w7, w8, w9, w9', w10⟩ | ⟨I4, J5, k4, p4, w1, w2, w3, w4, w5, w6, w7, w8, w9⟩
      · exact Or.inl ⟨I4, J5, a4, s4, w1, w2, w3, BlC_t bc3 w4, ClJ_t bj3 w5, SaC_t sr3 (by omega) w6, by omega, by omega, by omega, by omega, w10⟩
      · exact OutC_f w1 w2 w3 w4 w5 w6 w7 (BlC_t bc3 w8) (ClJ_t bj3 w9)
    · have nf : ¬ J3 219 6 = -1 := by rw [x5]; exact nm1 (by omega)
      refine OutC_f (I' := I2) (J' := J3) (k := k2) (p := p2) ?_ ?_ x3 x4 x5 x6 x7 (BlC_t (BlC_y q8 c2) x8) (ClJ_t (ClJ_x o3) x9)
      · rw [ec, x1, mcI_v, if_pos rfl, mb0]
      · rw [er J3 x2 J3 (r_emCN (r + 3) (K := K) 4 0 0 0 0 lM nf)]
        exact al_N4 (r + 4) lM nf
theorem al_all (d r : Nat) {a s : Nat} (lX : LayX G 101) (lW : LayW G 2 b) (lM : LayM G2 219) (HU : ∀ I J a s, PrC B b e a t s I J → OutC B b e a t s I J G G2 L K (mcal mT (d + 5) 13 [.ref b, .ref 101, .int (Int32.ofNat t)] (G, I, L)) (mcal mT (r + 5) 282 [.ref 219] (G2, J, K)) (fun J' a' s' => a < a' ∧ s < s' ∧ SgC (wK J') s s' Du)) (q : PrC B b e a t s I J) : OutC B b e a t s I J G G2 L K (mcal mT (d + 6) 12 [.ref b, .ref 101, .int (Int32.ofNat t)] (G, I, L)) (mcal mT (r + 6) 280 [.ref 219] (G2, J, K)) (fun J' a' s' => a < a' ∧ s < s' ∧ SgC (wK J') s s' (Du + 1)) := by
  have z1 : ¬ (1 : Int32) = 0 := by decide
  rw [q_X1_readAnd_, e_X1_readAnd_0, q_X12_allOf_, e_X12_allOf_0]
  rcases HU I J a s q with ⟨I2, J2, a2, s2, x1, x2, x3, x4, x5, x6, x7, x8, x9, x9', x10, x11, x12⟩ | ⟨I2, J2, k2, p2, x1, x2, x3, x4, x5, x6, x7, x8, x9⟩
  · simp only [↓vW lW, ↓mcI_of x1, if_neg z1, e_X1_readAnd_11, ↓vM lM, ↓mcV_of x2]
    rcases al_lp (s0 := s) d r lX lW lM HU (e - a2) 0 a2 s2 I2 J2 (Nat.le_refl _) x3 (by omega) (by omega) (SgC_c x12 (fun _ _ => rfl) (by omega) (Nat.le_succ _)) with ⟨I4, J4, a4, s4, w1, w2, w3, w4, w5, w6, w7, w8, w9, w9', w10⟩ | ⟨I4, J4, k4, p4, w1, w2, w3, w4, w5, w6, w7, w8, w9⟩
    · exact Or.inl ⟨I4, J4, a4, s4, w1, w2, w3, BlC_t x4 w4, ClJ_t x5 w5, SaC_t x6 (by omega) w6, by omega, by omega, by omega, by omega, by omega, by omega, w10⟩
    · exact OutC_f w1 w2 w3 w4 w5 w6 w7 (BlC_t x4 w8) (ClJ_t x5 w9)
  · have nf : ¬ J2 219 6 = -1 := by rw [x5]; exact nm1 (by omega)
    simp only [↓vW lW, ↓mcI_of x1, if_true, mb0, ↓vM lM, ↓mcV_of x2]
    exact OutC_f rfl (al_N4 (r + 4) lM nf) x3 x4 x5 x6 x7 x8 x9
theorem an_lp (d r : Nat) (lX : LayX G 101) (lW : LayW G 2 b) (lM : LayM G2 219) (HU : ∀ I J a s, PrC B b e a t s I J → OutC B b e a t s I J G G2 L K (mcal mT (d + 5) 12 [.ref b, .ref 101, .int (Int32.ofNat t)] (G, I, L)) (mcal mT (r + 5) 280 [.ref 219] (G2, J, K)) (fun J' a' s' => a < a' ∧ s < s' ∧ SgC (wK J') s s' Du)) : ∀ k i a s I J, e - a ≤ k → PrC B b e a t s I J → i < a → s0 ≤ s → SgC (wK J) s0 s (Du + 1) → OutC B b e a t s I J G G2 L K (f_X1_readOr (d + 5) 13 [.ref b, .ref 101, .int (Int32.ofNat t), .int (Int32.ofNat i)] [] (G, I, L)) (f_X12_anyOf (r + 5) 4 [.ref 219] [] (G2, J, K)) (fun J' a' s' => SgC (wK J') s0 s' (Du + 1)) := by
  have z1 : ¬ (1 : Int32) = 0 := by decide
  have stop : ∀ i a s I J, PrC B b e a t s I J → i < a → s0 ≤ s → SgC (wK J) s0 s (Du + 1) → ¬ isw wd_or B (skb B e a) (wde B e a) → OutC B b e a t s I J G G2 L K (f_X1_readOr (d + 5) 13 [.ref b, .ref 101, .int (Int32.ofNat t), .int (Int32.ofNat i)] [] (G, I, L)) (f_X12_anyOf (r + 5) 4 [.ref 219] [] (G2, J, K)) (fun J' a' s' => SgC (wK J') s0 s' (Du + 1)) := by
    intro i a s I J q hi hs sg n
    obtain ⟨q1, q2, q3, q4, q5, q6, q7, q8, q9⟩ := id q
    have ae := q1.2.2.1
    have bb := skb_b (B := B) (e := e) (a := a) ae
    obtain ⟨I1, c1, c2, c3, c4⟩ := tf_25 (d + 2) (L := L) lX q1
    rw [if_neg n] at c1 c3
    have fi := r_fine (r + 4) (K := K) lM q2.2.2.2.2.1
    obtain ⟨J1, e1, e2, e3, e4⟩ := rk_word (r + 3) (K := K) lM q2
    have n200 : ¬ (200 : Int32) ≤ Int32.ofNat i := fun z => by have := (i_le (a := 200) (by decide) (by omega)).mp z; omega
    have q' := PrC_x q c2 e2 c3 e3 bb.1 (c4 7 (by decide))
    have sc := SaC_x (s := s) e2
    refine Or.inl ⟨I1, J1, skb B e a, s, ?_, ?_, q', BlC_y q8 c2, ClJ_x e2, sc, bb.1, Nat.le_refl _, by rw [← pos_c s (wK_s sc)]; omega, by omega, SgC_c sg (wK_s sc) hs (Nat.le_refl _)⟩
    · rw [e_X1_readOr_13, if_neg n200]
      simp only [↓vX lX, ↓mcI_of c1, if_true, e_X1_readOr_55, mb1]
    · rw [e_X12_anyOf_4]
      simp only [↓vM lM, ↓mcI_of fi, if_neg z1, ↓mcL_of e1, ↓mcL_of (o_or (r + 4)), if_neg (fun z => n ((wd_cmp lt_or ae).mp z)), e_X12_anyOf_45]
  intro k
  induction k with
  | zero =>
    intro i a s I J hk q hi hs sg
    have ae := q.1.2.2.1
    have wb := wde_b (B := B) (e := e) (a := a) ae
    have bb := skb_b (B := B) (e := e) (a := a) ae
    refine stop i a s I J q hi hs sg (fun z => ?_)
    have l1 : (wd_or).length = wde B e a - skb B e a := z.1
    have l2 : 2 ≤ (wd_or).length := by decide
    omega
  | succ k ih =>
    intro i a s I J hk q hi hs sg
    by_cases n : isw wd_or B (skb B e a) (wde B e a)
    case neg => exact stop i a s I J q hi hs sg n
    obtain ⟨q1, q2, q3, q4, q5, q6, q7, q8, q9⟩ := id q
    have ae := q1.2.2.1
    have bb := skb_b (B := B) (e := e) (a := a) ae
    have pp := skb_i (B := B) (e := e) (a := a) ae
    have wb := wde_b (B := B) (e := e) (a := a) ae
    have l1 : (wd_or).length = wde B e a - skb B e a := n.1
    have l2 : 2 ≤ (wd_or).length := by decide
    obtain ⟨I1, c1, c2, c3, c4⟩ := tf_25 (d + 2) (L := L) lX q1
    rw [if_pos n] at c1 c3
    have fi := r_fine (r + 4) (K := K) lM q2.2.2.2.2.1
    obtain ⟨J1, e1, e2, e3, e4⟩ := rk_word (r + 3) (K := K) lM q2
    have pa := rk_pass (r + 3) (K := K) lM _ _ J1 rfl e3
    have wq : skr (isL B) e (skb B e a) = wde B e a := rfl
    rw [wq] at pa
    have o3 := RdO_u (k := 5) (v := Int32.ofNat (wde B e a)) e2 (by omega)
    have r3 := RdR_o q2 o3 (a' := wde B e a) (by rw [up_eq, up_eq]) wb.2 (by rw [up_eq, up_ne (by decide)]; exact e3.2.2.2.2.1)
    generalize hJ2 : va_up J1 219 (va_up (J1 219) 5 (Int32.ofNat (wde B e a))) = J2 at pa o3 r3
    have n200 : ¬ (200 : Int32) ≤ Int32.ofNat i := fun z => by have := (i_le (a := 200) (by decide) (by omega)).mp z; omega
    have q' := PrC_x q c2 o3 c3 r3 (by omega) (c4 7 (by decide))
    have sc := SaC_x (s := s) o3
    have ps : pos (wK J) s = pos (wK J2) s := pos_c s (wK_s sc)
    have ec : f_X1_readOr (d + 5) 13 [.ref b, .ref 101, .int (Int32.ofNat t), .int (Int32.ofNat i)] [] (G, I, L) = mcI (mcal mT (d + 5) 12 [.ref b, .ref 101, .int (Int32.ofNat t)] (G, I1, L)) (fun v6 h5 => (if v6 = 0 then mbool 0 (some (.inl (some (.int 0)), h5)) else f_X1_readOr (d + 5) 40 [.ref b, .ref 101, .int (Int32.ofNat t), .int (Int32.ofNat i)] [] h5)) mthr := by
      rw [e_X1_readOr_13, if_neg n200]
      simp only [↓vX lX, ↓mcI_of c1, if_neg z1, ↓vW lW]
    have er : ∀ J3, mcal mT (r + 5) 280 [.ref 219] (G2, J2, K) = some (.inl none, (G2, J3, K)) → ∀ J4, mcal mT (r + 5) 278 [.ref 219, .int 5, .int 0, .int 0, .int 0, .int 0] (G2, J3, K) = some (.inl none, (G2, J4, K)) → f_X12_anyOf (r + 5) 4 [.ref 219] [] (G2, J, K) = f_X12_anyOf (r + 5) 4 [.ref 219] [] (G2, J4, K) := by
      intro J3 h3 J4 h4
      rw [e_X12_anyOf_4]
      simp only [↓vM lM, ↓mcI_of fi, if_neg z1, ↓mcL_of e1, ↓mcL_of (o_or (r + 4)), if_pos ((wd_cmp lt_or ae).mpr n), ↓mcV_of pa, ↓mcV_of h3, ↓mcV_of h4]
    rcases HU I1 J2 _ s q' with ⟨I2, J3, a2, s2, x1, x2, x3, x4, x5, x6, x7, x8, x9, x9', x10, x11, x12⟩ | ⟨I2, J3, k2, p2, x1, x2, x3, x4, x5, x6, x7, x8, x9⟩
    · obtain ⟨I3, J4, y1, y2, y3, y4, y5, y6, y7, y8⟩ := ec_pair (d + 4) (r + 3) (w := 5) (cw := 6) (L := L) (K := K) lW lM x3 (by omega) (by omega) (by decide)
      have ag : ∀ j, j < s2 → wK J3 j = wK J4 j := wK_s y6
      have ag0 : ∀ j, j < s → wK J j = wK J4 j := fun j hj => (wK_s (SaC_t sc (Nat.le_refl _) x6) j hj).trans (ag j (by omega))
      have sg3 : SgC (wK J4) s0 (s2 + 1) (Du + 1) := SgC_j (SgC_c sg ag0 hs (Nat.le_refl _)) (SgC_c x12 ag (by omega) (Nat.le_refl _)) hs (by omega) (by rw [y7]; decide)
      have bc3 := BlC_t (BlC_t (BlC_y q8 c2) x4) y4
      have bj3 := ClJ_t (ClJ_t (ClJ_x o3) x5) y5
      have sr3 : SaC s J J4 := SaC_t (SaC_t sc (Nat.le_refl _) x6) x8 y6
      have ec2 : f_X1_readOr (d + 5) 13 [.ref b, .ref 101, .int (Int32.ofNat t), .int (Int32.ofNat i)] [] (G, I, L) = f_X1_readOr (d + 5) 13 [.ref b, .ref 101, .int (Int32.ofNat t), .int (Int32.ofNat (i + 1))] [] (G, I3, L) := by
        have lC := lW.2.2
        rw [ec, x1, mcI_v, if_neg z1, e_X1_readOr_40]
        simp only [↓vW lW, ↓vC lC, ↓mcV_of y1, i_one]
      rw [ec2, er J3 x2 J4 y2]
      rcases ih (i + 1) a2 (s2 + 1) I3 J4 (by omega) y3 (by omega) (by omega) sg3 with ⟨I4, J5, a4, s4, w1, w2, w3, w4, w5, w6, w7, w8, w9, w9', w10⟩ | ⟨I4, J5, k4, p4, w1, w2, w3, w4, w5, w6, w7, w8, w9⟩
      · exact Or.inl ⟨I4, J5, a4, s4, w1, w2, w3, BlC_t bc3 w4, ClJ_t bj3 w5, SaC_t sr3 (by omega) w6, by omega, by omega, by omega, by omega, w10⟩
      · exact OutC_f w1 w2 w3 w4 w5 w6 w7 (BlC_t bc3 w8) (ClJ_t bj3 w9)
    · have nf : ¬ J3 219 6 = -1 := by rw [x5]; exact nm1 (by omega)
      refine OutC_f (I' := I2) (J' := J3) (k := k2) (p := p2) ?_ ?_ x3 x4 x5 x6 x7 (BlC_t (BlC_y q8 c2) x8) (ClJ_t (ClJ_x o3) x9)
      · rw [ec, x1, mcI_v, if_pos rfl, mb0]
      · rw [er J3 x2 J3 (r_emCN (r + 3) (K := K) 5 0 0 0 0 lM nf)]
        exact an_N4 (r + 4) lM nf
theorem an_all (d r : Nat) {a s : Nat} (lX : LayX G 101) (lW : LayW G 2 b) (lM : LayM G2 219) (HU : ∀ I J a s, PrC B b e a t s I J → OutC B b e a t s I J G G2 L K (mcal mT (d + 5) 12 [.ref b, .ref 101, .int (Int32.ofNat t)] (G, I, L)) (mcal mT (r + 5) 280 [.ref 219] (G2, J, K)) (fun J' a' s' => a < a' ∧ s < s' ∧ SgC (wK J') s s' Du)) (q : PrC B b e a t s I J) : OutC B b e a t s I J G G2 L K (mcal mT (d + 6) 11 [.ref b, .ref 101, .int (Int32.ofNat t)] (G, I, L)) (mcal mT (r + 6) 279 [.ref 219] (G2, J, K)) (fun J' a' s' => a < a' ∧ s < s' ∧ SgC (wK J') s s' (Du + 1)) := by
  have z1 : ¬ (1 : Int32) = 0 := by decide
  rw [q_X1_readOr_, e_X1_readOr_0, q_X12_anyOf_, e_X12_anyOf_0]
  rcases HU I J a s q with ⟨I2, J2, a2, s2, x1, x2, x3, x4, x5, x6, x7, x8, x9, x9', x10, x11, x12⟩ | ⟨I2, J2, k2, p2, x1, x2, x3, x4, x5, x6, x7, x8, x9⟩
  · simp only [↓vW lW, ↓mcI_of x1, if_neg z1, e_X1_readOr_11, ↓vM lM, ↓mcV_of x2]
    rcases an_lp (s0 := s) d r lX lW lM HU (e - a2) 0 a2 s2 I2 J2 (Nat.le_refl _) x3 (by omega) (by omega) (SgC_c x12 (fun _ _ => rfl) (by omega) (Nat.le_succ _)) with ⟨I4, J4, a4, s4, w1, w2, w3, w4, w5, w6, w7, w8, w9, w9', w10⟩ | ⟨I4, J4, k4, p4, w1, w2, w3, w4, w5, w6, w7, w8, w9⟩
    · exact Or.inl ⟨I4, J4, a4, s4, w1, w2, w3, BlC_t x4 w4, ClJ_t x5 w5, SaC_t x6 (by omega) w6, by omega, by omega, by omega, by omega, by omega, by omega, w10⟩
    · exact OutC_f w1 w2 w3 w4 w5 w6 w7 (BlC_t x4 w8) (ClJ_t x5 w9)
  · have nf : ¬ J2 219 6 = -1 := by rw [x5]; exact nm1 (by omega)
    simp only [↓vW lW, ↓mcI_of x1, if_true, mb0, ↓vM lM, ↓mcV_of x2]
    exact OutC_f rfl (an_N4 (r + 4) lM nf) x3 x4 x5 x6 x7 x8 x9
end
