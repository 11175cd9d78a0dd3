/-! calls -/
def RelE (z : Nat) (G : mG) (I : Nat → Nat → Int32) (L : Nat → Nat → Int64) : Prop := ∃ h hs bl bs cl cs nr n nh M hN w lc mc kc ta rm pi mk, Rel z h hs bl bs cl cs nr n nh M hN w lc mc kc ta rm pi mk G I L ∧ G.1 ≤ 252 + z + 25 * kc ∧ G.2.1 ≤ 60000 + 6 * z + 4000 * kc
/-- class and reference answer alike, and go on alike -/
def Ste (d W R : Nat) (args : List Value) (z : Nat) (G : mG) (I : Nat → Nat → Int32) (L : Nat → Nat → Int64) : Prop := ∃ k b G1 I1 L1 I2 L2, mcal mT d W (.ref 100 :: (args ++ [.ref 251])) (G, I, L) = some (.inl (some (.int k)), (G1, I1, L1)) ∧ I1 0 = I 0 ∧ gN G1 0 = gN G 0 ∧ mcal mT d R (.ref 219 :: args) (G1, I1, L1) = some (.inl (some (.int b)), (G1, I2, L2)) ∧ I2 0 = I 0 ∧ I2 219 0 = k ∧ (k = 0 → L2 251 0 = Int32.toInt64 b) ∧ RelE z G1 I2 L2
section
variable {z h hs bl bs cl cs nr n nh M hN w lc mc kc ta : Nat} {rm pi mk : Nat → Nat} {G : mG} {I : Nat → Nat → Int32} {L : Nat → Nat → Int64}
theorem Ste_e {d W R : Nat} {args : List Value} {k : Int32} (q : Rel z h hs bl bs cl cs nr n nh M hN w lc mc kc ta rm pi mk G I L) (g1 : G.1 ≤ 252 + z + 25 * kc) (g2 : G.2.1 ≤ 60000 + 6 * z + 4000 * kc) (hz : z + 1 ≤ 512) (hk : ¬ k = 0) (hw : mcal mT d W (.ref 100 :: (args ++ [.ref 251])) (G, I, L) = some (.inl (some (.int k)), (gC G, I, L))) (hr : LayM (gC G) 219 → mcal mT d R (.ref 219 :: args) (gC G, I, L) = some (.inl (some (.int 0)), (gC G, va_up I 219 (va_up (I 219) 0 k), L))) : Ste d W R args (z + 1) G I L := by
  have lM : LayM (gC G) 219 := (LyR_g (Grw_C G) q.1).2.2.2.2.2.2.2.2.2.2.2.1
  refine ⟨k, 0, gC G, I, L, _, L, hw, rfl, rfl, hr lM, up_ne (by decide), by rw [up_eq, up_eq], fun p => absurd p hk, h, hs, bl, bs, cl, cs, nr, n, nh, M, hN, w, lc, mc, kc, ta, rm, pi, mk, Rel_q q (LyR_g (Grw_C G) q.1) (Nat.le_succ z) hz (Qui_t k fun _ _ => rfl), ?_, ?_⟩
  · show G.1 + 1 ≤ _
    omega
  · show G.2.1 + 6 ≤ _
    omega
theorem Ste_q {d W R : Nat} {args : List Value} {v : Int32} (q : Rel z h hs bl bs cl cs nr n nh M hN w lc mc kc ta rm pi mk G I L) (g1 : G.1 ≤ 252 + z + 25 * kc) (g2 : G.2.1 ≤ 60000 + 6 * z + 4000 * kc) (hz : z + 1 ≤ 512) (hw : mcal mT d W (.ref 100 :: (args ++ [.ref 251])) (G, I, L) = some (.inl (some (.int 0)), (G, I, up2 L 251 0 (Int32.toInt64 v)))) (hr : ∀ L', mcal mT d R (.ref 219 :: args) (G, I, L') = some (.inl (some (.int v)), (G, va_up I 219 (va_up (I 219) 0 0), L'))) : Ste d W R args (z + 1) G I L := by
  refine ⟨0, v, G, I, _, _, _, hw, rfl, rfl, hr _, up_ne (by decide), by rw [up_eq, up_eq], fun _ => by rw [up2_e, up_eq, up_eq], h, hs, bl, bs, cl, cs, nr, n, nh, M, hN, w, lc, mc, kc, ta, rm, pi, mk, Rel_q q q.1 (Nat.le_succ z) hz (Qui_t 0 fun a ha => up_ne ha), by omega, by omega⟩
theorem i_rng {x : Int32} {n : Nat} (h : ¬ (x < 0 ∨ Int32.ofNat n < x)) (hn : n < 2147483647) : ∃ k, k < n + 1 ∧ x = Int32.ofNat k := by
  refine i_in (fun q => h (Or.inl q)) (by omega) ?_
  have q : ¬ Int32.ofNat n < x := fun q => h (Or.inr q)
  rw [Int32.lt_iff_toInt_lt, i_of (by omega)] at q ⊢
  omega
theorem i_out {x : Int32} {n k : Nat} (h : x < 0 ∨ Int32.ofNat n < x) (hk : k ≤ n) (hn : n < 2147483648) : ¬ x = Int32.ofNat k := by
  intro q
  rcases h with a | a
  · rw [q] at a
    exact i_neg (by omega) a
  · rw [q, i_lt (by omega) (by omega)] at a
    omega
/-- what within answers -/
theorem wi_0 {x a b : Int32} (h : x < a ∨ b < x) : (if x < a then (0 : Int32) else if b < x then 0 else 1) = 0 := by
  by_cases c : x < a
  · rw [if_pos c]
  · rw [if_neg c, if_pos (h.resolve_left c)]
theorem wi_1 {x a b : Int32} (h : ¬ (x < a ∨ b < x)) : (if x < a then (0 : Int32) else if b < x then 0 else 1) = 1 := by
  rw [if_neg fun c => h (Or.inl c), if_neg fun c => h (Or.inr c)]
theorem ca_told (d : Nat) (q : Rel z h hs bl bs cl cs nr n nh M hN w lc mc kc ta rm pi mk G I L) (g1 : G.1 ≤ 252 + z + 25 * kc) (g2 : G.2.1 ≤ 60000 + 6 * z + 4000 * kc) (hz : z + 1 ≤ 512) (x : Int32) : Ste (d + 3) 296 201 [.int x] (z + 1) G I L := by
  obtain ⟨lB, -, lP, -, ⟨lH1, lH2⟩, -, -, -, -, -, -, lM, ⟨o1, o2⟩, -, hh, -⟩ := id q.1
  have ho := q.2.1
  obtain ⟨s1, s2, s3, s4, s5, s6⟩ := ho_sz ho
  have lH : LayH G h := by
    rcases hh with ⟨a, -⟩ | ⟨a, -⟩
    · rw [a]; exact lH1
    · rw [a]; exact lH2
  by_cases c : x < 0 ∨ Int32.ofNat 5 < x
  · have n0 : ¬ x = 0 := i_out (k := 0) c (by decide) (by decide)
    have n1 : ¬ x = 1 := i_out (k := 1) c (by decide) (by decide)
    have n2 : ¬ x = 2 := i_out (k := 2) c (by decide) (by decide)
    have n3 : ¬ x = 3 := i_out (k := 3) c (by decide) (by decide)
    have n4 : ¬ x = 4 := i_out (k := 4) c (by decide) (by decide)
    have n5 : ¬ x = 5 := i_out (k := 5) c (by decide) (by decide)
    have hc : mcal mT (d + 2) 106 [.ref 100, .int x] (G, I, L) = some (.inr "java/lang/IllegalArgumentException", (G, I, L)) := by
      simp only [q_X11_told_, e_X11_told_0, ↓vB lB, ↓vP lP, if_neg n0, if_neg n1, if_neg n2, if_neg n3, if_neg n4, if_neg n5, e_X11_told_78]
    refine Ste_e (k := 1) q g1 g2 hz (by decide) (w_told_A (d + 2) hc lB.1) fun lM => ?_
    have wi := wi_0 (x := x) (a := 0) (b := 5) c
    simp only [q_X12_told_, e_X12_told_0, ↓vM lM, r_within, mcI_v, wi, up2_e, ↓mcI_of (r_may0 (d + 1) 1 lM (I := va_up I 219 (va_up (I 219) 0 0)) (by rw [up_eq, up_eq]) (by decide)), up_eq, up_up, if_true]
  · obtain ⟨k, hk, rfl⟩ := i_rng c (by decide)
    have wi := wi_1 (x := Int32.ofNat k) (a := 0) (b := 5) c
    have key : ∀ v, mcal mT (d + 2) 106 [.ref 100, .int (Int32.ofNat k)] (G, I, L) = some (.inl (some (.int v)), (G, I, L)) → (∀ L', f_X12_told (d + 2) 21 [.ref 219, .int (Int32.ofNat k), mU] [] (G, va_up I 219 (va_up (I 219) 0 0), L') = some (.inl (some (.int v)), (G, va_up I 219 (va_up (I 219) 0 0), L'))) → Ste (d + 3) 296 201 [.int (Int32.ofNat k)] (z + 1) G I L := by
      intro v hc hr
      refine Ste_q q g1 g2 hz (w_told (d + 2) hc lB.1 o1 o2) fun L' => ?_
      have z1 : ¬ (1 : Int32) = 0 := by decide
      simp only [q_X12_told_, e_X12_told_0, ↓vM lM, r_within, mcI_v, wi, up2_e, ↓mcI_of (r_may1 (d + 1) 1 lM (I := va_up I 219 (va_up (I 219) 0 0)) (by rw [up_eq, up_eq])), if_neg z1]
      exact hr L'
    have t33 : ∀ L', f_X12_told (d + 2) 21 [.ref 219, .int (Int32.ofNat k), mU] [] (G, va_up I 219 (va_up (I 219) 0 0), L') = f_X12_told (d + 2) 33 [.ref 219, .int (Int32.ofNat k), mU] [.int (if nr = 0 then 1 else 0)] (G, va_up I 219 (va_up (I 219) 0 0), L') := by
      intro L'
      rw [e_X12_told_21]
      simp (disch := omega) only [↓vM lM, ↓mcI_of (r_rooms (d + 1) lM), up_ne, s2]
      by_cases c0 : nr = 0
      · rw [if_pos (by rw [c0]; rfl), if_pos c0]
      · have c1 : ¬ Int32.ofNat nr = 0 := fun p => c0 ((i_eq (b := 0) (by omega) (by decide)).mp p)
        rw [if_neg c1, if_neg c0, e_X12_told_32]
    have z1 : ¬ (1 : Int32) = 0 := by decide
    match k, hk with
    | 0, _ =>
      refine key (I h 1) (by simp only [q_X11_told_, e_X11_told_0, ↓vB lB, ↓vP lP, e_X11_told_48, ↓vH lH, show Int32.ofNat 0 = 0 from rfl, if_true]) fun L' => ?_
      rw [t33, e_X12_told_33]
      simp (disch := omega) only [show Int32.ofNat 0 = 0 from rfl, if_true, e_X12_told_68, ↓vM lM, ↓mcI_of (r_rooms (d + 1) lM), up_ne, s1, s2]
    | 1, _ =>
      refine key (I h 10) (by simp only [q_X11_told_, e_X11_told_0, ↓vB lB, ↓vP lP, e_X11_told_53, ↓vH lH, if_neg (show ¬ Int32.ofNat 1 = 0 by decide), if_pos (show Int32.ofNat 1 = 1 by decide)]) fun L' => ?_
      rw [t33, e_X12_told_33]
      simp (disch := omega) only [if_neg (show ¬ Int32.ofNat 1 = 0 by decide), if_pos (show Int32.ofNat 1 = 1 by decide), e_X12_told_73, ↓vM lM, ↓mcI_of (r_radiators (d + 1) lM), up_ne, s4, s5]
    | 2, _ =>
      refine key (I h 16) (by simp only [q_X11_told_, e_X11_told_0, ↓vB lB, ↓vP lP, e_X11_told_58, ↓vH lH, if_neg (show ¬ Int32.ofNat 2 = 0 by decide), if_neg (show ¬ Int32.ofNat 2 = 1 by decide), if_pos (show Int32.ofNat 2 = 2 by decide)]) fun L' => ?_
      rw [t33, e_X12_told_33]
      simp only [if_neg (show ¬ Int32.ofNat 2 = 0 by decide), if_neg (show ¬ Int32.ofNat 2 = 1 by decide), if_pos (show Int32.ofNat 2 = 2 by decide), e_X12_told_78]
      rcases ho with ⟨a, -, -, -, -, b, -⟩ | ⟨a, -, -, b, -⟩
      · simp only [if_pos a, if_neg z1, e_X12_told_95, b]
      · simp (disch := omega) only [if_neg (show ¬ nr = 0 by omega), if_true, e_X12_told_87, ↓vM lM, up_ne, e_X12_told_95, b]
    | 3, _ =>
      refine key (I h 17) (by simp only [q_X11_told_, e_X11_told_0, ↓vB lB, ↓vP lP, e_X11_told_63, ↓vH lH, if_neg (show ¬ Int32.ofNat 3 = 0 by decide), if_neg (show ¬ Int32.ofNat 3 = 1 by decide), if_neg (show ¬ Int32.ofNat 3 = 2 by decide), if_pos (show Int32.ofNat 3 = 3 by decide)]) fun L' => ?_
      rw [t33, e_X12_told_33]
      simp only [if_neg (show ¬ Int32.ofNat 3 = 0 by decide), if_neg (show ¬ Int32.ofNat 3 = 1 by decide), if_neg (show ¬ Int32.ofNat 3 = 2 by decide), if_pos (show Int32.ofNat 3 = 3 by decide), e_X12_told_96]
      rcases ho with ⟨a, -, -, -, -, -, b, -⟩ | ⟨a, b, -⟩
      · simp only [if_pos a, if_neg z1, e_X12_told_114, b]
      · have b' := b.2.2.2.2.2.2.2.2.1
        simp (disch := omega) only [if_neg (show ¬ nr = 0 by omega), if_true, e_X12_told_106, ↓vM lM, up_ne, e_X12_told_114, b']
    | 4, _ =>
      refine key (I h 18) (by simp only [q_X11_told_, e_X11_told_0, ↓vB lB, ↓vP lP, e_X11_told_68, ↓vH lH, if_neg (show ¬ Int32.ofNat 4 = 0 by decide), if_neg (show ¬ Int32.ofNat 4 = 1 by decide), if_neg (show ¬ Int32.ofNat 4 = 2 by decide), if_neg (show ¬ Int32.ofNat 4 = 3 by decide), if_pos (show Int32.ofNat 4 = 4 by decide)]) fun L' => ?_
      rw [t33, e_X12_told_33]
      simp only [if_neg (show ¬ Int32.ofNat 4 = 0 by decide), if_neg (show ¬ Int32.ofNat 4 = 1 by decide), if_neg (show ¬ Int32.ofNat 4 = 2 by decide), if_neg (show ¬ Int32.ofNat 4 = 3 by decide), if_pos (show Int32.ofNat 4 = 4 by decide), e_X12_told_115]
      rcases ho with ⟨a, -, -, -, -, -, -, b, -⟩ | ⟨a, b, -⟩
      · simp only [if_pos a, if_neg z1, e_X12_told_133, b]
      · have b' := b.2.2.2.2.2.2.2.2.2.2.1
        simp (disch := omega) only [if_neg (show ¬ nr = 0 by omega), if_true, e_X12_told_125, ↓vM lM, up_ne, e_X12_told_133, b']
    | 5, _ =>
      refine key (I h 0) (by simp only [q_X11_told_, e_X11_told_0, ↓vB lB, ↓vP lP, e_X11_told_73, ↓vH lH, if_neg (show ¬ Int32.ofNat 5 = 0 by decide), if_neg (show ¬ Int32.ofNat 5 = 1 by decide), if_neg (show ¬ Int32.ofNat 5 = 2 by decide), if_neg (show ¬ Int32.ofNat 5 = 3 by decide), if_neg (show ¬ Int32.ofNat 5 = 4 by decide), if_pos (show Int32.ofNat 5 = 5 by decide)]) fun L' => ?_
      rw [t33, e_X12_told_33]
      have b : I h 0 = I 220 165 := by
        rcases ho with ⟨-, -, b, -, -, -, -, -, -, -, b'⟩ | ⟨-, -, b, -⟩
        · rw [b, b']
        · exact b
      simp (disch := omega) only [if_neg (show ¬ Int32.ofNat 5 = 0 by decide), if_neg (show ¬ Int32.ofNat 5 = 1 by decide), if_neg (show ¬ Int32.ofNat 5 = 2 by decide), if_neg (show ¬ Int32.ofNat 5 = 3 by decide), if_neg (show ¬ Int32.ofNat 5 = 4 by decide), e_X12_told_134, ↓vM lM, up_ne, b]
end
