/-! calls: hunts, radiator -/
section
variable {z h hs bl bs cl cs nr n nh M hN w lc mc kc ta : Nat} {rm pi mk : Nat → Nat} {G : mG} {I : Nat → Nat → Int32} {L : Nat → Nat → Int64}
/-- nothing changes; the reference reads the long rows -/
theorem Ste_p {d W R : Nat} {args : List Value} {v : Int32} (q : Rel z h hs bl bs cl cs nr n nh M hN w lc mc kc ta rm pi mk G I L) (g1 : G.1 ≤ 252 + z + 25 * kc) (g2 : G.2.1 ≤ 60000 + 6 * z + 4000 * kc) (hz : z + 1 ≤ 512) (hw : mcal mT d W (.ref 100 :: (args ++ [.ref 251])) (G, I, L) = some (.inl (some (.int 0)), (G, I, up2 L 251 0 (Int32.toInt64 v)))) (hr : mcal mT d R (.ref 219 :: args) (G, I, up2 L 251 0 (Int32.toInt64 v)) = some (.inl (some (.int v)), (G, va_up I 219 (va_up (I 219) 0 0), up2 L 251 0 (Int32.toInt64 v)))) : Ste d W R args (z + 1) G I L := by
  refine ⟨0, v, G, I, _, _, _, hw, rfl, rfl, hr, up_ne (by decide), by rw [up_eq, up_eq], fun _ => by rw [up2_e, up_eq, up_eq], h, hs, bl, bs, cl, cs, nr, n, nh, M, hN, w, lc, mc, kc, ta, rm, pi, mk, Rel_q q q.1 (Nat.le_succ z) hz (Qui_t 0 (fun a ha => up_ne ha)), by omega, by omega⟩
def hum (x : Int32) (F : Nat → Nat) : Nat → Int32
  | 0 => 0
  | k + 1 => if Int32.ofNat (F k) < x then hum x F k else hum x F k ||| (1 <<< (Int32.ofNat k &&& 31))
theorem ca_hunts (d : Nat) (q : Rel z h hs bl bs cl cs nr n nh M hN w lc mc kc ta rm pi mk G I L) (g1 : G.1 ≤ 252 + z + 25 * kc) (g2 : G.2.1 ≤ 60000 + 6 * z + 4000 * kc) (hz : z + 1 ≤ 512) (x : Int32) : Ste (d + 6) 307 243 [.int x] (z + 1) G I L := by
  obtain ⟨lB, lX, lP, -, ⟨lH1, lH2⟩, ⟨lS, -⟩, ⟨lT, -⟩, ⟨lU, -⟩, lD, -, -, lM, ⟨o1, o2⟩, -, hh, -⟩ := id q.1
  have ho := q.2.1
  obtain ⟨s1, s2, s3, s4, s5, s6⟩ := ho_sz ho
  have lH : LayH G h := by
    rcases hh with ⟨a, -⟩ | ⟨a, -⟩
    · rw [a]; exact lH1
    · rw [a]; exact lH2
  have hb : 103 ≤ h ∧ h + 14 ≤ 132 := by omega
  obtain ⟨-, -, ⟨hF, hHN⟩, hS, ⟨hT, hMz⟩, hU, hD, hTp, hEg, hLg, -, -, -, -⟩ := id q
  have z1 : ¬ (1 : Int32) = 0 := by decide
  have I00 : (va_up I 219 (va_up (I 219) 0 0)) 219 0 = 0 := by rw [up_eq, up_eq]
  have I01 : (va_up I 219 (va_up (I 219) 0 0)) 220 = I 220 := up_ne (by decide)
  by_cases c0 : x < 1 ∨ 60 < x
  · have hc : mcal mT (d + 5) 112 [.ref 100, .int x] (G, I, L) = some (.inr "java/lang/IllegalArgumentException", (G, I, L)) := by
      simp only [q_X11_hunts_, e_X11_hunts_0, nw_no (d + 3) c0 (G, I, L), mcV_e, mthr_e]
    refine Ste_e (k := 1) q g1 g2 hz (by decide) (w_hunts_A (d + 5) hc lB.1) fun lM => ?_
    simp only [q_X12_hunts_, e_X12_hunts_0, ↓vM lM, up2_e, r_within, mcI_v, wi_0 c0, ↓mcI_of (r_may0 (d + 4) 1 lM (I := (va_up I 219 (va_up (I 219) 0 0))) (L := L) I00 (by decide)), up_eq, up_up, if_true]
  have t8 := hT.2.2.2.2.2.2.2.1
  have c8 : ∀ k, k < n → L 148 k = L 225 k ∧ nv (L 225 k) < 2 ^ 60 := by
    intro k hk
    obtain ⟨-, -, e1, e2⟩ := t8 k hk
    have e1' : L 148 k = L 225 k := e1
    have e2' : L 148 k &&& 1152921504606846975 = L 148 k := e2
    rw [e1'] at e2'
    exact ⟨e1', nv_60 e2'⟩
  have A : ∀ j i, j + i = n → f_X11_hunts (d + 4) 11 [.ref 100, .int x, .int (hum x (fun k => bsum (nv (L 225 k)) 60) i), .int (Int32.ofNat i)] [] (G, I, L) = some (.inl (some (.int (hum x (fun k => bsum (nv (L 225 k)) 60) n))), (G, I, L)) := by
    intro j
    induction j with
    | zero =>
      intro i hi
      have e : i = n := by omega
      rw [e_X11_hunts_11]
      simp only [↓vB lB, ↓vP lP, ↓vH lH, s4, e, if_pos i_rf, e_X11_hunts_56]
    | succ j ih =>
      intro i hi
      obtain ⟨e1, e2⟩ := c8 i (by omega)
      have cl := c_lbc (d + 3) (L 225 i) G I L
      rw [lbc_e, show (64 : Nat) = 60 + 4 from rfl, bsum_t e2] at cl
      rw [e_X11_hunts_11]
      have nx := ih (i + 1) (by omega)
      by_cases c : Int32.ofNat (bsum (nv (L 225 i)) 60) < x
      · have e3 : hum x (fun k => bsum (nv (L 225 k)) 60) (i + 1) = hum x (fun k => bsum (nv (L 225 k)) 60) i := if_pos c
        rw [e3] at nx
        simp (disch := omega) only [↓vB lB, ↓vP lP, ↓vH lH, s4, if_neg (i_ng (show i < n by omega) (by omega)), ↓vT lT]
        rw [show L (139 + 9) i = L 225 i from e1]
        simp only [↓mcI_of cl, if_pos c, e_X11_hunts_50, i_one]
        exact nx
      · have e3 : hum x (fun k => bsum (nv (L 225 k)) 60) (i + 1) = hum x (fun k => bsum (nv (L 225 k)) 60) i ||| (1 <<< (Int32.ofNat i &&& 31)) := if_neg c
        rw [e3] at nx
        simp (disch := omega) only [↓vB lB, ↓vP lP, ↓vH lH, s4, if_neg (i_ng (show i < n by omega) (by omega)), ↓vT lT]
        rw [show L (139 + 9) i = L 225 i from e1]
        simp only [↓mcI_of cl, if_neg c, e_X11_hunts_50, i_one]
        exact nx
  have hc : mcal mT (d + 5) 112 [.ref 100, .int x] (G, I, L) = some (.inl (some (.int (hum x (fun k => bsum (nv (L 225 k)) 60) n))), (G, I, L)) := by
    simp only [q_X11_hunts_, e_X11_hunts_0, nw_ok (d + 3) c0 (G, I, L), mcV_v]
    exact A n 0 (by omega)
  refine Ste_p q g1 g2 hz (w_hunts (d + 5) hc lB.1 o1 o2) ?_
  generalize hL' : up2 L 251 0 (Int32.toInt64 (hum x (fun k => bsum (nv (L 225 k)) 60) n)) = L'
  have l5 : L' 225 = L 225 := by rw [← hL', up2_e, up_ne (by decide)]
  show mcal mT (d + 6) 243 [.ref 219, .int x] (G, I, L') = _
  simp only [q_X12_hunts_, e_X12_hunts_0, ↓vM lM, up2_e, r_within, mcI_v, wi_1 c0, ↓mcI_of (r_may1 (d + 4) 1 lM (I := (va_up I 219 (va_up (I 219) 0 0))) (L := L') I00), if_neg z1, e_X12_hunts_22]
  have B : ∀ j i, j + i = n → f_X12_hunts (d + 5) 26 [.ref 219, .int x, .int (hum x (fun k => bsum (nv (L 225 k)) 60) i), .int (Int32.ofNat i)] [] (G, va_up I 219 (va_up (I 219) 0 0), L') = some (.inl (some (.int (hum x (fun k => bsum (nv (L 225 k)) 60) n))), (G, va_up I 219 (va_up (I 219) 0 0), L')) := by
    intro j
    induction j with
    | zero =>
      intro i hi
      have e : i = n := by omega
      rw [e_X12_hunts_26]
      simp (disch := omega) only [↓vM lM, ↓mcI_of (r_radiators (d + 4) lM), up_ne, s5, e, if_pos i_rf, e_X12_hunts_59]
    | succ j ih =>
      intro i hi
      obtain ⟨e1, e2⟩ := c8 i (by omega)
      have tu := r_turned (d + 4) (G := G) (I := va_up I 219 (va_up (I 219) 0 0)) (L := L') (k := i) lM (by omega) (by rw [l5]; exact e2)
      rw [l5] at tu
      rw [e_X12_hunts_26]
      have nx := ih (i + 1) (by omega)
      by_cases c : Int32.ofNat (bsum (nv (L 225 i)) 60) < x
      · have e3 : hum x (fun k => bsum (nv (L 225 k)) 60) (i + 1) = hum x (fun k => bsum (nv (L 225 k)) 60) i := if_pos c
        rw [e3] at nx
        simp (disch := omega) only [↓vM lM, ↓mcI_of (r_radiators (d + 4) lM), up_ne, s5, if_neg (i_ng (show i < n by omega) (by omega)), ↓mcI_of tu, if_pos c, e_X12_hunts_50, e_X12_hunts_51, i_one, Int32.or_zero]
        exact nx
      · have e3 : hum x (fun k => bsum (nv (L 225 k)) 60) (i + 1) = hum x (fun k => bsum (nv (L 225 k)) 60) i ||| (1 <<< (Int32.ofNat i &&& 31)) := if_neg c
        rw [e3] at nx
        simp (disch := omega) only [↓vM lM, ↓mcI_of (r_radiators (d + 4) lM), up_ne, s5, if_neg (i_ng (show i < n by omega) (by omega)), ↓mcI_of tu, if_neg c, e_X12_hunts_51, i_one]
        exact nx
  exact B n 0 (by omega)
theorem ca_radiator (d : Nat) (q : Rel z h hs bl bs cl cs nr n nh M hN w lc mc kc ta rm pi mk G I L) (g1 : G.1 ≤ 252 + z + 25 * kc) (g2 : G.2.1 ≤ 60000 + 6 * z + 4000 * kc) (hz : z + 1 ≤ 512) (x y : Int32) : Ste (d + 6) 299 237 [.int x, .int y] (z + 1) G I L := by
  obtain ⟨lB, lX, lP, -, ⟨lH1, lH2⟩, ⟨lS, -⟩, ⟨lT, -⟩, ⟨lU, -⟩, lD, -, -, lM, ⟨o1, o2⟩, -, hh, -⟩ := id q.1
  have ho := q.2.1
  obtain ⟨s1, s2, s3, s4, s5, s6⟩ := ho_sz ho
  have lH : LayH G h := by
    rcases hh with ⟨a, -⟩ | ⟨a, -⟩
    · rw [a]; exact lH1
    · rw [a]; exact lH2
  have hb : 103 ≤ h ∧ h + 14 ≤ 132 := by omega
  obtain ⟨-, -, ⟨hF, hHN⟩, hS, ⟨hT, hMz⟩, hU, hD, hTp, hEg, hLg, -, -, -, -⟩ := id q
  have z1 : ¬ (1 : Int32) = 0 := by decide
  have I00 : (va_up I 219 (va_up (I 219) 0 0)) 219 0 = 0 := by rw [up_eq, up_eq]
  have I01 : (va_up I 219 (va_up (I 219) 0 0)) 220 = I 220 := up_ne (by decide)
  by_cases c0 : x < 0 ∨ ¬ x < Int32.ofNat n
  · have hc : mcal mT (d + 5) 109 [.ref 100, .int x, .int y] (G, I, L) = some (.inr "java/util/NoSuchElementException", (G, I, L)) := by
      simp only [q_X11_radiator_, e_X11_radiator_0, ↓vB lB, nk_no (d + 3) (L := L) lB lP lH s4 c0, mcV_e, mthr_e]
    refine Ste_e (k := 1) q g1 g2 hz (by decide) (w_radiator_N (d + 5) hc lB.1) fun lM => ?_
    simp only [q_X12_radiator_, e_X12_radiator_0, ↓vM lM, up2_e, ↓mcI_of (rk_no (d + 3) (L := L) (I := (va_up I 219 (va_up (I 219) 0 0))) lM I00 (by rw [I01]; exact s5) s6 c0), if_true, e_X12_radiator_28, up_eq, up_up]
  obtain ⟨k0, hk0, rfl⟩ := i_rm (by omega) c0
  by_cases c1 : y < 0 ∨ 10 < y
  · have hn : ∀ m, m ≤ 10 → ¬ y = Int32.ofNat m := fun m hm => i_out (n := 10) c1 hm (by decide)
    have hc : mcal mT (d + 5) 109 [.ref 100, .int (Int32.ofNat k0), .int y] (G, I, L) = some (.inr "java/lang/IllegalArgumentException", (G, I, L)) := by
      simp only [q_X11_radiator_, e_X11_radiator_0, ↓vB lB, nk_ok (d + 3) (L := L) lB lP lH s4 c0, mcV_v, ↓vP lP, ↓if_neg (show ¬ y = 0 from hn 0 (by decide)), ↓if_neg (show ¬ y = 1 from hn 1 (by decide)), ↓if_neg (show ¬ y = 2 from hn 2 (by decide)), ↓if_neg (show ¬ y = 3 from hn 3 (by decide)), ↓if_neg (show ¬ y = 4 from hn 4 (by decide)), ↓if_neg (show ¬ y = 5 from hn 5 (by decide)), ↓if_neg (show ¬ y = 6 from hn 6 (by decide)), ↓if_neg (show ¬ y = 7 from hn 7 (by decide)), ↓if_neg (show ¬ y = 8 from hn 8 (by decide)), ↓if_neg (show ¬ y = 9 from hn 9 (by decide)), ↓if_neg (show ¬ y = 10 from hn 10 (by decide)), e_X11_radiator_169]
    refine Ste_e (k := 2) q g1 g2 hz (by decide) (w_radiator_A (d + 5) hc lB.1) fun lM => ?_
    simp only [q_X12_radiator_, e_X12_radiator_0, ↓vM lM, up2_e, ↓mcI_of (rk_ok (d + 3) (L := L) (I := (va_up I 219 (va_up (I 219) 0 0))) lM I00 (by rw [I01]; exact s5) s6 c0), if_neg z1, r_within, mcI_v, wi_0 c1, ↓mcI_of (r_may0 (d + 4) 2 lM (I := (va_up I 219 (va_up (I 219) 0 0))) (L := L) I00 (by decide)), if_true, e_X12_radiator_28, up_eq, up_up]
  have hHs : HsR I I h 219 nr n rm pi := by
    rcases ho with ⟨-, a, -⟩ | ⟨-, b, -⟩
    · omega
    · exact b
  obtain ⟨-, -, -, -, -, b6, b7, b8, -⟩ := hHs
  have t7 := hT.2.2.2.2.2.2.1
  obtain ⟨t8, -, t9, t10⟩ := hT.2.2.2.2.2.2.2.1 k0 hk0
  have t8' : Int32.toInt64 (I 151 k0) = L 225 (8 + k0) := t8
  have e1' : L 148 k0 = L 225 k0 := t9
  have e2' : L 148 k0 &&& 1152921504606846975 = L 148 k0 := t10
  rw [e1'] at e2'
  have n60 := nv_60 e2'
  have eE : I 215 k0 = I 230 k0 := (hEg.1 k0 (by omega)).1
  have rd : ∀ L', mcal mT (d + 6) 237 [.ref 219, .int (Int32.ofNat k0), .int y] (G, I, L') = f_X12_radiator (d + 5) 30 [.ref 219, .int (Int32.ofNat k0), .int y] [] (G, va_up I 219 (va_up (I 219) 0 0), L') := by
    intro L'
    simp only [q_X12_radiator_, e_X12_radiator_0, ↓vM lM, up2_e, ↓mcI_of (rk_ok (d + 3) (L := L') (I := (va_up I 219 (va_up (I 219) 0 0))) lM I00 (by rw [I01]; exact s5) s6 c0), if_neg z1, r_within, mcI_v, wi_1 c1, ↓mcI_of (r_may1 (d + 4) 2 lM (I := (va_up I 219 (va_up (I 219) 0 0))) (L := L') I00)]
  obtain ⟨m, hm, rfl⟩ := i_rng (n := 10) c1 (by decide)
  have cd : ∀ X, mcal mT (d + 5) 109 [.ref 100, .int (Int32.ofNat k0), .int (Int32.ofNat m)] (G, I, L) = X ↔ f_X11_radiator (d + 4) 0 [.ref 100, .int (Int32.ofNat k0), .int (Int32.ofNat m), mU, mU] [] (G, I, L) = X := fun X => by rw [q_X11_radiator_]
  rcases (show m = 0 ∨ m = 1 ∨ m = 2 ∨ m = 3 ∨ m = 4 ∨ m = 5 ∨ m = 6 ∨ m = 7 ∨ m = 8 ∨ m = 9 ∨ m = 10 by omega) with rfl | rfl | rfl | rfl | rfl | rfl | rfl | rfl | rfl | rfl | rfl
  · have e : I (h + 9) k0 = I 220 (120 + k0) := (b6 k0 hk0).1.trans (b6 k0 hk0).2.1.symm
    have hc : mcal mT (d + 5) 109 [.ref 100, .int (Int32.ofNat k0), .int (Int32.ofNat 0)] (G, I, L) = some (.inl (some (.int (I 220 (120 + k0)))), (G, I, L)) := by
      simp (disch := omega) only [q_X11_radiator_, e_X11_radiator_0, ↓vB lB, nk_ok (d + 3) (L := L) lB lP lH s4 c0, mcV_v, ↓vP lP, ↓if_pos (show Int32.ofNat 0 = 0 by decide), e_X11_radiator_80, ↓vH lH, ↓vT lT, ↓vS lS]
      rw [← e]
    refine Ste_p q g1 g2 hz (w_radiator (d + 5) hc lB.1 o1 o2) ((rd _).trans ?_)
    simp (disch := omega) only [e_X12_radiator_30, ↓if_pos (show Int32.ofNat 0 = 0 by decide), e_X12_radiator_84, ↓vM lM, ixA, up_ne]
  · have e : I (h + 10) k0 = I 220 (128 + k0) := (b7 k0 hk0).1.trans (b7 k0 hk0).2.1.symm
    have hc : mcal mT (d + 5) 109 [.ref 100, .int (Int32.ofNat k0), .int (Int32.ofNat 1)] (G, I, L) = some (.inl (some (.int (I 220 (128 + k0)))), (G, I, L)) := by
      simp (disch := omega) only [q_X11_radiator_, e_X11_radiator_0, ↓vB lB, nk_ok (d + 3) (L := L) lB lP lH s4 c0, mcV_v, ↓vP lP, ↓if_neg (show ¬ Int32.ofNat 1 = 0 by decide), ↓if_pos (show Int32.ofNat 1 = 1 by decide), e_X11_radiator_87, ↓vH lH, ↓vT lT, ↓vS lS]
      rw [← e]
    refine Ste_p q g1 g2 hz (w_radiator (d + 5) hc lB.1 o1 o2) ((rd _).trans ?_)
    simp (disch := omega) only [e_X12_radiator_30, ↓if_neg (show ¬ Int32.ofNat 1 = 0 by decide), ↓if_pos (show Int32.ofNat 1 = 1 by decide), e_X12_radiator_94, ↓vM lM, ixA, up_ne]
  · have e : I (h + 11) k0 = I 220 (136 + k0) := (b8 k0 hk0).1
    have hc : mcal mT (d + 5) 109 [.ref 100, .int (Int32.ofNat k0), .int (Int32.ofNat 2)] (G, I, L) = some (.inl (some (.int (I 220 (136 + k0)))), (G, I, L)) := by
      simp (disch := omega) only [q_X11_radiator_, e_X11_radiator_0, ↓vB lB, nk_ok (d + 3) (L := L) lB lP lH s4 c0, mcV_v, ↓vP lP, ↓if_neg (show ¬ Int32.ofNat 2 = 0 by decide), ↓if_neg (show ¬ Int32.ofNat 2 = 1 by decide), ↓if_pos (show Int32.ofNat 2 = 2 by decide), e_X11_radiator_94, ↓vH lH, ↓vT lT, ↓vS lS]
      rw [← e]
    refine Ste_p q g1 g2 hz (w_radiator (d + 5) hc lB.1 o1 o2) ((rd _).trans ?_)
    simp (disch := omega) only [e_X12_radiator_30, ↓if_neg (show ¬ Int32.ofNat 2 = 0 by decide), ↓if_neg (show ¬ Int32.ofNat 2 = 1 by decide), ↓if_pos (show Int32.ofNat 2 = 2 by decide), e_X12_radiator_105, ↓vM lM, ixA, up_ne]
  · have e : I (h + 12) k0 = I 220 (144 + k0) := (b8 k0 hk0).2.2.1
    have hc : mcal mT (d + 5) 109 [.ref 100, .int (Int32.ofNat k0), .int (Int32.ofNat 3)] (G, I, L) = some (.inl (some (.int (I 220 (144 + k0)))), (G, I, L)) := by
      simp (disch := omega) only [q_X11_radiator_, e_X11_radiator_0, ↓vB lB, nk_ok (d + 3) (L := L) lB lP lH s4 c0, mcV_v, ↓vP lP, ↓if_neg (show ¬ Int32.ofNat 3 = 0 by decide), ↓if_neg (show ¬ Int32.ofNat 3 = 1 by decide), ↓if_neg (show ¬ Int32.ofNat 3 = 2 by decide), ↓if_pos (show Int32.ofNat 3 = 3 by decide), e_X11_radiator_101, ↓vH lH, ↓vT lT, ↓vS lS]
      rw [← e]
    refine Ste_p q g1 g2 hz (w_radiator (d + 5) hc lB.1 o1 o2) ((rd _).trans ?_)
    simp (disch := omega) only [e_X12_radiator_30, ↓if_neg (show ¬ Int32.ofNat 3 = 0 by decide), ↓if_neg (show ¬ Int32.ofNat 3 = 1 by decide), ↓if_neg (show ¬ Int32.ofNat 3 = 2 by decide), ↓if_pos (show Int32.ofNat 3 = 3 by decide), e_X12_radiator_116, ↓vM lM, ixA, up_ne]
  · have e : I (h + 13) k0 = I 220 (152 + k0) := (b8 k0 hk0).2.2.2
    have hc : mcal mT (d + 5) 109 [.ref 100, .int (Int32.ofNat k0), .int (Int32.ofNat 4)] (G, I, L) = some (.inl (some (.int (I 220 (152 + k0)))), (G, I, L)) := by
      simp (disch := omega) only [q_X11_radiator_, e_X11_radiator_0, ↓vB lB, nk_ok (d + 3) (L := L) lB lP lH s4 c0, mcV_v, ↓vP lP, ↓if_neg (show ¬ Int32.ofNat 4 = 0 by decide), ↓if_neg (show ¬ Int32.ofNat 4 = 1 by decide), ↓if_neg (show ¬ Int32.ofNat 4 = 2 by decide), ↓if_neg (show ¬ Int32.ofNat 4 = 3 by decide), ↓if_pos (show Int32.ofNat 4 = 4 by decide), e_X11_radiator_108, ↓vH lH, ↓vT lT, ↓vS lS]
      rw [← e]
    refine Ste_p q g1 g2 hz (w_radiator (d + 5) hc lB.1 o1 o2) ((rd _).trans ?_)
    simp (disch := omega) only [e_X12_radiator_30, ↓if_neg (show ¬ Int32.ofNat 4 = 0 by decide), ↓if_neg (show ¬ Int32.ofNat 4 = 1 by decide), ↓if_neg (show ¬ Int32.ofNat 4 = 2 by decide), ↓if_neg (show ¬ Int32.ofNat 4 = 3 by decide), ↓if_pos (show Int32.ofNat 4 = 4 by decide), e_X12_radiator_127, ↓vM lM, ixA, up_ne]
  · have e : I 146 k0 = I 223 (8 + k0) := (t7 k0 hk0).1
    have hc : mcal mT (d + 5) 109 [.ref 100, .int (Int32.ofNat k0), .int (Int32.ofNat 5)] (G, I, L) = some (.inl (some (.int (I 223 (8 + k0)))), (G, I, L)) := by
      simp (disch := omega) only [q_X11_radiator_, e_X11_radiator_0, ↓vB lB, nk_ok (d + 3) (L := L) lB lP lH s4 c0, mcV_v, ↓vP lP, ↓if_neg (show ¬ Int32.ofNat 5 = 0 by decide), ↓if_neg (show ¬ Int32.ofNat 5 = 1 by decide), ↓if_neg (show ¬ Int32.ofNat 5 = 2 by decide), ↓if_neg (show ¬ Int32.ofNat 5 = 3 by decide), ↓if_neg (show ¬ Int32.ofNat 5 = 4 by decide), ↓if_pos (show Int32.ofNat 5 = 5 by decide), e_X11_radiator_115, ↓vH lH, ↓vT lT, ↓vS lS]
      rw [← e]
    refine Ste_p q g1 g2 hz (w_radiator (d + 5) hc lB.1 o1 o2) ((rd _).trans ?_)
    simp (disch := omega) only [e_X12_radiator_30, ↓if_neg (show ¬ Int32.ofNat 5 = 0 by decide), ↓if_neg (show ¬ Int32.ofNat 5 = 1 by decide), ↓if_neg (show ¬ Int32.ofNat 5 = 2 by decide), ↓if_neg (show ¬ Int32.ofNat 5 = 3 by decide), ↓if_neg (show ¬ Int32.ofNat 5 = 4 by decide), ↓if_pos (show Int32.ofNat 5 = 5 by decide), e_X12_radiator_138, ↓vM lM, ixA, up_ne]
  · have e : I 133 k0 = I 223 (24 + k0) := (hS.1 k0 hk0).1
    have hc : mcal mT (d + 5) 109 [.ref 100, .int (Int32.ofNat k0), .int (Int32.ofNat 6)] (G, I, L) = some (.inl (some (.int (I 223 (24 + k0)))), (G, I, L)) := by
      simp (disch := omega) only [q_X11_radiator_, e_X11_radiator_0, ↓vB lB, nk_ok (d + 3) (L := L) lB lP lH s4 c0, mcV_v, ↓vP lP, ↓if_neg (show ¬ Int32.ofNat 6 = 0 by decide), ↓if_neg (show ¬ Int32.ofNat 6 = 1 by decide), ↓if_neg (show ¬ Int32.ofNat 6 = 2 by decide), ↓if_neg (show ¬ Int32.ofNat 6 = 3 by decide), ↓if_neg (show ¬ Int32.ofNat 6 = 4 by decide), ↓if_neg (show ¬ Int32.ofNat 6 = 5 by decide), ↓if_pos (show Int32.ofNat 6 = 6 by decide), e_X11_radiator_123, ↓vH lH, ↓vT lT, ↓vS lS]
      rw [← e]
    refine Ste_p q g1 g2 hz (w_radiator (d + 5) hc lB.1 o1 o2) ((rd _).trans ?_)
    simp (disch := omega) only [e_X12_radiator_30, ↓if_neg (show ¬ Int32.ofNat 6 = 0 by decide), ↓if_neg (show ¬ Int32.ofNat 6 = 1 by decide), ↓if_neg (show ¬ Int32.ofNat 6 = 2 by decide), ↓if_neg (show ¬ Int32.ofNat 6 = 3 by decide), ↓if_neg (show ¬ Int32.ofNat 6 = 4 by decide), ↓if_neg (show ¬ Int32.ofNat 6 = 5 by decide), ↓if_pos (show Int32.ofNat 6 = 6 by decide), e_X12_radiator_148, ↓vM lM, ixA, up_ne]
  · have e : I 149 k0 = I 223 (114 + k0) := (t7 k0 hk0).2.2.2.2.1
    have hc : mcal mT (d + 5) 109 [.ref 100, .int (Int32.ofNat k0), .int (Int32.ofNat 7)] (G, I, L) = some (.inl (some (.int (I 223 (114 + k0)))), (G, I, L)) := by
      simp (disch := omega) only [q_X11_radiator_, e_X11_radiator_0, ↓vB lB, nk_ok (d + 3) (L := L) lB lP lH s4 c0, mcV_v, ↓vP lP, ↓if_neg (show ¬ Int32.ofNat 7 = 0 by decide), ↓if_neg (show ¬ Int32.ofNat 7 = 1 by decide), ↓if_neg (show ¬ Int32.ofNat 7 = 2 by decide), ↓if_neg (show ¬ Int32.ofNat 7 = 3 by decide), ↓if_neg (show ¬ Int32.ofNat 7 = 4 by decide), ↓if_neg (show ¬ Int32.ofNat 7 = 5 by decide), ↓if_neg (show ¬ Int32.ofNat 7 = 6 by decide), ↓if_pos (show Int32.ofNat 7 = 7 by decide), e_X11_radiator_136, ↓vH lH, ↓vT lT, ↓vS lS]
      rw [← e]
    refine Ste_p q g1 g2 hz (w_radiator (d + 5) hc lB.1 o1 o2) ((rd _).trans ?_)
    simp (disch := omega) only [e_X12_radiator_30, ↓if_neg (show ¬ Int32.ofNat 7 = 0 by decide), ↓if_neg (show ¬ Int32.ofNat 7 = 1 by decide), ↓if_neg (show ¬ Int32.ofNat 7 = 2 by decide), ↓if_neg (show ¬ Int32.ofNat 7 = 3 by decide), ↓if_neg (show ¬ Int32.ofNat 7 = 4 by decide), ↓if_neg (show ¬ Int32.ofNat 7 = 5 by decide), ↓if_neg (show ¬ Int32.ofNat 7 = 6 by decide), ↓if_pos (show Int32.ofNat 7 = 7 by decide), e_X12_radiator_158, ↓vM lM, ixA, up_ne]
  · have e : I 150 k0 = I 223 (122 + k0) := (t7 k0 hk0).2.2.2.2.2
    have hc : mcal mT (d + 5) 109 [.ref 100, .int (Int32.ofNat k0), .int (Int32.ofNat 8)] (G, I, L) = some (.inl (some (.int (I 223 (122 + k0)))), (G, I, L)) := by
      simp (disch := omega) only [q_X11_radiator_, e_X11_radiator_0, ↓vB lB, nk_ok (d + 3) (L := L) lB lP lH s4 c0, mcV_v, ↓vP lP, ↓if_neg (show ¬ Int32.ofNat 8 = 0 by decide), ↓if_neg (show ¬ Int32.ofNat 8 = 1 by decide), ↓if_neg (show ¬ Int32.ofNat 8 = 2 by decide), ↓if_neg (show ¬ Int32.ofNat 8 = 3 by decide), ↓if_neg (show ¬ Int32.ofNat 8 = 4 by decide), ↓if_neg (show ¬ Int32.ofNat 8 = 5 by decide), ↓if_neg (show ¬ Int32.ofNat 8 = 6 by decide), ↓if_neg (show ¬ Int32.ofNat 8 = 7 by decide), ↓if_pos (show Int32.ofNat 8 = 8 by decide), e_X11_radiator_144, ↓vH lH, ↓vT lT, ↓vS lS]
      rw [← e]
    refine Ste_p q g1 g2 hz (w_radiator (d + 5) hc lB.1 o1 o2) ((rd _).trans ?_)
    simp (disch := omega) only [e_X12_radiator_30, ↓if_neg (show ¬ Int32.ofNat 8 = 0 by decide), ↓if_neg (show ¬ Int32.ofNat 8 = 1 by decide), ↓if_neg (show ¬ Int32.ofNat 8 = 2 by decide), ↓if_neg (show ¬ Int32.ofNat 8 = 3 by decide), ↓if_neg (show ¬ Int32.ofNat 8 = 4 by decide), ↓if_neg (show ¬ Int32.ofNat 8 = 5 by decide), ↓if_neg (show ¬ Int32.ofNat 8 = 6 by decide), ↓if_neg (show ¬ Int32.ofNat 8 = 7 by decide), ↓if_pos (show Int32.ofNat 8 = 8 by decide), e_X12_radiator_168, ↓vM lM, ixA, up_ne]
  · have z100 : ¬ (100 : Nat) = 0 := by decide
    have hc : mcal mT (d + 5) 109 [.ref 100, .int (Int32.ofNat k0), .int (Int32.ofNat 9)] (G, I, L) = some (.inl (some (.int (I 151 k0 + Int64.toInt32 ((Int32.toInt64 (I 151 k0) * Int32.toInt64 (I 215 k0)) / 100)))), (G, I, L)) := by
      have ms : mcal mT (d + 4) 156 [.ref 100, .int (Int32.ofNat k0)] (G, I, L) = some (.inl (some (.int (I 151 k0 + Int64.toInt32 ((Int32.toInt64 (I 151 k0) * Int32.toInt64 (I 215 k0)) / 100)))), (G, I, L)) := by
        simp (disch := omega) only [q_X11_meterShows_, e_X11_meterShows_0, ↓vB lB, ↓vP lP, ↓vT lT, if_neg z100]
      simp (disch := omega) only [q_X11_radiator_, e_X11_radiator_0, ↓vB lB, nk_ok (d + 3) (L := L) lB lP lH s4 c0, mcV_v, ↓vP lP, ↓if_neg (show ¬ Int32.ofNat 9 = 0 by decide), ↓if_neg (show ¬ Int32.ofNat 9 = 1 by decide), ↓if_neg (show ¬ Int32.ofNat 9 = 2 by decide), ↓if_neg (show ¬ Int32.ofNat 9 = 3 by decide), ↓if_neg (show ¬ Int32.ofNat 9 = 4 by decide), ↓if_neg (show ¬ Int32.ofNat 9 = 5 by decide), ↓if_neg (show ¬ Int32.ofNat 9 = 6 by decide), ↓if_neg (show ¬ Int32.ofNat 9 = 7 by decide), ↓if_neg (show ¬ Int32.ofNat 9 = 8 by decide), ↓if_pos (show Int32.ofNat 9 = 9 by decide), e_X11_radiator_152, ↓mcI_of ms]
    refine Ste_p q g1 g2 hz (w_radiator (d + 5) hc lB.1 o1 o2) ((rd _).trans ?_)
    generalize hL' : up2 L 251 0 (Int32.toInt64 (I 151 k0 + Int64.toInt32 ((Int32.toInt64 (I 151 k0) * Int32.toInt64 (I 215 k0)) / 100))) = L'
    have l5 : L' 225 = L 225 := by rw [← hL', up2_e, up_ne (by decide)]
    have sh : mcal mT (d + 5) 235 [.ref 219, .int (Int32.ofNat k0)] (G, va_up I 219 (va_up (I 219) 0 0), L') = some (.inl (some (.int (I 151 k0 + Int64.toInt32 ((Int32.toInt64 (I 151 k0) * Int32.toInt64 (I 215 k0)) / 100)))), (G, va_up I 219 (va_up (I 219) 0 0), L')) := by
      simp (disch := omega) only [q_X12_shown_, e_X12_shown_0, ↓vM lM, ixA, up_ne, if_neg z100]
      rw [show L' (219 + 6) (8 + k0) = L 225 (8 + k0) by rw [← l5], ← t8', Int64.toInt32_add, Int32.toInt32_toInt64, eE]
    simp (disch := omega) only [e_X12_radiator_30, ↓if_neg (show ¬ Int32.ofNat 9 = 0 by decide), ↓if_neg (show ¬ Int32.ofNat 9 = 1 by decide), ↓if_neg (show ¬ Int32.ofNat 9 = 2 by decide), ↓if_neg (show ¬ Int32.ofNat 9 = 3 by decide), ↓if_neg (show ¬ Int32.ofNat 9 = 4 by decide), ↓if_neg (show ¬ Int32.ofNat 9 = 5 by decide), ↓if_neg (show ¬ Int32.ofNat 9 = 6 by decide), ↓if_neg (show ¬ Int32.ofNat 9 = 7 by decide), ↓if_neg (show ¬ Int32.ofNat 9 = 8 by decide), ↓if_pos (show Int32.ofNat 9 = 9 by decide), e_X12_radiator_178, ↓vM lM, ↓mcI_of sh]
  · have cl := c_lbc (d + 3) (L 225 k0) G I L
    rw [lbc_e, show (64 : Nat) = 60 + 4 from rfl, bsum_t n60] at cl
    have hc : mcal mT (d + 5) 109 [.ref 100, .int (Int32.ofNat k0), .int (Int32.ofNat 10)] (G, I, L) = some (.inl (some (.int (Int32.ofNat (bsum (nv (L 225 k0)) 60)))), (G, I, L)) := by
      simp (disch := omega) only [q_X11_radiator_, e_X11_radiator_0, ↓vB lB, nk_ok (d + 3) (L := L) lB lP lH s4 c0, mcV_v, ↓vP lP, ↓if_neg (show ¬ Int32.ofNat 10 = 0 by decide), ↓if_neg (show ¬ Int32.ofNat 10 = 1 by decide), ↓if_neg (show ¬ Int32.ofNat 10 = 2 by decide), ↓if_neg (show ¬ Int32.ofNat 10 = 3 by decide), ↓if_neg (show ¬ Int32.ofNat 10 = 4 by decide), ↓if_neg (show ¬ Int32.ofNat 10 = 5 by decide), ↓if_neg (show ¬ Int32.ofNat 10 = 6 by decide), ↓if_neg (show ¬ Int32.ofNat 10 = 7 by decide), ↓if_neg (show ¬ Int32.ofNat 10 = 8 by decide), ↓if_neg (show ¬ Int32.ofNat 10 = 9 by decide), ↓if_pos (show Int32.ofNat 10 = 10 by decide), e_X11_radiator_158, ↓vT lT]
      rw [show L (139 + 9) k0 = L 225 k0 from e1']
      simp only [↓mcI_of cl]
    refine Ste_p q g1 g2 hz (w_radiator (d + 5) hc lB.1 o1 o2) ((rd _).trans ?_)
    generalize hL' : up2 L 251 0 (Int32.toInt64 (Int32.ofNat (bsum (nv (L 225 k0)) 60))) = L'
    have l5 : L' 225 = L 225 := by rw [← hL', up2_e, up_ne (by decide)]
    have tu := r_turned (d + 4) (G := G) (I := va_up I 219 (va_up (I 219) 0 0)) (L := L') (k := k0) lM (by omega) (by rw [l5]; exact n60)
    rw [l5] at tu
    simp (disch := omega) only [e_X12_radiator_30, ↓if_neg (show ¬ Int32.ofNat 10 = 0 by decide), ↓if_neg (show ¬ Int32.ofNat 10 = 1 by decide), ↓if_neg (show ¬ Int32.ofNat 10 = 2 by decide), ↓if_neg (show ¬ Int32.ofNat 10 = 3 by decide), ↓if_neg (show ¬ Int32.ofNat 10 = 4 by decide), ↓if_neg (show ¬ Int32.ofNat 10 = 5 by decide), ↓if_neg (show ¬ Int32.ofNat 10 = 6 by decide), ↓if_neg (show ¬ Int32.ofNat 10 = 7 by decide), ↓if_neg (show ¬ Int32.ofNat 10 = 8 by decide), ↓if_neg (show ¬ Int32.ofNat 10 = 9 by decide), e_X12_radiator_184, ↓vM lM, ↓mcI_of tu]
end
