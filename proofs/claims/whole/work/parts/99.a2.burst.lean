/-! burst, things, fault -/
def las : Option Nat → Int32
  | none => -1
  | some p => Int32.ofNat p
def fll (g : Nat → Int32) (nm : Int32) (k : Nat) : Option Nat → Int32
  | none => 0
  | some p => g p - g k - nm * (Int32.ofNat k - Int32.ofNat p)
def bst (g : Nat → Int32) (nm : Int32) : Nat → Int32 × Int32 × Option Nat
  | 0 => (-1, 0, none)
  | k + 1 => if g k = -1 then bst g nm k else if fll g nm k (bst g nm k).2.2 ≤ (bst g nm k).2.1 then ((bst g nm k).1, (bst g nm k).2.1, some k) else (las (bst g nm k).2.2, fll g nm k (bst g nm k).2.2, some k)
theorem bst_l {g : Nat → Int32} {nm : Int32} (k : Nat) : ∀ p, (bst g nm k).2.2 = some p → p < k := by
  induction k with
  | zero => intro p h; cases h
  | succ k ih =>
    intro p h
    unfold bst at h
    split at h
    · have := ih p h; omega
    · split at h
      · cases h; omega
      · cases h; omega
theorem bst_c {g g' : Nat → Int32} {nm : Int32} (k : Nat) (h : ∀ j, j < k → g j = g' j) : bst g nm k = bst g' nm k := by
  induction k with
  | zero => rfl
  | succ k ih =>
    have e := ih fun j hj => h j (by omega)
    have f : ∀ o, (∀ p, o = some p → p < k) → fll g nm k o = fll g' nm k o := by
      intro o ho
      cases o with
      | none => rfl
      | some p => show g p - g k - nm * (Int32.ofNat k - Int32.ofNat p) = g' p - g' k - nm * (Int32.ofNat k - Int32.ofNat p); rw [h p (by have := ho p rfl; omega), h k (by omega)]
    unfold bst
    rw [e, h k (by omega), f _ (fun p hp => bst_l (g := g') (nm := nm) k p hp)]
theorem nm1 {p : Nat} (h : p < 2147483648) : ¬ Int32.ofNat p = -1 := by
  intro q
  have := congrArg Int32.toInt q
  rw [i_of h, show (-1 : Int32).toInt = -1 by decide] at this
  omega
section
variable {z h hs bl bs cl cs nr n nh M hN w lc mc kc ta : Nat} {rm pi mk : Nat → Nat} {G : mG} {I : Nat → Nat → Int32} {L : Nat → Nat → Int64}

theorem c_burst (d : Nat) {k0 : Nat} (nm : Int32) (lB : LayB G hs bl bs cl cs) (hk0 : k0 < 4) : f_X11_burst (d + 1) 22 [.ref 100, .int (Int32.ofNat k0), .int nm, .int (-1), .int 0, .int (-1), .int 0, mU] [] (G, I, L) = some (.inl (some (.int (bst (fun j => I 217 (k0 * 10 + j)) nm 10).1)), (G, I, L)) := by
  have m10 : Int32.ofNat k0 * 10 = Int32.ofNat (k0 * 10) := i_mul k0 10
  have A := loopy (fun i (s : Int32 × Int32 × Option Nat) => f_X11_burst (d + 1) 22 [.ref 100, .int (Int32.ofNat k0), .int nm, .int s.1, .int s.2.1, .int (las s.2.2), .int i, mU] [] (G, I, L)) (fun k => bst (fun j => I 217 (k0 * 10 + j)) nm k) 10 (-1, 0, none) rfl (by
    intro k hk
    try dsimp only
    have e10 : ¬ (10 : Int32) ≤ Int32.ofNat k := i_ng (a := 10) hk (by decide)
    have hl := bst_l (g := fun j => I 217 (k0 * 10 + j)) (nm := nm) k
    rw [e_X11_burst_22, if_neg e10]
    have b1 : bst (fun j => I 217 (k0 * 10 + j)) nm (k + 1) = if I 217 (k0 * 10 + k) = -1 then bst (fun j => I 217 (k0 * 10 + j)) nm k else if fll (fun j => I 217 (k0 * 10 + j)) nm k (bst (fun j => I 217 (k0 * 10 + j)) nm k).2.2 ≤ (bst (fun j => I 217 (k0 * 10 + j)) nm k).2.1 then ((bst (fun j => I 217 (k0 * 10 + j)) nm k).1, (bst (fun j => I 217 (k0 * 10 + j)) nm k).2.1, some k) else (las (bst (fun j => I 217 (k0 * 10 + j)) nm k).2.2, fll (fun j => I 217 (k0 * 10 + j)) nm k (bst (fun j => I 217 (k0 * 10 + j)) nm k).2.2, some k) := rfl
    rw [b1]
    generalize bst (fun j => I 217 (k0 * 10 + j)) nm k = s at hl ⊢
    obtain ⟨f, mo, o⟩ := s
    by_cases c1 : I 217 (k0 * 10 + k) = -1
    · simp (disch := omega) only [↓vB lB, m10, i_add, if_pos c1, e_X11_burst_88, i_one]
    · have t68 : ∀ v : Int32, v = fll (fun j => I 217 (k0 * 10 + j)) nm k o → f_X11_burst (d + 1) 68 [.ref 100, .int (Int32.ofNat k0), .int nm, .int f, .int mo, .int (las o), .int (Int32.ofNat k), mU] [.int v] (G, I, L) = f_X11_burst (d + 1) 22 [.ref 100, .int (Int32.ofNat k0), .int nm, .int (if fll (fun j => I 217 (k0 * 10 + j)) nm k o ≤ mo then (f, mo, some k) else (las o, fll (fun j => I 217 (k0 * 10 + j)) nm k o, some k)).1, .int (if fll (fun j => I 217 (k0 * 10 + j)) nm k o ≤ mo then (f, mo, some k) else (las o, fll (fun j => I 217 (k0 * 10 + j)) nm k o, some k)).2.1, .int (las (if fll (fun j => I 217 (k0 * 10 + j)) nm k o ≤ mo then (f, mo, some k) else (las o, fll (fun j => I 217 (k0 * 10 + j)) nm k o, some k)).2.2), .int (Int32.ofNat (k + 1)), mU] [] (G, I, L) := by
        intro v hv
        rw [← hv, e_X11_burst_68]
        by_cases c2 : v ≤ mo
        · rw [if_pos c2, if_pos c2, e_X11_burst_84, e_X11_burst_88, i_one]
          rfl
        · rw [if_neg c2, if_neg c2, e_X11_burst_84, e_X11_burst_88, i_one]
          rfl
      simp (disch := omega) only [↓vB lB, m10, i_add, if_neg c1, e_X11_burst_48]
      cases o with
      | none => exact t68 0 rfl
      | some p =>
        have hp := hl p rfl
        have q : ¬ las (some p) = -1 := nm1 (by omega)
        have fb : mcal mT (d + 1) 162 [.ref 100, .int (Int32.ofNat k0), .int (las (some p)), .int (Int32.ofNat k), .int nm] (G, I, L) = some (.inl (some (.int (fll (fun j => I 217 (k0 * 10 + j)) nm k (some p)))), (G, I, L)) := by
          have l : las (some p) = Int32.ofNat p := rfl
          rw [l]
          simp (disch := omega) only [q_X11_fallBeyond_, e_X11_fallBeyond_0, ↓vB lB, m10, i_add]
          rfl
        rw [if_neg q, e_X11_burst_58]
        simp only [↓vB lB, ↓mcI_of fb]
        exact t68 _ rfl)
  try dsimp only at A
  refine A.trans ?_
  rw [e_X11_burst_22, if_pos (by decide), e_X11_burst_94]
theorem r_burst (d : Nat) {J : Nat → Nat → Int32} {K : Nat → Nat → Int64} {k0 : Nat} (nm : Int32) (lM : LayM G 219) (hk0 : k0 < 4) : f_X12_burst d 50 [.ref 219, .int (Int32.ofNat k0), .int nm, .int (-1), .int 0, .int (-1), .int 0, mU] [] (G, J, K) = some (.inl (some (.int (bst (fun j => J 240 (10 * k0 + j)) nm 10).1)), (G, J, K)) := by
  have A := loopy (fun i (s : Int32 × Int32 × Option Nat) => f_X12_burst d 50 [.ref 219, .int (Int32.ofNat k0), .int nm, .int s.1, .int s.2.1, .int (las s.2.2), .int i, mU] [] (G, J, K)) (fun k => bst (fun j => J 240 (10 * k0 + j)) nm k) 10 (-1, 0, none) rfl (by
    intro k hk
    try dsimp only
    have e10 : ¬ (10 : Int32) ≤ Int32.ofNat k := i_ng (a := 10) hk (by decide)
    have hl := bst_l (g := fun j => J 240 (10 * k0 + j)) (nm := nm) k
    rw [e_X12_burst_50, if_neg e10]
    have b1 : bst (fun j => J 240 (10 * k0 + j)) nm (k + 1) = if J 240 (10 * k0 + k) = -1 then bst (fun j => J 240 (10 * k0 + j)) nm k else if fll (fun j => J 240 (10 * k0 + j)) nm k (bst (fun j => J 240 (10 * k0 + j)) nm k).2.2 ≤ (bst (fun j => J 240 (10 * k0 + j)) nm k).2.1 then ((bst (fun j => J 240 (10 * k0 + j)) nm k).1, (bst (fun j => J 240 (10 * k0 + j)) nm k).2.1, some k) else (las (bst (fun j => J 240 (10 * k0 + j)) nm k).2.2, fll (fun j => J 240 (10 * k0 + j)) nm k (bst (fun j => J 240 (10 * k0 + j)) nm k).2.2, some k) := rfl
    rw [b1]
    generalize bst (fun j => J 240 (10 * k0 + j)) nm k = s at hl ⊢
    obtain ⟨f, mo, o⟩ := s
    by_cases c1 : J 240 (10 * k0 + k) = -1
    · simp (disch := omega) only [↓vM lM, ixM, i_add, if_pos c1, e_X12_burst_139, i_one]
    · have t68 : ∀ v : Int32, v = fll (fun j => J 240 (10 * k0 + j)) nm k o → f_X12_burst d 119 [.ref 219, .int (Int32.ofNat k0), .int nm, .int f, .int mo, .int (las o), .int (Int32.ofNat k), mU] [.int v] (G, J, K) = f_X12_burst d 50 [.ref 219, .int (Int32.ofNat k0), .int nm, .int (if fll (fun j => J 240 (10 * k0 + j)) nm k o ≤ mo then (f, mo, some k) else (las o, fll (fun j => J 240 (10 * k0 + j)) nm k o, some k)).1, .int (if fll (fun j => J 240 (10 * k0 + j)) nm k o ≤ mo then (f, mo, some k) else (las o, fll (fun j => J 240 (10 * k0 + j)) nm k o, some k)).2.1, .int (las (if fll (fun j => J 240 (10 * k0 + j)) nm k o ≤ mo then (f, mo, some k) else (las o, fll (fun j => J 240 (10 * k0 + j)) nm k o, some k)).2.2), .int (Int32.ofNat (k + 1)), mU] [] (G, J, K) := by
        intro v hv
        rw [← hv, e_X12_burst_119]
        by_cases c2 : v ≤ mo
        · rw [if_pos c2, if_pos c2, e_X12_burst_135, e_X12_burst_139, i_one]
          rfl
        · rw [if_neg c2, if_neg c2, e_X12_burst_135, e_X12_burst_139, i_one]
          rfl
      simp (disch := omega) only [↓vM lM, ixM, i_add, if_neg c1, e_X12_burst_76]
      cases o with
      | none => exact t68 0 rfl
      | some p =>
        have hp := hl p rfl
        have q : ¬ las (some p) = -1 := nm1 (by omega)
        have l : las (some p) = Int32.ofNat p := rfl
        rw [if_neg q, e_X12_burst_86]
        simp (disch := omega) only [↓vM lM, l, ixM, i_add]
        exact t68 _ rfl)
  try dsimp only at A
  refine A.trans ?_
  rw [e_X12_burst_50, if_pos (by decide), e_X12_burst_145]
theorem ca_burst (d : Nat) (q : Rel z h hs bl bs cl cs nr n nh M hN w lc mc kc ta rm pi mk G I L) (g1 : G.1 ≤ 252 + z + 25 * kc) (g2 : G.2.1 ≤ 60000 + 6 * z + 4000 * kc) (hz : z + 1 ≤ 512) (x : Int32) (y : Int32) : Ste (d + 6) 327 276 [.int x, .int y] (z + 1) G I L := by
  obtain ⟨lB, lX, lP, -, ⟨lH1, lH2⟩, ⟨lS, -⟩, ⟨lT, -⟩, ⟨lU, -⟩, lD, -, -, lM, ⟨o1, o2⟩, -, hh, -⟩ := id q.1
  have ho := q.2.1
  obtain ⟨s1, s2, s3, s4, s5, s6⟩ := ho_sz ho
  have lH : LayH G h := by
    rcases hh with ⟨a, -⟩ | ⟨a, -⟩
    · rw [a]; exact lH1
    · rw [a]; exact lH2
  have hb : 103 ≤ h ∧ h + 14 ≤ 132 := by omega
  obtain ⟨-, -, ⟨hF, hHN⟩, hS, ⟨hT, hMz⟩, hU, hD, hTp, hEg, hLg, -, -, -, -⟩ := id q
  have z1 : ¬ (1 : Int32) = 0 := by decide
  have I00 : (va_up I 219 (va_up (I 219) 0 0)) 219 0 = 0 := by rw [up_eq, up_eq]
  have I01 : (va_up I 219 (va_up (I 219) 0 0)) 220 = I 220 := up_ne (by decide)
  by_cases c0 : x < 0 ∨ 3 < x
  · have hc : mcal mT (d + 5) 161 [.ref 100, .int x, .int y] (G, I, L) = some (.inr "java/lang/IllegalArgumentException", (G, I, L)) := by
      simp only [q_X11_burst_, e_X11_burst_0, ↓vB lB, ↓vP lP, ↓vT lT, ↓vH lH, ↓vS lS, np_no (d + 2) c0 (G, I, L), mcV_v, mcV_e, mthr_e]
    refine Ste_e (k := 1) q g1 g2 hz (by decide) (w_burst_A (d + 5) hc lB.1) fun lM => ?_
    simp only [q_X12_burst_, e_X12_burst_0, e_X12_burst_29, e_X12_burst_30, ↓vM lM, up2_e, r_within, mcI_v, wi_0 (x := x) (a := 0) (b := 3) c0, ↓mcI_of (r_may0 (d + 4) 1 lM (I := (va_up I 219 (va_up (I 219) 0 0))) (L := L) I00 (by decide)), up_eq, up_up, if_true, if_neg z1, mb0]
  by_cases c1 : y < 0 ∨ 99 < y
  · have hc : mcal mT (d + 5) 161 [.ref 100, .int x, .int y] (G, I, L) = some (.inr "java/lang/IllegalArgumentException", (G, I, L)) := by
      simp only [q_X11_burst_, e_X11_burst_0, ↓vB lB, ↓vP lP, ↓vT lT, ↓vH lH, ↓vS lS, np_ok (d + 2) c0 (G, I, L), nw_no (d + 3) c1 (G, I, L), mcV_v, mcV_e, mthr_e]
    refine Ste_e (k := 1) q g1 g2 hz (by decide) (w_burst_A (d + 5) hc lB.1) fun lM => ?_
    simp only [q_X12_burst_, e_X12_burst_0, e_X12_burst_29, e_X12_burst_30, ↓vM lM, up2_e, r_within, mcI_v, wi_1 (x := x) (a := 0) (b := 3) c0, wi_0 (x := y) (a := 0) (b := 99) c1, ↓mcI_of (r_may1 (d + 4) 1 lM (I := (va_up I 219 (va_up (I 219) 0 0))) (L := L) I00), ↓mcI_of (r_may0 (d + 4) 1 lM (I := (va_up I 219 (va_up (I 219) 0 0))) (L := L) I00 (by decide)), up_eq, up_up, if_true, if_neg z1, mb0]
  obtain ⟨k0, hk0, rfl⟩ := i_rng (n := 3) c0 (by decide)
  have hc : mcal mT (d + 5) 161 [.ref 100, .int (Int32.ofNat k0), .int y] (G, I, L) = some (.inl (some (.int (bst (fun j => I 217 (k0 * 10 + j)) y 10).1)), (G, I, L)) := by
    simp (disch := omega) only [q_X11_burst_, e_X11_burst_0, ↓vB lB, ↓vP lP, ↓vT lT, ↓vH lH, ↓vS lS, np_ok (d + 2) c0 (G, I, L), nw_ok (d + 3) c1 (G, I, L), mcV_v]
    exact c_burst (d + 3) y lB (by omega)
  have ev : bst (fun j => I 217 (k0 * 10 + j)) y 10 = bst (fun j => I 240 (10 * k0 + j)) y 10 := bst_c 10 fun j hj => by
    rw [Nat.mul_comm]
    exact (hEg.2 _ (by omega)).1
  refine Ste_q q g1 g2 hz (w_burst (d + 5) hc lB.1 o1 o2) fun L' => ?_
  have rc := r_burst (d + 5) (J := (va_up I 219 (va_up (I 219) 0 0))) (K := L') (k0 := k0) y lM (by omega)
  have J240 : (va_up I 219 (va_up (I 219) 0 0)) 240 = I 240 := up_ne (by decide)
  rw [J240] at rc
  simp (disch := omega) only [q_X12_burst_, e_X12_burst_0, e_X12_burst_29, e_X12_burst_30, e_X12_burst_39, ↓vM lM, up2_e, r_within, mcI_v, wi_1 (x := (Int32.ofNat k0)) (a := 0) (b := 3) c0, wi_1 (x := y) (a := 0) (b := 99) c1, ↓mcI_of (r_may1 (d + 4) 1 lM (I := (va_up I 219 (va_up (I 219) 0 0))) (L := L') I00), if_neg z1, rc, ev]
/-- a call that never throws -/
def Ste2 (d c r : Nat) (args : List Value) (z : Nat) (G : mG) (I : Nat → Nat → Int32) (L : Nat → Nat → Int64) : Prop := ∃ v G1 I1 L1 I2 L2, mcal mT d c (.ref 100 :: args) (G, I, L) = some (.inl (some (.int v)), (G1, I1, L1)) ∧ I1 0 = I 0 ∧ gN G1 0 = gN G 0 ∧ mcal mT d r (.ref 219 :: args) (G1, I1, L1) = some (.inl (some (.int v)), (G1, I2, L2)) ∧ I2 0 = I 0 ∧ RelE z G1 I2 L2
theorem Ste2_q {d c r : Nat} {args : List Value} {v : Int32} (q : Rel z h hs bl bs cl cs nr n nh M hN w lc mc kc ta rm pi mk G I L) (g1 : G.1 ≤ 252 + z + 25 * kc) (g2 : G.2.1 ≤ 60000 + 6 * z + 4000 * kc) (hz : z + 1 ≤ 512) (hw : mcal mT d c (.ref 100 :: args) (G, I, L) = some (.inl (some (.int v)), (G, I, L))) (hr : mcal mT d r (.ref 219 :: args) (G, I, L) = some (.inl (some (.int v)), (G, va_up I 219 (va_up (I 219) 0 0), L))) : Ste2 d c r args (z + 1) G I L := by
  exact ⟨v, G, I, L, _, L, hw, rfl, rfl, hr, up_ne (by decide), h, hs, bl, bs, cl, cs, nr, n, nh, M, hN, w, lc, mc, kc, ta, rm, pi, mk, Rel_q q q.1 (Nat.le_succ z) hz (Qui_t 0 fun a ha => rfl), by omega, by omega⟩
theorem ca_fault (d : Nat) (q : Rel z h hs bl bs cl cs nr n nh M hN w lc mc kc ta rm pi mk G I L) (g1 : G.1 ≤ 252 + z + 25 * kc) (g2 : G.2.1 ≤ 60000 + 6 * z + 4000 * kc) (hz : z + 1 ≤ 512) : Ste2 (d + 6) 104 198 [] (z + 1) G I L := by
  obtain ⟨lB, lX, lP, -, ⟨lH1, lH2⟩, ⟨lS, -⟩, ⟨lT, -⟩, ⟨lU, -⟩, lD, -, -, lM, ⟨o1, o2⟩, -, hh, -⟩ := id q.1
  have ho := q.2.1
  obtain ⟨s1, s2, s3, s4, s5, s6⟩ := ho_sz ho
  have lH : LayH G h := by
    rcases hh with ⟨a, -⟩ | ⟨a, -⟩
    · rw [a]; exact lH1
    · rw [a]; exact lH2
  have hb : 103 ≤ h ∧ h + 14 ≤ 132 := by omega
  obtain ⟨-, -, ⟨hF, hHN⟩, hS, ⟨hT, hMz⟩, hU, hD, hTp, hEg, hLg, -, -, -, -⟩ := id q
  have z1 : ¬ (1 : Int32) = 0 := by decide
  have I00 : (va_up I 219 (va_up (I 219) 0 0)) 219 0 = 0 := by rw [up_eq, up_eq]
  have I01 : (va_up I 219 (va_up (I 219) 0 0)) 220 = I 220 := up_ne (by decide)
  have hc : mcal mT (d + 6) 104 [.ref 100] (G, I, L) = some (.inl (some (.int (I 101 7))), (G, I, L)) := by
    simp only [q_X11_fault_, e_X11_fault_0, ↓vB lB, ↓vX lX]
  refine Ste2_q q g1 g2 hz hc ?_
  have e := hTp.2.2.2.2
  simp (disch := omega) only [q_X12_fault_, e_X12_fault_0, ↓vM lM, up2_e, up_eq, up_ne, e]
end
