/-! calls: balanced, turning -/
section
variable {z h hs bl bs cl cs nr n nh M hN w lc mc kc ta : Nat} {rm pi mk : Nat → Nat} {G : mG} {I : Nat → Nat → Int32} {L : Nat → Nat → Int64}
/-- the screws as numbers -/
def skn (I : Nat → Nat → Int32) (k : Nat) : Nat := (I 133 k).toNatClampNeg
theorem skn_e {sv : Nat → Int32} (hS : SeR I 132 sv n nh) {k : Nat} (hk : k < n) : I 133 k = Int32.ofNat (skn I k) ∧ 1 ≤ skn I k ∧ skn I k ≤ 16 := by
  obtain ⟨a1, a2, a3⟩ := hS.1 k hk
  have a1' : I 133 k = sv (24 + k) := a1
  obtain ⟨w, hw, e⟩ := i_rng (x := I 133 k) (n := 16) (fun p => by
    rw [a1'] at p
    rw [Int32.lt_iff_toInt_lt, Int32.lt_iff_toInt_lt] at p
    have e0 : (0 : Int32).toInt = 0 := by decide
    have e6 : (Int32.ofNat 16).toInt = 16 := by decide
    omega) (by decide)
  have es : skn I k = w := by unfold skn; rw [e, i_nat (by omega)]
  rw [es]
  refine ⟨e, ?_, by omega⟩
  rw [← a1', e, i_of (by omega)] at a2
  omega
theorem bl_core (d : Nat) (q : Rel z h hs bl bs cl cs nr n nh M hN w lc mc kc ta rm pi mk G I L) (g1 : G.1 ≤ 252 + z + 25 * kc) (g2 : G.2.1 ≤ 60000 + 6 * z + 4000 * kc) (hz : z + 1 ≤ 512) (out want : Int32) (c3 : ¬ nr = 0) : ∃ r G1 I1 L1, mcal mT (d + 8) 141 [.ref 100, .int out, .int want] (G, I, L) = some (.inl (some (.int r)), (G1, I1, L1)) ∧ GH h hs bl bs cl cs kc mk G I L G1 I1 L1 ∧ ((r = -1 ∧ ∀ v : Int64, ∃ J' K', mcal mT (d + 9) 253 [.ref 219, .int out, .int want] (G1, va_up I1 219 (va_up (I1 219) 0 0), up2 L1 251 0 v) = some (.inl (some (.int 0)), (G1, J', K')) ∧ QuR (va_up I1 219 (va_up (I1 219) 0 0)) J' (up2 L1 251 0 v) K') ∨ ∃ c, c < 256 ∧ r = Int32.ofNat c ∧ ∀ v : Int64, ∃ J' K', mcal mT (d + 9) 253 [.ref 219, .int out, .int want] (G1, va_up I1 219 (va_up (I1 219) 0 0), up2 L1 251 0 v) = some (.inl (some (.int 1)), (G1, J', K')) ∧ QuR (va_up I1 219 (va_up (I1 219) 0 0)) J' (up2 L1 251 0 v) K' ∧ J' 219 34 = Int32.ofNat (tsm (mq n) c (skn I) (mq n)) ∧ ∀ k, k < n → J' 234 k = if k < mq n then Int32.ofNat (dgt (mq n) c k) else I 133 k) := by
  obtain ⟨lB, lX, lP, -, ⟨lH1, lH2⟩, ⟨lS, -⟩, ⟨lT, -⟩, ⟨lU, -⟩, lD, -, -, lM, ⟨o1, o2⟩, -, hh, -⟩ := id q.1
  have ho := q.2.1
  obtain ⟨s1, s2, s3, s4, s5, s6⟩ := ho_sz ho
  have lH : LayH G h := by
    rcases hh with ⟨a, -⟩ | ⟨a, -⟩
    · rw [a]; exact lH1
    · rw [a]; exact lH2
  have hb : 103 ≤ h ∧ h + 14 ≤ 132 := by omega
  obtain ⟨-, -, ⟨hF, hHN⟩, hS, ⟨hT, hMz⟩, hU, hD, hTp, hEg, hLg, -, -, -, -⟩ := id q
  have z1 : ¬ (1 : Int32) = 0 := by decide
  have I00 : (va_up I 219 (va_up (I 219) 0 0)) 219 0 = 0 := by rw [up_eq, up_eq]
  have I01 : (va_up I 219 (va_up (I 219) 0 0)) 220 = I 220 := up_ne (by decide)
  obtain ⟨-, hHs, -, -, -, hr2, -⟩ : 0 < nr ∧ HsR I I h 219 nr n rm pi ∧ I h 0 = I 220 165 ∧ I h 16 = I 220 160 ∧ irng (I 220 160) 1 999 ∧ (∀ r, r < nr → I (h + 2) r = I 220 (8 + r) ∧ irng (I 220 (8 + r)) 0 4000) ∧ (∀ k, k < n → irng (I 220 (144 + k)) 0 3) := by
    rcases ho with ⟨a, -⟩ | p
    · exact absurd a c3
    · exact p
  have hbs : BsR I I L L h nr n nh M rm pi := ⟨hHs, hF, hS, hT⟩
  have gh0 : GH h hs bl bs cl cs kc mk G I L G I L := ⟨q.1, rfl, rfl, rfl, fun _ _ => rfl, fun _ _ => rfl⟩
  have m4 := mq_le n
  have p44 := p4 m4.1
  obtain ⟨E, hE, -⟩ := bw_E (d + 1) (d + 2) (G2 := G) out want q.1 lM hb hbs hr2
  obtain ⟨r, G1, I1, L1, a1, a2, a3⟩ := bs_c (d + 1) (sk := skn I) hb s4 s6 (fun k hk => skn_e hS hk) hE gh0
  refine ⟨r, G1, I1, L1, a1, a2, ?_⟩
  obtain ⟨lyf, -, -, -, qc⟩ := id a2
  have lMf : LayM G1 219 := lyf.2.2.2.2.2.2.2.2.2.2.2.1
  have fr : ∀ a, a ≠ 219 → ¬ (171 ≤ a ∧ a < 195) → va_up I1 219 (va_up (I1 219) 0 0) a = I a := fun a h1 h2 => by rw [up_ne h1, qc.1 a h2]
  have rf : ∀ v : Int64, ∃ b J' K', mcal mT (d + 9) 253 [.ref 219, .int out, .int want] (G1, va_up I1 219 (va_up (I1 219) 0 0), up2 L1 251 0 v) = some (.inl (some (.int b)), (G1, J', K')) ∧ QuR (va_up I1 219 (va_up (I1 219) 0 0)) J' (up2 L1 251 0 v) K' ∧ ((b = 0 ∧ ∀ u, u < 4 ^ mq n → ¬ E u = 1) ∨ (b = 1 ∧ ∃ c, Bst (4 ^ mq n) (fun u => tsm (mq n) u (skn I) (mq n)) E c ∧ J' 219 34 = Int32.ofNat (tsm (mq n) c (skn I) (mq n)) ∧ ∀ k, k < n → J' 234 k = if k < mq n then Int32.ofNat (dgt (mq n) c k) else I 133 k)) := by
    intro v
    have b0 := BsR_w (v := v) hbs qc
    obtain ⟨E2, hE2, hR2⟩ := bw_E (d + 1) (d + 2) (G2 := G1) out want q.1 lMf hb b0 (by rw [fr 220 (by decide) (by decide)]; exact hr2)
    have e2 : ∀ c, c < 256 → E2 c = E c := by
      intro c hc
      obtain ⟨Ga, Ia, La, x1, -⟩ := (hE c hc).2 G I L gh0
      obtain ⟨Gb, Ib, Lb, x2, -⟩ := (hE2 c hc).2 G I L gh0
      exact (some_i x1 x2).1
    have s23 := fr 223 (by decide) (by decide)
    have sc : ∀ k, k < n → I 133 k = I 223 (24 + k) := fun k hk => (hS.1 k hk).1
    obtain ⟨b, J', K', y1, y2, y3⟩ := fb_r (sk := skn I) (K := up2 L1 251 0 v) (d + 2) lMf (by rw [fr 220 (by decide) (by decide)]; exact s5) s6 b0.2.1.2.2.2.2.2 (fun k hk => by rw [s23, ← sc k hk]; exact skn_e hS hk) hR2
    refine ⟨b, J', K', y1, y2, ?_⟩
    rcases y3 with ⟨p1, p2⟩ | ⟨p1, c, ⟨p2, p3, p4⟩, p5, p6⟩
    · exact Or.inl ⟨p1, fun u hu => by rw [← e2 u (by omega)]; exact p2 u hu⟩
    · refine Or.inr ⟨p1, c, ⟨p2, by rw [← e2 c (by omega)]; exact p3, fun u hu eu => p4 u hu (by rw [e2 u (by omega)]; exact eu)⟩, p5, fun k hk => ?_⟩
      rw [p6 k hk, s23, sc k hk]
  rcases a3 with ⟨c, rfl, bc⟩ | ⟨rfl, no⟩
  · refine Or.inr ⟨c, by have := bc.1; omega, rfl, fun v => ?_⟩
    obtain ⟨b, J', K', y1, y2, y3⟩ := rf v
    rcases y3 with ⟨p1, p2⟩ | ⟨rfl, c', p2, p3⟩
    · exact absurd bc.2.1 (p2 c bc.1)
    · rw [Bst_u p2 bc] at p3
      exact ⟨J', K', y1, y2, p3⟩
  · refine Or.inl ⟨rfl, fun v => ?_⟩
    obtain ⟨b, J', K', y1, y2, y3⟩ := rf v
    rcases y3 with ⟨rfl, p2⟩ | ⟨p1, c', p2, p3⟩
    · exact ⟨J', K', y1, y2⟩
    · exact absurd p2.2.1 (no c' p2.1)
/-- the end of such a call -/
theorem bl_fin {d W R : Nat} {args : List Value} {r : Int32} {G1 : mG} {I1 J' : Nat → Nat → Int32} {L1 K' : Nat → Nat → Int64} (q : Rel z h hs bl bs cl cs nr n nh M hN w lc mc kc ta rm pi mk G I L) (g1 : G.1 ≤ 252 + z + 25 * kc) (g2 : G.2.1 ≤ 60000 + 6 * z + 4000 * kc) (hz : z + 1 ≤ 512) (p2 : GH h hs bl bs cl cs kc mk G I L G1 I1 L1) (hw : gK G1 251 = 21 → gN G1 251 = 1 → mcal mT d W (.ref 100 :: (args ++ [.ref 251])) (G, I, L) = some (.inl (some (.int 0)), (G1, I1, up2 L1 251 0 (Int32.toInt64 r)))) (hr : mcal mT d R (.ref 219 :: args) (G1, I1, up2 L1 251 0 (Int32.toInt64 r)) = some (.inl (some (.int r)), (G1, J', K'))) (t4 : QuR (va_up I1 219 (va_up (I1 219) 0 0)) J' (up2 L1 251 0 (Int32.toInt64 r)) K') : Ste d W R args (z + 1) G I L := by
  obtain ⟨lyf, gf1, gf2, gf3, qc⟩ := p2
  obtain ⟨w1, w2⟩ := lyf.2.2.2.2.2.2.2.2.2.2.2.2.1
  have J00 : va_up I1 219 (va_up (I1 219) 0 0) 219 0 = 0 := by rw [up_eq, up_eq]
  have qq := Qui_T qc t4
  refine ⟨0, r, G1, I1, _, J', K', hw w1 w2, qc.1 0 (by decide), gf3, hr, ?_, ?_, fun _ => ?_, h, hs, bl, bs, cl, cs, nr, n, nh, M, hN, w, lc, mc, kc, ta, rm, pi, mk, Rel_q q lyf (Nat.le_succ z) hz qq, by omega, by omega⟩
  · rw [qq.1 0 (by unfold Scr; omega)]
  · rw [t4.2.1 0 (by decide) (by decide) (by decide) (by decide) (by decide)]; exact J00
  · rw [t4.2.2.2.1 251 (by decide) (by decide), up2_e, up_eq, up_eq]
theorem ca_turning (d : Nat) (q : Rel z h hs bl bs cl cs nr n nh M hN w lc mc kc ta rm pi mk G I L) (g1 : G.1 ≤ 252 + z + 25 * kc) (g2 : G.2.1 ≤ 60000 + 6 * z + 4000 * kc) (hz : z + 1 ≤ 512) (x y : Int32) : Ste (d + 10) 312 256 [.int x, .int y] (z + 1) G I L := by
  obtain ⟨lB, lX, lP, -, ⟨lH1, lH2⟩, ⟨lS, -⟩, ⟨lT, -⟩, ⟨lU, -⟩, lD, -, -, lM, ⟨o1, o2⟩, -, hh, -⟩ := id q.1
  have ho := q.2.1
  obtain ⟨s1, s2, s3, s4, s5, s6⟩ := ho_sz ho
  have lH : LayH G h := by
    rcases hh with ⟨a, -⟩ | ⟨a, -⟩
    · rw [a]; exact lH1
    · rw [a]; exact lH2
  have hb : 103 ≤ h ∧ h + 14 ≤ 132 := by omega
  obtain ⟨-, -, ⟨hF, hHN⟩, hS, ⟨hT, hMz⟩, hU, hD, hTp, hEg, hLg, -, -, -, -⟩ := id q
  have z1 : ¬ (1 : Int32) = 0 := by decide
  have I00 : (va_up I 219 (va_up (I 219) 0 0)) 219 0 = 0 := by rw [up_eq, up_eq]
  have I01 : (va_up I 219 (va_up (I 219) 0 0)) 220 = I 220 := up_ne (by decide)
  have dx : (decide (¬ (x < -4000 ∨ 4000 < x) ∧ ¬ (y < 0 ∨ 9999 < y)) = true) ↔ (¬ (x < -4000 ∨ 4000 < x) ∧ ¬ (y < 0 ∨ 9999 < y)) := decide_eq_true_iff
  have bad : mcal mT (d + 9) 137 [.ref 100, .int x, .int y] (G, I, L) = some (.inr "java/lang/IllegalArgumentException", (G, I, L)) → ¬ (¬ (x < -4000 ∨ 4000 < x) ∧ ¬ (y < 0 ∨ 9999 < y)) → Ste (d + 10) 312 256 [.int x, .int y] (z + 1) G I L := by
    intro hc hx
    refine Ste_e (k := 1) q g1 g2 hz (by decide) (w_turning_A (d + 9) hc lB.1) fun lM => ?_
    have my := r_may0 (d + 8) 1 lM (I := va_up I 219 (va_up (I 219) 0 0)) (L := L) I00 (by decide)
    have wa : mcal mT (d + 9) 254 [.ref 219, .int x, .int y] (gC G, va_up I 219 (va_up (I 219) 0 0), L) = some (.inl (some (.int 0)), (gC G, va_up I 219 (va_up (I 219) 0 0), L)) := r_isWanted (d + 7) false ⟨fun p => absurd p (by decide), fun p => absurd p hx⟩
    simp only [q_X12_turning_, e_X12_turning_0, ↓vM lM, up2_e, ↓mcI_of wa, ↓mcI_of my, if_true, e_X12_turning_27, up_eq, up_up]
  by_cases c0 : x < -4000 ∨ 4000 < x
  · refine bad ?_ (fun p => p.1 c0)
    simp only [q_X11_turning_, e_X11_turning_0, no_no (d + 6) c0 (G, I, L), mcV_e, mthr_e]
  by_cases c1 : y < 0 ∨ 9999 < y
  · refine bad ?_ (fun p => p.2 c1)
    simp only [q_X11_turning_, e_X11_turning_0, no_ok (d + 6) c0 (G, I, L), nw_no (d + 7) c1 (G, I, L), mcV_v, mcV_e, mthr_e]
  have wok : ∀ (G' : mG) (I' : Nat → Nat → Int32) (L' : Nat → Nat → Int64), mcal mT (d + 9) 254 [.ref 219, .int x, .int y] (G', I', L') = some (.inl (some (.int 1)), (G', I', L')) := fun G' I' L' => r_isWanted (d + 7) true ⟨fun _ => ⟨c0, c1⟩, fun _ => rfl⟩
  by_cases c3 : nr = 0
  · have hc : mcal mT (d + 9) 137 [.ref 100, .int x, .int y] (G, I, L) = some (.inr "java/lang/IllegalStateException", (G, I, L)) := by
      simp only [q_X11_turning_, e_X11_turning_0, no_ok (d + 6) c0 (G, I, L), nw_ok (d + 7) c1 (G, I, L), ↓vB lB, nh_no (d + 7) (L := L) lB lP lH s1 c3, mcV_v, mcV_e, mthr_e]
    refine Ste_e (k := 2) q g1 g2 hz (by decide) (w_turning_S (d + 9) hc lB.1) fun lM => ?_
    have my := r_may1 (d + 8) 1 lM (I := va_up I 219 (va_up (I 219) 0 0)) (L := L) I00
    have ih := rh_no (d + 7) (L := L) (I := va_up I 219 (va_up (I 219) 0 0)) 2 lM I00 (by decide) (by rw [I01]; exact s2) s3 c3
    simp only [q_X12_turning_, e_X12_turning_0, ↓vM lM, up2_e, ↓mcI_of (wok _ _ _), ↓mcI_of my, if_neg z1, ↓mcI_of ih, if_true, e_X12_turning_27, up_eq, up_up]
  obtain ⟨r, G1, I1, L1, a1, a2, a3⟩ := bl_core d q g1 g2 hz x y c3
  obtain ⟨lyf, -, -, -, qc⟩ := id a2
  obtain ⟨lBf, -, lPf, -, ⟨lH1f, lH2f⟩, ⟨lSf, -⟩, -⟩ := id lyf
  have lMf : LayM G1 219 := lyf.2.2.2.2.2.2.2.2.2.2.2.1
  have lHf : LayH G1 h := by
    rcases hh with ⟨a, -⟩ | ⟨a, -⟩
    · rw [a]; exact lH1f
    · rw [a]; exact lH2f
  have J00 : va_up I1 219 (va_up (I1 219) 0 0) 219 0 = 0 := by rw [up_eq, up_eq]
  have i220 : va_up I1 219 (va_up (I1 219) 0 0) 220 = I 220 := by rw [up_ne (by decide), qc.1 220 (by decide)]
  have rfn : ∀ v : Int64, mcal mT (d + 10) 256 [.ref 219, .int x, .int y] (G1, I1, up2 L1 251 0 v) = f_X12_turning (d + 9) 29 [.ref 219, .int x, .int y] [] (G1, va_up I1 219 (va_up (I1 219) 0 0), up2 L1 251 0 v) := by
    intro v
    have my := r_may1 (d + 8) 1 lMf (I := va_up I1 219 (va_up (I1 219) 0 0)) (L := up2 L1 251 0 v) J00
    have ih := rh_ok (d + 7) (L := up2 L1 251 0 v) (I := va_up I1 219 (va_up (I1 219) 0 0)) 2 lMf J00 (by decide) (by rw [i220]; exact s2) s3 c3
    rw [q_X12_turning_, e_X12_turning_0]
    simp only [↓vM lMf, show ∀ v, up2 I1 219 0 v = va_up I1 219 (va_up (I1 219) 0 v) from fun _ => rfl, ↓mcI_of (wok _ _ _), ↓mcI_of my, if_neg z1, ↓mcI_of ih]
  have cl : mcal mT (d + 9) 137 [.ref 100, .int x, .int y] (G, I, L) = (if r = -1 then f_X11_turning (d + 8) 37 [mU, mU, mU, mU] [.int (-1)] (G1, I1, L1) else f_X11_turning (d + 8) 32 [.ref 100, mU, mU, .int r] [] (G1, I1, L1)) := by
    rw [q_X11_turning_, e_X11_turning_0]
    simp only [no_ok (d + 6) c0 (G, I, L), nw_ok (d + 7) c1 (G, I, L), ↓vB lB, nh_ok (d + 7) (L := L) lB lP lH s1 s3 c3, mcV_v, ↓mcI_of a1]
  rcases a3 with ⟨rfl, rf⟩ | ⟨c, hc, rfl, rf⟩
  · obtain ⟨J', K', y1, y2⟩ := rf (Int32.toInt64 (-1))
    refine bl_fin (r := -1) q g1 g2 hz a2 (fun w1 w2 => w_turning (d + 9) (cl.trans ?_) lB.1 w1 w2) ((rfn _).trans ?_) y2
    · rw [if_pos rfl, e_X11_turning_37]
    · rw [e_X12_turning_29]
      simp only [↓vM lMf, ↓mcI_of y1, if_true, e_X12_turning_45, e_X12_turning_46]
  · obtain ⟨J', K', y1, y2, y3, -⟩ := rf (Int32.toInt64 (Int32.ofNat (tsm (mq n) c (skn I) (mq n))))
    have to := c_tO (d + 5) (L := L1) (I := I1) (c := c) (sk := skn I) lBf lPf lHf lSf (by rw [qc.1 h (by omega)]; exact s4) s6 hc (fun k hk => by rw [qc.1 133 (by decide)]; exact ⟨(skn_e hS hk).1, (skn_e hS hk).2.2⟩)
    refine bl_fin (r := Int32.ofNat (tsm (mq n) c (skn I) (mq n))) q g1 g2 hz a2 (fun w1 w2 => w_turning (d + 9) (cl.trans ?_) lB.1 w1 w2) ((rfn _).trans ?_) y2
    · rw [if_neg (nm1 (by omega)), e_X11_turning_32]
      simp only [↓vB lBf, ↓mcI_of to, e_X11_turning_37]
    · rw [e_X12_turning_29]
      simp only [↓vM lMf, ↓mcI_of y1, if_neg z1, y3, e_X12_turning_46]
theorem ca_balanced (d : Nat) (q : Rel z h hs bl bs cl cs nr n nh M hN w lc mc kc ta rm pi mk G I L) (g1 : G.1 ≤ 252 + z + 25 * kc) (g2 : G.2.1 ≤ 60000 + 6 * z + 4000 * kc) (hz : z + 1 ≤ 512) (x y u : Int32) : Ste (d + 10) 311 255 [.int x, .int y, .int u] (z + 1) G I L := by
  obtain ⟨lB, lX, lP, -, ⟨lH1, lH2⟩, ⟨lS, -⟩, ⟨lT, -⟩, ⟨lU, -⟩, lD, -, -, lM, ⟨o1, o2⟩, -, hh, -⟩ := id q.1
  have ho := q.2.1
  obtain ⟨s1, s2, s3, s4, s5, s6⟩ := ho_sz ho
  have lH : LayH G h := by
    rcases hh with ⟨a, -⟩ | ⟨a, -⟩
    · rw [a]; exact lH1
    · rw [a]; exact lH2
  have hb : 103 ≤ h ∧ h + 14 ≤ 132 := by omega
  obtain ⟨-, -, ⟨hF, hHN⟩, hS, ⟨hT, hMz⟩, hU, hD, hTp, hEg, hLg, -, -, -, -⟩ := id q
  have z1 : ¬ (1 : Int32) = 0 := by decide
  have I00 : (va_up I 219 (va_up (I 219) 0 0)) 219 0 = 0 := by rw [up_eq, up_eq]
  have I01 : (va_up I 219 (va_up (I 219) 0 0)) 220 = I 220 := up_ne (by decide)
  by_cases c9 : x < 0 ∨ ¬ x < Int32.ofNat n
  · have hc : mcal mT (d + 9) 136 [.ref 100, .int x, .int y, .int u] (G, I, L) = some (.inr "java/util/NoSuchElementException", (G, I, L)) := by
      simp only [q_X11_balanced_, e_X11_balanced_0, ↓vB lB, nk_no (d + 7) (L := L) lB lP lH s4 c9, mcV_e, mthr_e]
    refine Ste_e (k := 1) q g1 g2 hz (by decide) (w_balanced_N (d + 9) hc lB.1) fun lM => ?_
    simp only [q_X12_balanced_, e_X12_balanced_0, ↓vM lM, up2_e, ↓mcI_of (rk_no (d + 7) (L := L) (I := (va_up I 219 (va_up (I 219) 0 0))) lM I00 (by rw [I01]; exact s5) s6 c9), if_true, e_X12_balanced_35, up_eq, up_up]
  obtain ⟨k0, hk0, rfl⟩ := i_rm (by omega) c9
  have c3 : ¬ nr = 0 := by
    rcases ho with ⟨-, a, -⟩ | p
    · omega
    · have := p.1; omega
  have rk : ∀ (G' : mG) (I' : Nat → Nat → Int32) (L' : Nat → Nat → Int64), LayM G' 219 → I' 219 0 = 0 → I' 220 = I 220 → mcal mT (d + 9) 232 [.ref 219, .int (Int32.ofNat k0)] (G', I', L') = some (.inl (some (.int 1)), (G', I', L')) := fun G' I' L' lM e0 e1 => rk_ok (d + 7) (L := L') (I := I') lM e0 (by rw [e1]; exact s5) s6 c9
  have bad : mcal mT (d + 9) 136 [.ref 100, .int (Int32.ofNat k0), .int y, .int u] (G, I, L) = some (.inr "java/lang/IllegalArgumentException", (G, I, L)) → ¬ (¬ (y < -4000 ∨ 4000 < y) ∧ ¬ (u < 0 ∨ 9999 < u)) → Ste (d + 10) 311 255 [.int (Int32.ofNat k0), .int y, .int u] (z + 1) G I L := by
    intro hc hx
    refine Ste_e (k := 2) q g1 g2 hz (by decide) (w_balanced_A (d + 9) hc lB.1) fun lM => ?_
    have my := r_may0 (d + 8) 2 lM (I := va_up I 219 (va_up (I 219) 0 0)) (L := L) I00 (by decide)
    have wa : mcal mT (d + 9) 254 [.ref 219, .int y, .int u] (gC G, va_up I 219 (va_up (I 219) 0 0), L) = some (.inl (some (.int 0)), (gC G, va_up I 219 (va_up (I 219) 0 0), L)) := r_isWanted (d + 7) false ⟨fun p => absurd p (by decide), fun p => absurd p hx⟩
    simp only [q_X12_balanced_, e_X12_balanced_0, ↓vM lM, up2_e, ↓mcI_of (rk _ _ L lM I00 I01), if_neg z1, ↓mcI_of wa, ↓mcI_of my, if_true, e_X12_balanced_35, up_eq, up_up]
  by_cases c0 : y < -4000 ∨ 4000 < y
  · refine bad ?_ (fun p => p.1 c0)
    simp only [q_X11_balanced_, e_X11_balanced_0, ↓vB lB, nk_ok (d + 7) (L := L) lB lP lH s4 c9, no_no (d + 6) c0 (G, I, L), mcV_v, mcV_e, mthr_e]
  by_cases c1 : u < 0 ∨ 9999 < u
  · refine bad ?_ (fun p => p.2 c1)
    simp only [q_X11_balanced_, e_X11_balanced_0, ↓vB lB, nk_ok (d + 7) (L := L) lB lP lH s4 c9, no_ok (d + 6) c0 (G, I, L), nw_no (d + 7) c1 (G, I, L), mcV_v, mcV_e, mthr_e]
  have wok : ∀ (G' : mG) (I' : Nat → Nat → Int32) (L' : Nat → Nat → Int64), mcal mT (d + 9) 254 [.ref 219, .int y, .int u] (G', I', L') = some (.inl (some (.int 1)), (G', I', L')) := fun G' I' L' => r_isWanted (d + 7) true ⟨fun _ => ⟨c0, c1⟩, fun _ => rfl⟩
  obtain ⟨r, G1, I1, L1, a1, a2, a3⟩ := bl_core d q g1 g2 hz y u c3
  obtain ⟨lyf, -, -, -, qc⟩ := id a2
  obtain ⟨lBf, -, lPf, -, ⟨lH1f, lH2f⟩, ⟨lSf, -⟩, -⟩ := id lyf
  have lMf : LayM G1 219 := lyf.2.2.2.2.2.2.2.2.2.2.2.1
  have lHf : LayH G1 h := by
    rcases hh with ⟨a, -⟩ | ⟨a, -⟩
    · rw [a]; exact lH1f
    · rw [a]; exact lH2f
  have J00 : va_up I1 219 (va_up (I1 219) 0 0) 219 0 = 0 := by rw [up_eq, up_eq]
  have i220 : va_up I1 219 (va_up (I1 219) 0 0) 220 = I 220 := by rw [up_ne (by decide), qc.1 220 (by decide)]
  have rfn : ∀ v : Int64, mcal mT (d + 10) 255 [.ref 219, .int (Int32.ofNat k0), .int y, .int u] (G1, I1, up2 L1 251 0 v) = f_X12_balanced (d + 9) 37 [.ref 219, .int (Int32.ofNat k0), .int y, .int u] [] (G1, va_up I1 219 (va_up (I1 219) 0 0), up2 L1 251 0 v) := by
    intro v
    have my := r_may1 (d + 8) 2 lMf (I := va_up I1 219 (va_up (I1 219) 0 0)) (L := up2 L1 251 0 v) J00
    have ih := rh_ok (d + 7) (L := up2 L1 251 0 v) (I := va_up I1 219 (va_up (I1 219) 0 0)) 3 lMf J00 (by decide) (by rw [i220]; exact s2) s3 c3
    rw [q_X12_balanced_, e_X12_balanced_0]
    simp only [↓vM lMf, show ∀ v, up2 I1 219 0 v = va_up I1 219 (va_up (I1 219) 0 v) from fun _ => rfl, ↓mcI_of (rk G1 _ (up2 L1 251 0 v) lMf J00 i220), ↓mcI_of (wok _ _ _), ↓mcI_of my, if_neg z1, ↓mcI_of ih]
  have cl : mcal mT (d + 9) 136 [.ref 100, .int (Int32.ofNat k0), .int y, .int u] (G, I, L) = (if r = -1 then some (.inl (some (.int (-1))), (G1, I1, L1)) else f_X11_balanced (d + 8) 33 [.ref 100, .int (Int32.ofNat k0), mU, mU, .int r] [] (G1, I1, L1)) := by
    rw [q_X11_balanced_, e_X11_balanced_0]
    simp only [↓vB lB, nk_ok (d + 7) (L := L) lB lP lH s4 c9, no_ok (d + 6) c0 (G, I, L), nw_ok (d + 7) c1 (G, I, L), mcV_v, ↓mcI_of a1]
  rcases a3 with ⟨rfl, rf⟩ | ⟨c, hc, rfl, rf⟩
  · obtain ⟨J', K', y1, y2⟩ := rf (Int32.toInt64 (-1))
    refine bl_fin (r := -1) q g1 g2 hz a2 (fun w1 w2 => w_balanced (d + 9) (cl.trans ?_) lB.1 w1 w2) ((rfn _).trans ?_) y2
    · rw [if_pos rfl]
    · rw [e_X12_balanced_37]
      simp only [↓vM lMf, ↓mcI_of y1, if_true, e_X12_balanced_55, e_X12_balanced_56]
  · have m4 := mq_le n
    have t4 : I1 h 10 = Int32.ofNat n := by rw [qc.1 h (by omega)]; exact s4
    have br := c_bR (d + 7) (L := L1) (I := I1) lBf lPf lHf t4 s6
    obtain ⟨J', K', y1, y2, -, y4⟩ := rf (Int32.toInt64 (if k0 < mq n then Int32.ofNat (dgt (mq n) c k0) else I 133 k0))
    refine bl_fin (r := if k0 < mq n then Int32.ofNat (dgt (mq n) c k0) else I 133 k0) q g1 g2 hz a2 (fun w1 w2 => w_balanced (d + 9) (cl.trans ?_) lB.1 w1 w2) ((rfn _).trans ?_) y2
    · rw [if_neg (nm1 (by omega)), e_X11_balanced_33]
      by_cases p : k0 < mq n
      · have p' : ¬ Int32.ofNat (mq n) ≤ Int32.ofNat k0 := fun t => by have := (i_le (by omega) (by omega)).mp t; omega
        simp only [↓vB lBf, ↓mcI_of br, if_neg p', ↓mcI_of (c_sW (d + 6) (L := L1) (I := I1) lBf lPf lHf t4 s6 hc p), e_X11_balanced_63, if_pos p]
      · have p' : Int32.ofNat (mq n) ≤ Int32.ofNat k0 := (i_le (by omega) (by omega)).mpr (by omega)
        have e133 : I1 (132 + 1) k0 = I 133 k0 := by rw [qc.1 133 (by decide)]
        simp (disch := omega) only [↓vB lBf, ↓mcI_of br, if_pos p', e_X11_balanced_51, ↓vP lPf, ↓vS lSf, e_X11_balanced_63, if_neg p, e133]
    · rw [e_X12_balanced_37]
      simp (disch := omega) only [↓vM lMf, ↓mcI_of y1, if_neg z1, y4 k0 hk0, e_X12_balanced_56]
end
