/-! the call: a house told -/
section
variable {G G2 : mG} {I J : Nat → Nat → Int32} {L K : Nat → Nat → Int64} {h hs bl bs cl cs kc : Nat} {mk : Nat → Nat}
/-- houses exchanged -/
theorem LyR_H (q : LyR G h hs bl bs cl cs kc mk) : LyR (gS (gS G 100 1 (some h)) 117 0 (some hs)) hs h bl bs cl cs kc mk := by
  obtain ⟨a1, a2, a3, ⟨ht, a4⟩, ⟨a5, a6⟩, ⟨a7, a8⟩, ⟨a9, a10⟩, ⟨a11, a12⟩, a13, ⟨a14, a15⟩, ⟨a16, a17⟩, a18, ⟨a19, a20⟩, a21, a22, a23, a24, a25, a26, a27, a28, a29⟩ := q
  refine ⟨?_, LayX_m (Sam_S (by omega)) (LayX_m (Sam_S (by omega)) a2), ?_, ⟨ht, LayP_m (Sam_S (by omega)) (LayP_m (Sam_S (by omega)) a4)⟩, ⟨LayH_m (Sam_S (by omega)) (LayH_m (Sam_S (by omega)) a5), LayH_m (Sam_S (by omega)) (LayH_m (Sam_S (by omega)) a6)⟩, ⟨LayS_m (Sam_S (by omega)) (LayS_m (Sam_S (by omega)) a7), LayS_m (Sam_S (by omega)) (LayS_m (Sam_S (by omega)) a8)⟩, ⟨LayT_m (Sam_S (by omega)) (LayT_m (Sam_S (by omega)) a9), LayT_m (Sam_S (by omega)) (LayT_m (Sam_S (by omega)) a10)⟩, ⟨LayU_m (Sam_S (by omega)) (LayU_m (Sam_S (by omega)) a11), LayU_m (Sam_S (by omega)) (LayU_m (Sam_S (by omega)) a12)⟩, LayD_m (Sam_S (by omega)) (LayD_m (Sam_S (by omega)) a13), ⟨LayW_m (Sam_S (by omega)) (LayW_m (Sam_S (by omega)) a14), LayW_m (Sam_S (by omega)) (LayW_m (Sam_S (by omega)) a15)⟩, ⟨LayW_m (Sam_S (by omega)) (LayW_m (Sam_S (by omega)) a16), LayW_m (Sam_S (by omega)) (LayW_m (Sam_S (by omega)) a17)⟩, LayM_m (Sam_S (by omega)) (LayM_m (Sam_S (by omega)) a18), ⟨a19, a20⟩, a21, ?_, a23, a24, a25, a26, ?_, ?_, a29⟩
  · unfold LayB at a1 ⊢
    simp (disch := decide) only [kS, nS, rS, up_eq, up_ne, up_up]
    obtain ⟨b1, b2, b3, b4⟩ := a1
    exact ⟨b1, b2, trivial, b4⟩
  · unfold LayP at a3 ⊢
    simp (disch := decide) only [kS, nS, rS, up_eq, up_ne, up_up]
    exact ⟨a3.1, trivial, a3.2.2⟩
  · omega
  · intro i hi
    obtain ⟨b1, b2, b3, b4⟩ := a27 i hi
    rw [rS, up_ne (by decide), rS, up_ne (by decide)]
    exact ⟨b1, LayK_m (Sam_S (by omega)) (LayK_m (Sam_S (by omega)) b2), b3, b4⟩
  · intro i hi h4
    rw [rS, up_ne (by decide), rS, up_ne (by decide)]
    exact a28 i hi h4
theorem r_hbad (r : Nat) (lM : LayM G 219) (h6 : ¬ J 219 6 = -1) : f_X12_house (r + 1) 139 [.ref 219, mU, mU] [] (G, J, K) = some (.inl (some (.int (J 219 7 - 10))), (G, va_up J 219 (va_up (J 219) 9 (J 219 6)), K)) := by
  have fi := r_fineN r (G := G) (J := va_up J 219 (va_up (J 219) 9 (J 219 6))) (K := K) lM (by rw [up_eq, up_ne (by decide)]; exact h6)
  rw [e_X12_house_139]
  simp only [↓vM lM, up2_e, ↓mcI_of fi, if_true, up_eq, up_ne (show (7 : Nat) ≠ 9 by decide)]
end
section
variable {z h hs bl bs cl cs nr n nh M hN w lc mc kc ta : Nat} {rm pi mk : Nat → Nat} {G : mG} {I : Nat → Nat → Int32} {L : Nat → Nat → Int64}
theorem ca_house (d : Nat) (q : Rel z h hs bl bs cl cs nr n nh M hN w lc mc kc ta rm pi mk G I L) (g1 : G.1 ≤ 252 + z + 25 * kc) (g2 : G.2.1 ≤ 60000 + 6 * z + 4000 * kc) (hz : z + 1 ≤ 512) (x : Int32) : Ste (d + 11) 294 197 [.int x] (z + 1) G I L := by
  obtain ⟨lB, lX, lP, -, ⟨lH1, lH2⟩, ⟨lS, -⟩, ⟨lT, -⟩, ⟨lU, -⟩, lD, -, -, lM, ⟨o1, o2⟩, -, hh, hbl, hcl, -⟩ := id q.1
  have lHs : LayH G hs := by
    rcases hh with ⟨-, a⟩ | ⟨-, a⟩
    · rw [a]; exact lH2
    · rw [a]; exact lH1
  have hsx : hs = 103 ∨ hs = 118 := by omega
  have z1 : ¬ (1 : Int32) = 0 := by decide
  have I00 : (va_up I 219 (va_up (I 219) 0 0)) 219 0 = 0 := by rw [up_eq, up_eq]
  obtain ⟨-, -, ⟨hF, hHN⟩, -, -, -, -, hTp, -, -, hBi, hCl, -⟩ := id q
  obtain ⟨t1, t2, t3, t4, t5⟩ := id hTp
  by_cases c0 : x < 0 ∨ Int32.ofNat ta < x
  · have hc : mcal mT (d + 10) 101 [.ref 100, .int x] (G, I, L) = some (.inr "java/lang/IllegalArgumentException", (G, I, L)) := by
      simp only [q_X11_house_, e_X11_house_0, ↓vB lB, ↓vX lX, t1, nw_no (d + 8) c0 (G, I, L), mcV_e, mthr_e]
    refine Ste_e (k := 1) q g1 g2 hz (by decide) (w_house_A (d + 10) hc lB.1) fun lM => ?_
    have my := r_may0 (d + 9) 1 lM (I := va_up I 219 (va_up (I 219) 0 0)) (L := L) I00 (by decide)
    have e3 : va_up I 219 (va_up (I 219) 0 0) 219 3 = Int32.ofNat ta := by rw [up_eq, up_ne (by decide)]; exact t2
    show mcal mT (d + 11) 197 [.ref 219, .int x] _ = _
    rw [q_X12_house_, e_X12_house_0]
    simp only [up2_e, e3]
    have fin : f_X12_house (d + 10) 22 [.ref 219, .int x, mU] [.ref 219] (gC G, va_up I 219 (va_up (I 219) 0 0), L) = some (.inl (some (.int 0)), (gC G, va_up I 219 (va_up (I 219) 0 1), L)) := by
      simp only [e_X12_house_22, e_X12_house_23, ↓vM lM, ↓mcI_of my, if_true, up_eq, up_up]
    simp only [↓vM lM]
    by_cases c1 : x < 0
    · rw [if_pos c1]; exact fin
    rw [if_neg c1, if_pos (c0.resolve_left c1)]
    exact fin
  obtain ⟨m, hm, rfl⟩ := i_rng (x := x) (n := ta) c0 (by omega)
  obtain ⟨B, hB⟩ := byts q
  obtain ⟨x1, x2, x3⟩ := bgT_x (I := I) (B := B) (m := m) (by omega) (fun j hj => (hB j (by omega)).1)
  have bg := c_begin (d + 8) (I := I) (L := L) (m := m) lX (by omega)
  have cl0 : ∀ X, mcal mT (d + 9) 33 [.ref hs, .ref 101] (G, bgT I m, L) = X → mcal mT (d + 10) 101 [.ref 100, .int (Int32.ofNat m)] (G, I, L) = mcI X (fun v8 h7 => (if v8 = 0 then gk h7.1 100 12 (gr h7.1 100 0 (fun b9 => gk h7.1 b9 11 (some (.inl (some (.int ((h7.2.1 b9 6) - 10))), h7)))) else f_X11_house (d + 9) 47 [.ref 100, mU, .ref hs] [] h7)) mthr := by
    intro X hX
    rw [q_X11_house_, e_X11_house_0]
    simp only [↓vB lB, ↓vX lX, ↓vH lHs, t1, nw_ok (d + 8) c0 (G, I, L), mcV_v, ↓mcV_of bg, hX]
  -- the reference's heap when it begins to read
  have rf : ∀ Ix : Nat → Nat → Int32, Ix 222 = I 222 → RdR B m 0 (rbT (va_up Ix 219 (va_up (Ix 219) 0 0)) m) ∧ rbT (va_up Ix 219 (va_up (Ix 219) 0 0)) m 219 3 = 0 := by
    intro Ix e222
    obtain ⟨y1, y2, y3⟩ := rbT_x (J := va_up Ix 219 (va_up (Ix 219) 0 0)) (B := B) (m := m) (by omega) (fun j hj => by rw [up_ne (by decide), e222, (hB j (by omega)).2]; exact (hB j (by omega)).1)
    exact ⟨y1, y3⟩
  -- the reference's way to it
  have rw1 : ∀ (Gx : mG) (Ix : Nat → Nat → Int32) (Lx : Nat → Nat → Int64), LayM Gx 219 → Ix 219 = I 219 → mcal mT (d + 11) 197 [.ref 219, .int (Int32.ofNat m)] (Gx, Ix, Lx) = f_X12_house (d + 10) 39 [.ref 219, mU, .int 0] [] (Gx, rbT (va_up Ix 219 (va_up (Ix 219) 0 0)) m, Lx) := by
    intro Gx Ix Lx lMx e9
    have my := r_may1 (d + 9) 1 lMx (I := va_up Ix 219 (va_up (Ix 219) 0 0)) (L := Lx) (by rw [up_eq, up_eq])
    have rb := r_begin (d + 9) (J := va_up Ix 219 (va_up (Ix 219) 0 0)) (K := Lx) (m := m) lMx
    have e3 : va_up Ix 219 (va_up (Ix 219) 0 0) 219 3 = Int32.ofNat ta := by rw [up_eq, up_ne (by decide), e9]; exact t2
    have n1 : ¬ Int32.ofNat m < 0 := i_neg (by omega)
    have n2 : ¬ Int32.ofNat ta < Int32.ofNat m := fun t => by have := (i_lt (by omega) (by omega)).mp t; omega
    rw [q_X12_house_, e_X12_house_0]
    simp only [show ∀ v, up2 Ix 219 0 v = va_up Ix 219 (va_up (Ix 219) 0 v) from fun _ => rfl, e3, ↓vM lMx, if_neg n1, if_neg n2, e_X12_house_23, ↓mcI_of my, if_neg z1, e_X12_house_32, ↓mcV_of rb]
  rcases h_pair d (d + 4) (G2 := G) (I := bgT I m) (J := rbT (va_up I 219 (va_up (I 219) 0 0)) m) (L := L) (K := L) (B := B) lX lHs lM hsx x1 x2 (rf I rfl).1 with ⟨If, Ja, na, pa, ca, a1, -, -, a4, a5, -, a7, -⟩ | ⟨If, Ja, ka, pa, a1, -, a3, a4, -, -, -, a8, -⟩
  · -- both have read it
    have lyf := LyR_H q.1
    have oI : ∀ y, y ≠ 101 → ¬ (hs ≤ y ∧ y < hs + 14) → If y = I y := fun y h1 h2 => by rw [a7.1 y h1 h2, bgT_o h1]
    have ia : If hs 1 = Int32.ofNat na := a4.1.2.2.2.1
    have na8 := a4.1.2.2.2.2.2.1
    have ib : If hs 10 = Int32.ofNat pa := a4.1.2.2.2.2.2.2.1
    have pa8 := a4.1.2.2.2.2.2.2.2.2
    generalize hGf : gS (gS G 100 1 (some h)) 117 0 (some hs) = Gf at lyf
    have gf1 : Gf.1 = G.1 := by rw [← hGf]; rfl
    have gf2 : Gf.2.1 = G.2.1 := by rw [← hGf]; rfl
    have gf3 : gN Gf 0 = gN G 0 := by rw [← hGf]; rfl
    obtain ⟨lB', -, lP', -, ⟨lH1', lH2'⟩, ⟨lS', -⟩, ⟨lT', -⟩, ⟨lU', -⟩, lD', -, -, lM', ⟨w1, w2⟩, -⟩ := id lyf
    have lHs' : LayH Gf hs := by
      rcases hh with ⟨-, a⟩ | ⟨-, a⟩
      · rw [a]; exact lH2'
      · rw [a]; exact lH1'
    have an := c_anew (d + 6) (I := If) (L := L) lB' lP' lHs' lS' lT' lU' lD' (by omega) ib pa8
    have bh : ∀ y, hs ≤ y → y < hs + 14 → ban If hs pa y = If y := fun y h1 h2 => ban_o (by omega)
    have hc : mcal mT (d + 10) 101 [.ref 100, .int (Int32.ofNat m)] (G, I, L) = some (.inl (some (.int (Int32.ofNat na))), (Gf, ban If hs pa, fil L 148 8 0)) := by
      have k1 : gK G 117 = 7 := lP.1
      have k2 : gR G 117 0 = some h := lP.2.1
      have k3 : gK (gS G 100 1 (some h)) 100 = 12 := lB.1
      have k4 : gK (gS G 100 1 (some h)) 117 = 7 := k1
      have k5 : gR (gS G 100 1 (some h)) 100 2 = some 117 := by rw [rS, up_eq, up_ne (by decide)]; exact lB.2.2.2.1
      rw [cl0 _ a1, mcI_v]
      simp only [if_neg z1, e_X11_house_47, ↓vB lB, ↓vP lP, ↓gk_t k3, ↓gr_t k5, ↓gk_t k4, hGf, ↓vB lB', ↓mcV_of an, ↓vH lHs', bh hs (Nat.le_refl _) (by omega), ia]
    have e222 : ban If hs pa 222 = I 222 := by rw [ban_o (by omega), oI 222 (by decide) (by omega)]
    have e219 : ban If hs pa 219 = I 219 := by rw [ban_o (by omega), oI 219 (by decide) (by omega)]
    obtain ⟨f1, f2⟩ := rf (ban If hs pa) e222
    generalize hK : up2 (fil L 148 8 0) 251 0 (Int32.toInt64 (Int32.ofNat na)) = K
    rcases h_pair d (d + 4) (G2 := Gf) (I := bgT I m) (J := rbT (va_up (ban If hs pa) 219 (va_up (ban If hs pa 219) 0 0)) m) (L := L) (K := K) (B := B) lX lHs lM' hsx x1 x2 f1 with ⟨If', Jb, nb, pb, cb, b1, b2, b3, b4, b5, b6, b7, b8⟩ | ⟨If', Jb, kb, pb, b1, -⟩
    rotate_left
    · obtain ⟨e, -⟩ := some_i a1 b1
      exact absurd e (by decide)
    obtain ⟨-, -, rfl, -⟩ := some_i b1 a1
    have enb : na = nb := (i_eq (by omega) (by have := b4.1.2.2.2.2.2.1; omega)).mp (ia.symm.trans b4.1.2.2.2.1)
    have epb : pa = pb := (i_eq (by omega) (by have := b4.1.2.2.2.2.2.2.2.2; omega)).mp (ib.symm.trans b4.1.2.2.2.2.2.2.1)
    subst enb
    subst epb
    have ra := r_anew (d + 8) (K := K) lM' b6 b4.1.2.2.2.2.2.2.2.1 pa8
    rw [b4.1.2.2.2.2.1] at ra
    obtain ⟨r1, r2, r3, r4, r5, r6⟩ := ra4_r (J := Jb) (n := pa)
    have ry : ∀ y, ¬ (y = 219 ∨ y = 220 ∨ y = 221 ∨ y = 223 ∨ y = 229 ∨ y = 230 ∨ y = 240) → ra4 Jb pa y = ban If hs pa y := fun y hy => by
      rw [ra4_o (by omega), b8.1 y (by omega) (by omega), rbT_o (by omega), up_ne (by omega)]
    have r9 : ∀ k, 10 ≤ k → k ≠ 23 → k ≠ 28 → k ≠ 51 → ra4 Jb pa 219 k = I 219 k := fun k k1 k2 k3 k4 => by
      rw [r1, up_ne k4, up_ne k3, up_ne k2, up_ne (by omega), b8.2 k (by omega) (by omega) (by omega), rbT_k (by omega), up_eq, up_ne (by omega), e219]
    have rI : ∀ y, ¬ (y = 219 ∨ y = 220 ∨ y = 221 ∨ y = 223 ∨ y = 229 ∨ y = 230 ∨ y = 240) → ¬ (y = 100 ∨ (132 ≤ y ∧ y < 156) ∨ y = 195 ∨ y = 215 ∨ y = 217) → y ≠ 101 → ¬ (hs ≤ y ∧ y < hs + 14) → ra4 Jb pa y = I y := fun y h1 h2 h3 h4 => by rw [ry y h1, ban_o h2, oI y h3 h4]
    obtain ⟨-, -, -, -, bx5⟩ := ban_x (I := If) (x := hs) (n := pa)
    have kx : ∀ y, y ≠ 251 → y ≠ 225 → va_up K 225 (pre 8 (fun _ => 0) (pre 16 (fun _ => 0) (K 225))) y = fil L 148 8 0 y := fun y h1 h2 => by rw [up_ne h2, ← hK, up2_e, up_ne h1]
    refine ⟨0, Int32.ofNat na, Gf, ban If hs pa, K, ra4 Jb pa, va_up K 225 (pre 8 (fun _ => 0) (pre 16 (fun _ => 0) (K 225))), ?_, ?_, gf3, ?_, ?_, ?_, fun _ => ?_, hs, h, bl, bs, cl, cs, na, pa, 0, 0, 0, 0, 0, 0, kc, 0, _, _, mk, ⟨lyf, An_ho b4 b3 (fun y h1 h2 => by rw [ry y (by omega), bh y h1 h2]) r2, ⟨?_, ?_⟩, An_se b4 (by omega) (fun y h1 h2 => ry y (by omega)) r3, ⟨An_st (P := L 148) (Q := K 225) b4 (by omega) (fun y h1 h2 => ry y (by omega)) r2 r3 ?_ ?_, Nat.zero_le _⟩, An_ta b4 (by omega) (fun y h1 h2 => ry y (by omega)) r2, An_di na8 (ry 195 (by omega)) r4, ?_, An_eg (ry 215 (by omega)) (ry 217 (by omega)) r5 r6, ?_, ?_, ?_, ⟨?_, Nat.zero_le _⟩, hz⟩, by omega, by omega⟩
    · rw [← hK]; exact w_house (d + 10) hc lB.1 w1 w2
    · rw [ban_o (by omega), oI 0 (by decide) (by omega)]
    · exact ((rw1 Gf (ban If hs pa) K lM' e219).trans b2).trans ra
    · exact rI 0 (by omega) (by omega) (by decide) (by omega)
    · rw [r1, up_ne (by decide), up_ne (by decide), up_ne (by decide), up_ne (by decide), b8.2 0 (by decide) (by decide) (by decide), rbT_k (by omega), up_eq, up_eq]
    · rw [up_ne (by decide), ← hK, up2_e, up_eq, up_eq]
    · unfold FlR at hF ⊢
      rw [r9 15 (by decide) (by decide) (by decide) (by decide), r9 16 (by decide) (by decide) (by decide) (by decide), r9 18 (by decide) (by decide) (by decide) (by decide), r9 20 (by decide) (by decide) (by decide) (by decide), r9 21 (by decide) (by decide) (by decide) (by decide), r9 24 (by decide) (by decide) (by decide) (by decide)]
      exact hF
    · rw [r1, up_ne (by decide), up_ne (by decide), up_eq]; rfl
    · rw [kx 148 (by decide) (by decide), fil_eq]
    · rw [up_eq]
    · refine ⟨?_, ?_, by decide, fun j hj => absurd hj (Nat.not_lt_zero _), ?_⟩
      · rw [ry 101 (by omega), ban_o (by omega), b7.2 1 (by omega), x3]; rfl
      · rw [r1, up_ne (by decide), up_ne (by decide), up_ne (by decide), up_ne (by decide), b8.2 3 (by decide) (by decide) (by decide), f2]; rfl
      · rw [ry 101 (by omega), ban_o (by omega), b5, r1, up_ne (by decide), up_ne (by decide), up_ne (by decide), up_eq]
    · refine ⟨⟨?_, ?_, by decide⟩, fun j hj => absurd hj (Nat.not_lt_zero _), fun j hj => absurd hj (Nat.not_lt_zero _), fun j hj => absurd hj (Nat.not_lt_zero _), fun j hj => absurd hj (Nat.not_lt_zero _)⟩
      · rw [ry 100 (by omega), bx5, up_ne (by decide), up_eq]; rfl
      · rw [r1, up_ne (by decide), up_eq]; rfl
    · exact BiR_c hBi (by rw [rI (bl + 1) (by omega) (by omega) (by omega) (by omega)]) (r9 36 (by decide) (by decide) (by decide) (by decide)) (rI (bl + 2) (by omega) (by omega) (by omega) (by omega)) (rI 235 (by omega) (by omega) (by omega) (by omega)) (rI 236 (by omega) (by omega) (by omega) (by omega))
    · exact ClR_c hCl (by rw [rI (cl + 1) (by omega) (by omega) (by omega) (by omega)]) (r9 44 (by decide) (by decide) (by decide) (by decide)) (rI (cl + 2) (by omega) (by omega) (by omega) (by omega)) (rI 241 (by omega) (by omega) (by omega) (by omega)) (rI 242 (by omega) (by omega) (by omega) (by omega))
    · refine ⟨?_, ?_, fun j hj => absurd hj (Nat.not_lt_zero _)⟩
      · rw [ry 100 (by omega), bx5, up_eq]; rfl
      · rw [r1, up_eq]; rfl
  · -- both have found a fault
    have hc : mcal mT (d + 10) 101 [.ref 100, .int (Int32.ofNat m)] (G, I, L) = some (.inl (some (.int (ka - 10))), (G, If, L)) := by
      rw [cl0 _ a1, mcI_v]
      simp only [if_true, ↓vB lB, ↓vX lX, a3]
    have oI : ∀ y, y ≠ 101 → ¬ (hs ≤ y ∧ y < hs + 14) → If y = I y := fun y h1 h2 => by rw [a8.1 y h1 h2, bgT_o h1]
    have e219 : If 219 = I 219 := oI 219 (by decide) (by omega)
    obtain ⟨f1, f2⟩ := rf If (oI 222 (by decide) (by omega))
    generalize hK : up2 L 251 0 (Int32.toInt64 (ka - 10)) = K
    rcases h_pair d (d + 4) (G2 := G) (I := bgT I m) (J := rbT (va_up If 219 (va_up (If 219) 0 0)) m) (L := L) (K := K) (B := B) lX lHs lM hsx x1 x2 f1 with ⟨If', Jb, nb, pb, cb, b1, -⟩ | ⟨If', Jb, kb, pb, b1, b2, b3, b4, b5, b6, b7, b8, b9⟩
    · obtain ⟨e, -⟩ := some_i a1 b1
      exact absurd e (by decide)
    obtain ⟨-, -, rfl, -⟩ := some_i b1 a1
    have ek : ka = kb := a3.symm.trans b3
    have nf : ¬ Jb 219 6 = -1 := by rw [b5]; exact nm1 (by omega)
    have bad := r_hbad (d + 9) (G := G) (J := Jb) (K := K) lM nf
    rw [b6, ← ek] at bad
    have ry : ∀ y, y ≠ 219 → y ≠ 221 → va_up Jb 219 (va_up (Jb 219) 9 (Jb 219 6)) y = If y := fun y h1 h2 => by rw [up_ne h1, b9.1 y h1 h2, rbT_o h1, up_ne h1]
    have r9 : ∀ k, 10 ≤ k → va_up Jb 219 (va_up (Jb 219) 9 (Jb 219 6)) 219 k = I 219 k := fun k k1 => by rw [up_eq, up_ne (by omega), b9.2 k (by omega) (by omega) (by omega), rbT_k (by omega), up_eq, up_ne (by omega), e219]
    have rI : ∀ y, y ≠ 219 → y ≠ 221 → y ≠ 101 → ¬ (hs ≤ y ∧ y < hs + 14) → va_up Jb 219 (va_up (Jb 219) 9 (Jb 219 6)) y = I y := fun y h1 h2 h3 h4 => by rw [ry y h1 h2, oI y h3 h4]
    refine ⟨0, ka - 10, G, If, K, va_up Jb 219 (va_up (Jb 219) 9 (Jb 219 6)), K, ?_, oI 0 (by decide) (by omega), rfl, ((rw1 G If K lM e219).trans b2).trans bad, rI 0 (by decide) (by decide) (by decide) (by omega), ?_, fun _ => ?_, h, hs, bl, bs, cl, cs, nr, n, nh, M, hN, w, lc, mc, kc, 0, rm, pi, mk, Rel_rd q q.1 hz (fun a ha => ?_) (fun k k1 _ _ _ _ => r9 k k1) ⟨?_, ?_, by decide, fun j hj => absurd hj (Nat.not_lt_zero _), ?_⟩ ?_ ?_ (fun a ha => by rw [← hK, up2_e, up_ne ha]), by omega, by omega⟩
    · rw [← hK]; exact w_house (d + 10) hc lB.1 o1 o2
    · rw [up_eq, up_ne (by decide), b9.2 0 (by decide) (by decide) (by decide), rbT_k (by omega), up_eq, up_eq]
    · rw [← hK, up2_e, up_eq, up_eq]
    · unfold RdX at ha
      exact rI a (by omega) (by omega) (by omega) (by omega)
    · rw [ry 101 (by decide) (by decide), a8.2 1 (by omega), x3]; rfl
    · rw [up_eq, up_ne (by decide), b9.2 3 (by decide) (by decide) (by decide), f2]; rfl
    · rw [ry 101 (by decide) (by decide), b4, up_eq, up_eq, b5]
    · exact BiR_c hBi (by rw [rI (bl + 1) (by omega) (by omega) (by omega) (by omega)]) (r9 36 (by decide)) (rI (bl + 2) (by omega) (by omega) (by omega) (by omega)) (rI 235 (by omega) (by omega) (by omega) (by omega)) (rI 236 (by omega) (by omega) (by omega) (by omega))
    · exact ClR_c hCl (by rw [rI (cl + 1) (by omega) (by omega) (by omega) (by omega)]) (r9 44 (by decide)) (rI (cl + 2) (by omega) (by omega) (by omega) (by omega)) (rI 241 (by omega) (by omega) (by omega) (by omega)) (rI 242 (by omega) (by omega) (by omega) (by omega))
end
