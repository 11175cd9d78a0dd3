/-! windows, air, holidays, blame -/
/-- as Ste, of a truth -/
def SteB (d W R : Nat) (args : List Value) (z : Nat) (G : mG) (I : Nat → Nat → Int32) (L : Nat → Nat → Int64) : Prop := ∃ k b G1 I1 L1 I2 L2, mcal mT d W (.ref 100 :: (args ++ [.ref 251])) (G, I, L) = some (.inl (some (.int k)), (G1, I1, L1)) ∧ I1 0 = I 0 ∧ gN G1 0 = gN G 0 ∧ mcal mT d R (.ref 219 :: args) (G1, I1, L1) = some (.inl (some (.int b)), (G1, I2, L2)) ∧ I2 0 = I 0 ∧ I2 219 0 = k ∧ (k = 0 → L2 251 0 = if b = 0 then 0 else 1) ∧ RelE z G1 I2 L2
section
variable {z h hs bl bs cl cs nr n nh M hN w lc mc kc ta : Nat} {rm pi mk : Nat → Nat} {G : mG} {I : Nat → Nat → Int32} {L : Nat → Nat → Int64}
theorem SteB_e {d W R : Nat} {args : List Value} {k : Int32} (q : Rel z h hs bl bs cl cs nr n nh M hN w lc mc kc ta rm pi mk G I L) (g1 : G.1 ≤ 252 + z + 25 * kc) (g2 : G.2.1 ≤ 60000 + 6 * z + 4000 * kc) (hz : z + 1 ≤ 512) (hk : ¬ k = 0) (hw : mcal mT d W (.ref 100 :: (args ++ [.ref 251])) (G, I, L) = some (.inl (some (.int k)), (gC G, I, L))) (hr : LayM (gC G) 219 → mcal mT d R (.ref 219 :: args) (gC G, I, L) = some (.inl (some (.int 0)), (gC G, va_up I 219 (va_up (I 219) 0 k), L))) : SteB d W R args (z + 1) G I L := by
  obtain ⟨a, b, c, e, f, u, v, h1, h2, h3, h4, h5, h6, h7, h8⟩ := Ste_e (W := W) (R := R) q g1 g2 hz hk hw hr
  have : a = k := by
    have := h1.symm.trans hw
    simp only [Option.some.injEq, Prod.mk.injEq, Sum.inl.injEq, Value.int.injEq] at this
    exact this.1
  exact ⟨a, b, c, e, f, u, v, h1, h2, h3, h4, h5, h6, fun p => absurd (this ▸ p) hk, h8⟩
theorem SteB_n {d W R : Nat} {args : List Value} {v : Int32} {I1 I2 : Nat → Nat → Int32} (g1 : G.1 ≤ 252 + z + 25 * kc) (g2 : G.2.1 ≤ 60000 + 6 * z + 4000 * kc) (hw : mcal mT d W (.ref 100 :: (args ++ [.ref 251])) (G, I, L) = some (.inl (some (.int 0)), (G, I1, up2 L 251 0 (if v = 0 then 0 else 1)))) (hr : ∀ L', mcal mT d R (.ref 219 :: args) (G, I1, L') = some (.inl (some (.int v)), (G, I2, L'))) (e1 : I1 0 = I 0) (e2 : I2 0 = I 0) (e3 : I2 219 0 = 0) (hq : ∃ h hs bl bs cl cs nr n nh M hN w lc mc ta rm pi mk, Rel (z + 1) h hs bl bs cl cs nr n nh M hN w lc mc kc ta rm pi mk G I2 (up2 L 251 0 (if v = 0 then 0 else 1))) : SteB d W R args (z + 1) G I L := by
  obtain ⟨h, hs, bl, bs, cl, cs, nr, n, nh, M, hN, w, lc, mc, ta, rm, pi, mk, hq⟩ := hq
  exact ⟨0, v, G, I1, _, I2, _, hw, e1, rfl, hr _, e2, e3, fun _ => by rw [up2_e, up_eq, up_eq], h, hs, bl, bs, cl, cs, nr, n, nh, M, hN, w, lc, mc, kc, ta, rm, pi, mk, hq, by omega, by omega⟩
theorem ca_open (d : Nat) (q : Rel z h hs bl bs cl cs nr n nh M hN w lc mc kc ta rm pi mk G I L) (g1 : G.1 ≤ 252 + z + 25 * kc) (g2 : G.2.1 ≤ 60000 + 6 * z + 4000 * kc) (hz : z + 1 ≤ 512) (x : Int32) (y : Int32) : SteB (d + 6) 302 240 [.int x, .int y] (z + 1) G I L := by
  obtain ⟨lB, lX, lP, -, ⟨lH1, lH2⟩, ⟨lS, -⟩, ⟨lT, -⟩, ⟨lU, -⟩, lD, -, -, lM, ⟨o1, o2⟩, -, hh, -⟩ := id q.1
  have ho := q.2.1
  obtain ⟨s1, s2, s3, s4, s5, s6⟩ := ho_sz ho
  have lH : LayH G h := by
    rcases hh with ⟨a, -⟩ | ⟨a, -⟩
    · rw [a]; exact lH1
    · rw [a]; exact lH2
  have hb : 103 ≤ h ∧ h + 14 ≤ 132 := by omega
  obtain ⟨-, -, ⟨hF, hHN⟩, hS, ⟨hT, hMz⟩, hU, hD, hTp, hEg, hLg, -, -, -, -⟩ := id q
  have z1 : ¬ (1 : Int32) = 0 := by decide
  have I00 : (va_up I 219 (va_up (I 219) 0 0)) 219 0 = 0 := by rw [up_eq, up_eq]
  have I01 : (va_up I 219 (va_up (I 219) 0 0)) 220 = I 220 := up_ne (by decide)
  by_cases c0 : x < 0 ∨ ¬ x < Int32.ofNat nr
  · have hc : mcal mT (d + 5) 119 [.ref 100, .int x, .int y] (G, I, L) = some (.inr "java/lang/IndexOutOfBoundsException", (G, I, L)) := by
      simp only [q_X11_open_, e_X11_open_0, ↓vB lB, ↓vP lP, ↓vT lT, ↓vH lH, ↓vS lS, nr_no (d + 3) (L := L) lB lP lH s1 c0, mcV_v, mcV_e, mthr_e]
    refine SteB_e (k := 1) q g1 g2 hz (by decide) (w_open_I (d + 5) hc lB.1) fun lM => ?_
    simp only [q_X12_open_, e_X12_open_0, e_X12_open_16, ↓vM lM, up2_e, r_within, mcI_v, ↓mcI_of (ri_no (d + 3) (L := L) (I := (va_up I 219 (va_up (I 219) 0 0))) 1 lM I00 (by decide) (by rw [I01]; exact s2) s3 c0), ↓mcI_of (r_may0 (d + 4) 1 lM (I := (va_up I 219 (va_up (I 219) 0 0))) (L := L) I00 (by decide)), up_eq, up_up, if_true, if_neg z1, mb0]
  obtain ⟨k0, hk0, rfl⟩ := i_rm (by omega) c0
  have tb : ∀ X, mbool (bit (I 139 1) (Int32.ofNat k0)) X = X := by
    intro X
    rw [bit_v]
    rcases btv_0 (x := I 139 1) (k := k0) with p | p
    · rw [p]; exact mb0
    · rw [p]; exact mb1
  have hc : mcal mT (d + 5) 119 [.ref 100, .int (Int32.ofNat k0), .int y] (G, I, L) = some (.inl (some (.int (btv (I 139 1) k0))), (G, va_up I 139 (va_up (I 139) 1 (wbt (I 139 1) (Int32.ofNat k0) y)), L)) := by
    simp (disch := omega) only [q_X11_open_, e_X11_open_0, ↓vB lB, ↓vP lP, ↓vT lT, ↓vH lH, ↓vS lS, nr_ok (d + 3) (L := L) lB lP lH s1 c0, mcV_v, c_withBit, c_hasBit, mcI_v, tb, up2_e]
    rw [bit_v]
  have J00 : (va_up (va_up I 139 (va_up (I 139) 1 (wbt (I 139 1) (Int32.ofNat k0) y))) 219 (va_up (I 219) 0 0)) 219 0 = 0 := by rw [up_eq, up_eq]
  have J01 : (va_up (va_up I 139 (va_up (I 139) 1 (wbt (I 139 1) (Int32.ofNat k0) y))) 219 (va_up (I 219) 0 0)) 220 = I 220 := by rw [up_ne (by decide), up_ne (by omega)]
  have e : I 223 (32 + k0) = btv (I 139 1) k0 := hT.2.2.1.2 k0 (by omega)
  refine SteB_n g1 g2 (w_open (d + 5) hc lB.1 o1 o2) (I2 := va_up (va_up (va_up I 139 (va_up (I 139) 1 (wbt (I 139 1) (Int32.ofNat k0) y))) 219 (va_up (I 219) 0 0)) 223 (va_up (I 223) (32 + k0) (if y = 0 then 0 else 1))) (fun L' => ?_) ?_ ?_ ?_ ?_
  · have t2 : ∀ v : Int32, (∀ X, mbool v X = X) → f_X12_open (d + 5) 34 [.ref 219, .int (Int32.ofNat k0), .int y, mU] [.int v] (G, (va_up (va_up I 139 (va_up (I 139) 1 (wbt (I 139 1) (Int32.ofNat k0) y))) 219 (va_up (I 219) 0 0)), L') = some (.inl (some (.int v)), (G, va_up (va_up (va_up I 139 (va_up (I 139) 1 (wbt (I 139 1) (Int32.ofNat k0) y))) 219 (va_up (I 219) 0 0)) 223 (va_up (I 223) (32 + k0) (if y = 0 then 0 else 1)), L')) := by
      intro v hv
      rw [e_X12_open_34]
      by_cases y0 : y = 0
      · simp (disch := omega) only [↓vM lM, if_pos y0, e_X12_open_51, e_X12_open_52, ixA, up2_e, up_ne, hv]
      · simp (disch := omega) only [↓vM lM, if_neg y0, e_X12_open_52, ixA, up2_e, up_ne, hv]
    simp (disch := omega) only [q_X12_open_, e_X12_open_0, e_X12_open_16, ↓vM lM, up2_e, r_within, mcI_v, ↓mcI_of (ri_ok (d + 3) (L := L') (I := (va_up (va_up I 139 (va_up (I 139) 1 (wbt (I 139 1) (Int32.ofNat k0) y))) 219 (va_up (I 219) 0 0))) 1 lM J00 (by decide) (by rw [J01]; exact s2) s3 c0), ↓mcI_of (r_may1 (d + 4) 1 lM (I := (va_up (va_up I 139 (va_up (I 139) 1 (wbt (I 139 1) (Int32.ofNat k0) y))) 219 (va_up (I 219) 0 0))) (L := L') J00), up_ne, if_neg z1, ixA]
    rcases btv_0 (x := I 139 1) (k := k0) with p | p
    · rw [e, p, if_neg (by decide), e_X12_open_33]
      exact t2 0 fun X => mb0
    · rw [e, p, if_pos rfl]
      exact t2 1 fun X => mb1
  · exact up_ne (by omega)
  · rw [up_ne (by decide), up_ne (by decide), up_ne (by omega)]
  · rw [up_ne (by decide), up_eq, up_eq]
  · refine ⟨h, hs, bl, bs, cl, cs, nr, n, nh, M, hN, w, lc, mc, ta, rm, pi, mk, Rel_sta q hz (fun a h1 h2 h3 => by rw [up_ne h3, up_ne h2, up_ne (by omega)]) (fun k hk => by rw [up_ne (by decide), up_eq, up_ne hk]) (fun j hj hj2 => ?_) (fun a ha => up_ne ha) ?_⟩
    · rw [up_eq]
      exact up_ne (by omega)
    · obtain ⟨b1, b2, ⟨b3, b4⟩, ⟨b5, b6⟩, b7, b8, b9, b10, b11⟩ := hT
      unfold StR
      simp (disch := omega) only [up_ne, up_eq, up2_e]
      refine ⟨b1, fun k hk => by first | exact b2 k hk | (simp (disch := omega) only [up_ne]; exact b2 k hk), ⟨wbt_r (s := 8) (by decide) (by omega) b3, fun j hj => ?_⟩, ⟨b5, fun p hp => by first | exact b6 p hp | (simp (disch := omega) only [up_ne]; exact b6 p hp)⟩, b7, fun k hk => by first | exact b8 k hk | (simp (disch := omega) only [up_ne]; exact b8 k hk), fun k hk => by first | exact b9 k hk | (simp (disch := omega) only [up_ne]; exact b9 k hk), fun k hk => by first | exact b10 k hk | (simp (disch := omega) only [up_ne]; exact b10 k hk), fun k hk => by first | exact b11 k hk | (simp (disch := omega) only [up_ne]; exact b11 k hk)⟩
      rw [wbt_v (by omega) hj]
      by_cases p : j = k0
      · rw [p, up_eq, if_pos rfl]
      · rw [up_ne (by omega), if_neg p]
        exact b4 j hj
theorem ca_air (d : Nat) (q : Rel z h hs bl bs cl cs nr n nh M hN w lc mc kc ta rm pi mk G I L) (g1 : G.1 ≤ 252 + z + 25 * kc) (g2 : G.2.1 ≤ 60000 + 6 * z + 4000 * kc) (hz : z + 1 ≤ 512) (x : Int32) (y : Int32) : SteB (d + 6) 303 241 [.int x, .int y] (z + 1) G I L := by
  obtain ⟨lB, lX, lP, -, ⟨lH1, lH2⟩, ⟨lS, -⟩, ⟨lT, -⟩, ⟨lU, -⟩, lD, -, -, lM, ⟨o1, o2⟩, -, hh, -⟩ := id q.1
  have ho := q.2.1
  obtain ⟨s1, s2, s3, s4, s5, s6⟩ := ho_sz ho
  have lH : LayH G h := by
    rcases hh with ⟨a, -⟩ | ⟨a, -⟩
    · rw [a]; exact lH1
    · rw [a]; exact lH2
  have hb : 103 ≤ h ∧ h + 14 ≤ 132 := by omega
  obtain ⟨-, -, ⟨hF, hHN⟩, hS, ⟨hT, hMz⟩, hU, hD, hTp, hEg, hLg, -, -, -, -⟩ := id q
  have z1 : ¬ (1 : Int32) = 0 := by decide
  have I00 : (va_up I 219 (va_up (I 219) 0 0)) 219 0 = 0 := by rw [up_eq, up_eq]
  have I01 : (va_up I 219 (va_up (I 219) 0 0)) 220 = I 220 := up_ne (by decide)
  by_cases c0 : x < 0 ∨ 3 < x
  · have hc : mcal mT (d + 5) 120 [.ref 100, .int x, .int y] (G, I, L) = some (.inr "java/lang/IllegalArgumentException", (G, I, L)) := by
      simp only [q_X11_air_, e_X11_air_0, ↓vB lB, ↓vP lP, ↓vT lT, ↓vH lH, ↓vS lS, np_no (d + 2) c0 (G, I, L), mcV_v, mcV_e, mthr_e]
    refine SteB_e (k := 1) q g1 g2 hz (by decide) (w_air_A (d + 5) hc lB.1) fun lM => ?_
    simp only [q_X12_air_, e_X12_air_0, e_X12_air_21, ↓vM lM, up2_e, r_within, mcI_v, wi_0 (x := x) (a := 0) (b := 3) c0, ↓mcI_of (r_may0 (d + 4) 1 lM (I := (va_up I 219 (va_up (I 219) 0 0))) (L := L) I00 (by decide)), up_eq, up_up, if_true, if_neg z1, mb0]
  obtain ⟨k0, hk0, rfl⟩ := i_rng (n := 3) c0 (by decide)
  have tb : ∀ X, mbool (bit (I 139 2) (Int32.ofNat k0)) X = X := by
    intro X
    rw [bit_v]
    rcases btv_0 (x := I 139 2) (k := k0) with p | p
    · rw [p]; exact mb0
    · rw [p]; exact mb1
  have hc : mcal mT (d + 5) 120 [.ref 100, .int (Int32.ofNat k0), .int y] (G, I, L) = some (.inl (some (.int (btv (I 139 2) k0))), (G, va_up I 139 (va_up (I 139) 2 (wbt (I 139 2) (Int32.ofNat k0) y)), L)) := by
    simp (disch := omega) only [q_X11_air_, e_X11_air_0, ↓vB lB, ↓vP lP, ↓vT lT, ↓vH lH, ↓vS lS, np_ok (d + 2) c0 (G, I, L), mcV_v, c_withBit, c_hasBit, mcI_v, tb, up2_e]
    rw [bit_v]
  have J00 : (va_up (va_up I 139 (va_up (I 139) 2 (wbt (I 139 2) (Int32.ofNat k0) y))) 219 (va_up (I 219) 0 0)) 219 0 = 0 := by rw [up_eq, up_eq]
  have J01 : (va_up (va_up I 139 (va_up (I 139) 2 (wbt (I 139 2) (Int32.ofNat k0) y))) 219 (va_up (I 219) 0 0)) 220 = I 220 := by rw [up_ne (by decide), up_ne (by omega)]
  have e : I 223 (40 + k0) = btv (I 139 2) k0 := hT.2.2.2.1.2 k0 (by omega)
  refine SteB_n g1 g2 (w_air (d + 5) hc lB.1 o1 o2) (I2 := va_up (va_up (va_up I 139 (va_up (I 139) 2 (wbt (I 139 2) (Int32.ofNat k0) y))) 219 (va_up (I 219) 0 0)) 223 (va_up (I 223) (40 + k0) (if y = 0 then 0 else 1))) (fun L' => ?_) ?_ ?_ ?_ ?_
  · have t2 : ∀ v : Int32, (∀ X, mbool v X = X) → f_X12_air (d + 5) 39 [.ref 219, .int (Int32.ofNat k0), .int y, mU] [.int v] (G, (va_up (va_up I 139 (va_up (I 139) 2 (wbt (I 139 2) (Int32.ofNat k0) y))) 219 (va_up (I 219) 0 0)), L') = some (.inl (some (.int v)), (G, va_up (va_up (va_up I 139 (va_up (I 139) 2 (wbt (I 139 2) (Int32.ofNat k0) y))) 219 (va_up (I 219) 0 0)) 223 (va_up (I 223) (40 + k0) (if y = 0 then 0 else 1)), L')) := by
      intro v hv
      rw [e_X12_air_39]
      by_cases y0 : y = 0
      · simp (disch := omega) only [↓vM lM, if_pos y0, e_X12_air_56, e_X12_air_57, ixA, up2_e, up_ne, hv]
      · simp (disch := omega) only [↓vM lM, if_neg y0, e_X12_air_57, ixA, up2_e, up_ne, hv]
    simp (disch := omega) only [q_X12_air_, e_X12_air_0, e_X12_air_21, ↓vM lM, up2_e, r_within, mcI_v, wi_1 (x := (Int32.ofNat k0)) (a := 0) (b := 3) c0, ↓mcI_of (r_may1 (d + 4) 1 lM (I := (va_up (va_up I 139 (va_up (I 139) 2 (wbt (I 139 2) (Int32.ofNat k0) y))) 219 (va_up (I 219) 0 0))) (L := L') J00), up_ne, if_neg z1, ixA]
    rcases btv_0 (x := I 139 2) (k := k0) with p | p
    · rw [e, p, if_neg (by decide), e_X12_air_38]
      exact t2 0 fun X => mb0
    · rw [e, p, if_pos rfl]
      exact t2 1 fun X => mb1
  · exact up_ne (by omega)
  · rw [up_ne (by decide), up_ne (by decide), up_ne (by omega)]
  · rw [up_ne (by decide), up_eq, up_eq]
  · refine ⟨h, hs, bl, bs, cl, cs, nr, n, nh, M, hN, w, lc, mc, ta, rm, pi, mk, Rel_sta q hz (fun a h1 h2 h3 => by rw [up_ne h3, up_ne h2, up_ne (by omega)]) (fun k hk => by rw [up_ne (by decide), up_eq, up_ne hk]) (fun j hj hj2 => ?_) (fun a ha => up_ne ha) ?_⟩
    · rw [up_eq]
      exact up_ne (by omega)
    · obtain ⟨b1, b2, ⟨b3, b4⟩, ⟨b5, b6⟩, b7, b8, b9, b10, b11⟩ := hT
      unfold StR
      simp (disch := omega) only [up_ne, up_eq, up2_e]
      refine ⟨b1, fun k hk => by first | exact b2 k hk | (simp (disch := omega) only [up_ne]; exact b2 k hk), ⟨b3, fun p hp => by first | exact b4 p hp | (simp (disch := omega) only [up_ne]; exact b4 p hp)⟩, ⟨wbt_r (s := 4) (by decide) (by omega) b5, fun j hj => ?_⟩, b7, fun k hk => by first | exact b8 k hk | (simp (disch := omega) only [up_ne]; exact b8 k hk), fun k hk => by first | exact b9 k hk | (simp (disch := omega) only [up_ne]; exact b9 k hk), fun k hk => by first | exact b10 k hk | (simp (disch := omega) only [up_ne]; exact b10 k hk), fun k hk => by first | exact b11 k hk | (simp (disch := omega) only [up_ne]; exact b11 k hk)⟩
      rw [wbt_v (by omega) (by omega)]
      by_cases p : j = k0
      · rw [p, up_eq, if_pos rfl]
      · rw [up_ne (by omega), if_neg p]
        exact b6 j hj
end
