/-! call: wish -/
section
variable {G G2 : mG} {I J : Nat → Nat → Int32} {L K : Nat → Nat → Int64} {h hs bl bs cl cs nr n nh M kc k0 N : Nat} {rm pi mk : Nat → Nat}
theorem ws_run (d e : Nat) (more room : Int32) (q : LyR G h hs bl bs cl cs kc mk) (lM : LayM G2 219) (hb : 103 ≤ h ∧ h + 14 ≤ 132) (hB : BsR I J L K h nr n nh M rm pi) (hM : M < 2147470000) (hk : k0 < n) (hN : N ≤ 240) (hr : room = -1 ∨ ∃ r, r < nr ∧ room = Int32.ofNat r) : ∃ w1 w2 I1 L1 I2 L2 J' K', mcal mT (d + 6) 146 [.ref 100, .int (Int32.ofNat k0), .int more, .int (Int32.ofNat N), .int room] (G, I, L) = some (.inl (some (.int w1)), (gS G 156 0 (some h), I1, L1)) ∧ mcal mT (d + 6) 146 [.ref 100, .int (Int32.ofNat k0), .int 0, .int (Int32.ofNat N), .int room] (gS G 156 0 (some h), I1, L1) = some (.inl (some (.int w2)), (gS (gS G 156 0 (some h)) 156 0 (some h), I2, L2)) ∧ f_X12_wish (e + 6) 79 [.ref 219, .int (Int32.ofNat k0), .int more, .int (Int32.ofNat N), .int room, mU, mU, mU, mU] [] (G2, J, K) = some (.inl (some (.int (w1 - w2))), (G2, J', K')) ∧ QuC I I2 L L2 ∧ QuR J J' K K' := by
  obtain ⟨hH, ⟨f15, f16, f18, f20, f21, f24⟩, hS, hT⟩ := id hB
  have hn8 := hH.1.2.2.2.2.2
  have hnr8 := hH.1.2.2.1
  have z1 : ¬ (1 : Int32) = 0 := by decide
  have pr : ∀ (G0 : mG) (I0 : Nat → Nat → Int32) (L0 : Nat → Nat → Int64) (mo : Int32) (J0 : Nat → Nat → Int32) (K0 : Nat → Nat → Int64), LyR G0 h hs bl bs cl cs kc mk → BsR I0 J L0 K h nr n nh M rm pi → J0 220 = J 220 → (∀ j, j < 173 → J0 223 j = J 223 j) → J0 219 15 = -1 → J0 219 16 = -1 → J0 219 20 = 0 → J0 219 21 = 0 → J0 219 24 = 1 → (∀ k, k < n → (if k = k0 then mo else 0) = (if J0 219 18 = Int32.ofNat k then J0 219 19 else 0)) → ∃ v T I' L' J' K', mcal mT (d + 6) 146 [.ref 100, .int (Int32.ofNat k0), .int mo, .int (Int32.ofNat N), .int room] (G0, I0, L0) = some (.inl (some (.int (if room = -1 then v else T))), (gS G0 156 0 (some h), I', L')) ∧ mcal mT (e + 6) 227 [.ref 219, .int (Int32.ofNat N)] (G2, J0, K0) = some (.inl (some (.int v)), (G2, J', K')) ∧ (∀ r, r < nr → room = Int32.ofNat r → J' 223 r = T) ∧ QuC I0 I' L0 L' ∧ FrM J0 J' K0 K' 219 := by
    intro G0 I0 L0 mo J0 K0 ly hb0 e220 e223 j15 j16 j20 j21 j24 hw
    obtain ⟨b1, -, b3, b4⟩ := hb0
    exact ws_pair d e mo room ly lM hb (HsR_c (fun _ _ _ => rfl) e220 b1) (SeR_c b3 hn8 (fun _ _ _ => rfl) (fun j hj => e223 j (by omega))) (StR_c (lv' := K 225) b4 hn8 hnr8 (fun _ _ _ => rfl) rfl e220 (fun j hj => e223 j (by omega)) (fun _ _ => rfl)) j15 j16 j20 j21 (by rw [j24]; exact z1) hk hw hN hM hr
  have wk : ∀ (mo : Int32) (F : Nat → Int32), F 18 = Int32.ofNat k0 → F 19 = mo → ∀ k, k < n → (if k = k0 then mo else 0) = (if F 18 = Int32.ofNat k then F 19 else 0) := by
    intro mo F h1 h2 k hk'
    rw [h1, h2]
    by_cases c : k = k0
    · rw [if_pos c, if_pos (by rw [c])]
    · rw [if_neg c, if_neg (fun p => c (i_eq (by omega) (by omega) |>.mp p).symm)]
  have wn : ∀ (F : Nat → Int32), F 18 = -1 → ∀ k, k < n → (if k = k0 then (0 : Int32) else 0) = (if F 18 = Int32.ofNat k then F 19 else 0) := by
    intro F h1 k hk'
    rw [h1, ite_self, if_neg (show ¬ (-1 : Int32) = Int32.ofNat k from fun p => nm1 (p := k) (by omega) p.symm)]
  -- the class's first run
  obtain ⟨v1, T1, I1, L1, -, -, a1, -, -, a2, -⟩ := pr G I L more (va_up J 219 (va_up (va_up (va_up (J 219) 24 1) 18 (Int32.ofNat k0)) 19 more)) K q hB (up_ne (by decide)) (fun j _ => by rw [up_ne (by decide)]) (by rw [up_eq, up_ne (by decide), up_ne (by decide), up_ne (by decide)]; exact f15) (by rw [up_eq, up_ne (by decide), up_ne (by decide), up_ne (by decide)]; exact f16) (by rw [up_eq, up_ne (by decide), up_ne (by decide), up_ne (by decide)]; exact f20) (by rw [up_eq, up_ne (by decide), up_ne (by decide), up_ne (by decide)]; exact f21) (by rw [up_eq, up_ne (by decide), up_ne (by decide), up_eq]) (wk more _ (by rw [up_eq, up_ne (by decide), up_eq]) (by rw [up_eq, up_eq]))
  obtain ⟨q2, -⟩ := LyR_T q h
  have kp := r_keep (e + 5) (J := J) (K := K) lM
  have k9 : ∀ k, k ≠ 24 → rKp J 219 k = J 219 k := fun k hk => by unfold rKp; rw [up_ne (by decide), up_eq, up_ne hk]
  have k24 : rKp J 219 24 = 1 := by unfold rKp; rw [up_ne (by decide), up_eq, up_eq]
  have ko : ∀ a, a ≠ 219 → a ≠ 224 → rKp J a = J a := fun a h1 h2 => by unfold rKp; rw [up_ne h2, up_ne h1]
  have k4 : rKp J 224 = pre 173 (J 223) (J 224) := by unfold rKp; rw [up_eq]
  -- the reference's first, the class's second
  obtain ⟨v2, T2, I2, L2, J2, K2, b1, b2, b3, b4, b5⟩ := pr (gS G 156 0 (some h)) I1 L1 0 (rKp J) (va_up K 226 (pre 16 (K 225) (K 226))) q2 (BsR_i hB hb a2) (ko 220 (by decide) (by decide)) (fun j _ => by rw [ko 223 (by decide) (by decide)]) (by rw [k9 15 (by decide)]; exact f15) (by rw [k9 16 (by decide)]; exact f16) (by rw [k9 20 (by decide)]; exact f20) (by rw [k9 21 (by decide)]; exact f21) k24 (wn _ (by rw [k9 18 (by decide)]; exact f18))
  obtain ⟨c1, c2⟩ := b5
  have gv := r_give (e + 5) (J := J2) (K := K2) lM
  generalize hJ4 : va_up (va_up J2 223 (pre 173 (J2 224) (J2 223))) 219 (va_up (va_up (J2 219) 18 (Int32.ofNat k0)) 19 more) = J4
  generalize hK4 : va_up K2 225 (pre 16 (K2 226) (K2 225)) = K4 at gv
  have o4 : ∀ a, a ≠ 219 → a ≠ 223 → J4 a = J2 a := fun a h1 h2 => by rw [← hJ4, up_ne h1, up_ne h2]
  have o9 : ∀ k, k ≠ 18 → k ≠ 19 → k ≠ 24 → J4 219 k = J 219 k := fun k h1 h2 h3 => by rw [← hJ4, up_eq, up_ne h2, up_ne h1, c1 219 (by decide) (by decide), k9 k h3]
  have o3 : ∀ j, j < 173 → J4 223 j = J 223 j := fun j hj => by rw [← hJ4, up_ne (by decide), up_eq, pre_lt hj, c1 224 (by decide) (by decide), k4, pre_lt hj]
  obtain ⟨v3, T3, I3, L3, J5, K5, d1, d2, d3, d4, d5⟩ := pr G I L more J4 K4 q hB (by rw [o4 220 (by decide) (by decide), c1 220 (by decide) (by decide), ko 220 (by decide) (by decide)]) o3 (by rw [o9 15 (by decide) (by decide) (by decide)]; exact f15) (by rw [o9 16 (by decide) (by decide) (by decide)]; exact f16) (by rw [o9 20 (by decide) (by decide) (by decide)]; exact f20) (by rw [o9 21 (by decide) (by decide) (by decide)]; exact f21) (by rw [← hJ4, up_eq, up_ne (by decide), up_ne (by decide), c1 219 (by decide) (by decide)]; exact k24) (wk more _ (by rw [← hJ4, up_eq, up_ne (by decide), up_eq]) (by rw [← hJ4, up_eq, up_eq]))
  obtain ⟨w31, -, -, -⟩ := some_i a1 d1
  obtain ⟨e1, e2⟩ := d5
  have en := r_ends (e + 4) (J := va_up J5 219 (va_up (J5 219) 18 (-1))) (K := K5) lM
  refine ⟨_, _, I1, L1, I2, L2, va_up (va_up (va_up J5 219 (va_up (J5 219) 18 (-1))) 223 (pre 173 (va_up J5 219 (va_up (J5 219) 18 (-1)) 224) (va_up J5 219 (va_up (J5 219) 18 (-1)) 223))) 219 (va_up (va_up J5 219 (va_up (J5 219) 18 (-1)) 219) 24 0), va_up K5 225 (pre 16 (K5 226) (K5 225)), a1, b1, ?_, QuC_t a2 b4, ?_⟩
  · rw [e_X12_wish_79]
    simp only [↓vM lM, ↓mcV_of kp, ↓mcI_of b2]
    have tail : ∀ y0 : Int32, (∀ r, r < nr → room = Int32.ofNat r → y0 = T2) → f_X12_wish (e + 6) 109 [.ref 219, .int (Int32.ofNat k0), .int more, .int (Int32.ofNat N), .int room, .int v2, mU, mU, mU] [.int y0] (G2, J2, K2) = some (.inl (some (.int ((if room = -1 then v1 else T1) - (if room = -1 then v2 else T2)))), (G2, va_up (va_up (va_up J5 219 (va_up (J5 219) 18 (-1))) 223 (pre 173 (va_up J5 219 (va_up (J5 219) 18 (-1)) 224) (va_up J5 219 (va_up (J5 219) 18 (-1)) 223))) 219 (va_up (va_up J5 219 (va_up (J5 219) 18 (-1)) 219) 24 0), va_up K5 225 (pre 16 (K5 226) (K5 225)))) := by
      intro y0 hy
      rw [e_X12_wish_109]
      simp (disch := omega) only [↓vM lM, ↓mcV_of gv, up2_e, up_eq, up_up, up_ne]
      rw [hJ4]
      simp only [↓mcI_of d2]
      rcases hr with rfl | ⟨r, hr1, rfl⟩
      · rw [if_pos rfl, if_pos rfl, if_pos rfl, e_X12_wish_151]
        simp only [↓vM lM, up2_e, ↓mcV_of en, if_true, e_X12_wish_181]
        rw [if_pos rfl, if_pos rfl] at w31
        rw [w31]
        simp (disch := omega) only [up_eq, up_ne]
      · have q1 : ¬ Int32.ofNat r = -1 := nm1 (by omega)
        rw [if_neg q1, if_neg q1] at w31
        rw [if_neg q1, if_neg q1, if_neg q1, e_X12_wish_142]
        simp (disch := omega) only [↓vM lM, ixZ, e_X12_wish_151, up2_e, ↓mcV_of en, if_neg q1, e_X12_wish_176, e_X12_wish_181]
        rw [d3 r hr1 rfl, w31, hy r hr1 rfl]
        simp (disch := omega) only [up_eq, up_ne]
    rcases hr with rfl | ⟨r, hr1, rfl⟩
    · rw [if_pos rfl]
      exact tail 0 (fun r hr1 hr2 => absurd hr2.symm (nm1 (by omega)))
    · have q1 : ¬ Int32.ofNat r = -1 := nm1 (by omega)
      rw [if_neg q1, e_X12_wish_100]
      simp (disch := omega) only [↓vM lM, ixZ]
      exact tail _ (fun r' hr1' hr2' => b3 r' hr1' hr2' ▸ by rw [(i_eq (by omega) (by omega)).mp hr2'])
  · refine ⟨fun a h1 h2 h3 h4 h5 => ?_, fun k h1 h2 h3 h4 h5 => ?_, fun j hj => ?_, fun a h1 h2 => ?_, fun j hj => ?_⟩
    · rw [up_ne h1, up_ne h2, up_ne h1, e1 a h2 h4, o4 a h1 h2, c1 a h2 h4, ko a h1 h3]
    · rw [up_eq, up_eq]
      by_cases c : k = 24
      · rw [c, up_eq, f24]
      rw [up_ne c]
      by_cases c' : k = 18
      · rw [c', up_eq, f18]
      rw [up_ne c', e1 219 (by decide) (by decide), o9 k c' h2 c]
    · rw [up_ne (by decide), up_eq, pre_lt hj, up_ne (by decide), e1 224 (by decide) (by decide), o4 224 (by decide) (by decide), c1 224 (by decide) (by decide), k4, pre_lt hj]
    · rw [up_ne h1, e2 a h1, ← hK4, up_ne h1, c2 a h1, up_ne h2]
    · rw [up_eq, pre_lt hj, e2 226 (by decide), ← hK4, up_ne (by decide), c2 226 (by decide), up_eq, pre_lt hj]
end
section
variable {z h hs bl bs cl cs nr n nh M hN w lc mc kc ta : Nat} {rm pi mk : Nat → Nat} {G : mG} {I : Nat → Nat → Int32} {L : Nat → Nat → Int64}
theorem ca_wish (d : Nat) (q : Rel z h hs bl bs cl cs nr n nh M hN w lc mc kc ta rm pi mk G I L) (g1 : G.1 ≤ 252 + z + 25 * kc) (g2 : G.2.1 ≤ 60000 + 6 * z + 4000 * kc) (hz : z + 1 ≤ 512) (x y u t : Int32) : Ste (d + 10) 314 259 [.int x, .int y, .int u, .int t] (z + 1) G I L := by
  obtain ⟨lB, lX, lP, -, ⟨lH1, lH2⟩, ⟨lS, -⟩, ⟨lT, -⟩, ⟨lU, -⟩, lD, -, -, lM, ⟨o1, o2⟩, -, hh, -⟩ := id q.1
  have ho := q.2.1
  obtain ⟨s1, s2, s3, s4, s5, s6⟩ := ho_sz ho
  have lH : LayH G h := by
    rcases hh with ⟨a, -⟩ | ⟨a, -⟩
    · rw [a]; exact lH1
    · rw [a]; exact lH2
  have hb : 103 ≤ h ∧ h + 14 ≤ 132 := by omega
  obtain ⟨-, -, ⟨hF, hHN⟩, hS, ⟨hT, hMz⟩, hU, hD, hTp, hEg, hLg, -, -, -, -⟩ := id q
  have z1 : ¬ (1 : Int32) = 0 := by decide
  have I00 : (va_up I 219 (va_up (I 219) 0 0)) 219 0 = 0 := by rw [up_eq, up_eq]
  have I01 : (va_up I 219 (va_up (I 219) 0 0)) 220 = I 220 := up_ne (by decide)
  by_cases c0 : x < 0 ∨ ¬ x < Int32.ofNat n
  · have hc : mcal mT (d + 9) 145 [.ref 100, .int x, .int y, .int u, .int t] (G, I, L) = some (.inr "java/util/NoSuchElementException", (G, I, L)) := by
      simp only [q_X11_wish_, e_X11_wish_0, ↓vB lB, nk_no (d + 7) (L := L) lB lP lH s4 c0, mcV_e, mthr_e]
    refine Ste_e (k := 1) q g1 g2 hz (by decide) (w_wish_N (d + 9) hc lB.1) fun lM => ?_
    simp only [q_X12_wish_, e_X12_wish_0, ↓vM lM, up2_e, ↓mcI_of (rk_no (d + 7) (L := L) (I := (va_up I 219 (va_up (I 219) 0 0))) lM I00 (by rw [I01]; exact s5) s6 c0), if_true, e_X12_wish_77, up_eq, up_up]
  obtain ⟨k0, hk0, rfl⟩ := i_rm (by omega) c0
  by_cases c1 : ¬ t = -1 ∧ (t < 0 ∨ ¬ t < Int32.ofNat nr)
  · have hc : mcal mT (d + 9) 145 [.ref 100, .int (Int32.ofNat k0), .int y, .int u, .int t] (G, I, L) = some (.inr "java/lang/IndexOutOfBoundsException", (G, I, L)) := by
      simp only [q_X11_wish_, e_X11_wish_0, ↓vB lB, nk_ok (d + 7) (L := L) lB lP lH s4 c0, mcV_v, if_neg c1.1, nr_no (d + 7) (L := L) lB lP lH s1 c1.2, mcV_e, mthr_e]
    refine Ste_e (k := 2) q g1 g2 hz (by decide) (w_wish_I (d + 9) hc lB.1) fun lM => ?_
    simp only [q_X12_wish_, e_X12_wish_0, ↓vM lM, up2_e, ↓mcI_of (rk_ok (d + 7) (L := L) (I := (va_up I 219 (va_up (I 219) 0 0))) lM I00 (by rw [I01]; exact s5) s6 c0), if_neg z1, if_neg c1.1, ↓mcI_of (ri_no (d + 7) (L := L) (I := (va_up I 219 (va_up (I 219) 0 0))) 2 lM I00 (by decide) (by rw [I01]; exact s2) s3 c1.2), if_true, e_X12_wish_77, up_eq, up_up]
  have hcl : f_X11_wish (d + 8) 0 [.ref 100, .int (Int32.ofNat k0), .int y, .int u, .int t] [] (G, I, L) = f_X11_wish (d + 8) 17 [.ref 100, .int (Int32.ofNat k0), .int y, .int u, .int t] [] (G, I, L) := by
    by_cases ct : t = -1
    · simp only [e_X11_wish_0, ↓vB lB, nk_ok (d + 7) (L := L) lB lP lH s4 c0, mcV_v, if_pos ct]
    · simp only [e_X11_wish_0, ↓vB lB, nk_ok (d + 7) (L := L) lB lP lH s4 c0, mcV_v, if_neg ct, nr_ok (d + 7) (L := L) lB lP lH s1 (fun p => c1 ⟨ct, p⟩)]
  have hre : ∀ (G' : mG) (I' : Nat → Nat → Int32) (L' : Nat → Nat → Int64), LayM G' 219 → I' 220 = I 220 → f_X12_wish (d + 9) 0 [.ref 219, .int (Int32.ofNat k0), .int y, .int u, .int t, mU, mU, mU, mU] [] (G', I', L') = f_X12_wish (d + 9) 29 [.ref 219, .int (Int32.ofNat k0), .int y, .int u, .int t, mU, mU, mU, mU] [] (G', va_up I' 219 (va_up (I' 219) 0 0), L') := by
    intro G' I' L' lM i220
    have J00 : (va_up I' 219 (va_up (I' 219) 0 0)) 219 0 = 0 := by rw [up_eq, up_eq]
    have J01 : (va_up I' 219 (va_up (I' 219) 0 0)) 220 = I 220 := by rw [up_ne (by decide)]; exact i220
    have a1 := rk_ok (d + 7) (L := L') (I := (va_up I' 219 (va_up (I' 219) 0 0))) lM J00 (by rw [J01]; exact s5) s6 c0
    by_cases ct : t = -1
    · simp only [e_X12_wish_0, ↓vM lM, up2_e, ↓mcI_of a1, if_neg z1, if_pos ct]
    · simp only [e_X12_wish_0, ↓vM lM, up2_e, ↓mcI_of a1, if_neg z1, if_neg ct, ↓mcI_of (ri_ok (d + 7) (L := L') (I := (va_up I' 219 (va_up (I' 219) 0 0))) 2 lM J00 (by decide) (by rw [J01]; exact s2) s3 (fun p => c1 ⟨ct, p⟩))]
  obtain ⟨hnr0, hHs, -, -, -, -, hty⟩ : 0 < nr ∧ HsR I I h 219 nr n rm pi ∧ I h 0 = I 220 165 ∧ I h 16 = I 220 160 ∧ irng (I 220 160) 1 999 ∧ (∀ r, r < nr → I (h + 2) r = I 220 (8 + r) ∧ irng (I 220 (8 + r)) 0 4000) ∧ (∀ k, k < n → irng (I 220 (144 + k)) 0 3) := by
    rcases ho with ⟨-, a, -⟩ | p
    · omega
    · exact p
  have e12 : I (h + 12) k0 = I 220 (144 + k0) := (hHs.2.2.2.2.2.2.2.1 k0 hk0).2.2.1
  have tz : I 220 (144 + k0) ≤ 0 ↔ I 220 (144 + k0) = 0 := by
    have := (hty k0 hk0).1
    constructor
    · intro p
      apply i_inj
      rw [Int32.le_iff_toInt_le] at p
      have e0 : (0 : Int32).toInt = 0 := by decide
      omega
    · intro p; rw [p]; decide
  have tp := c_hasTap (d + 6) (G := G) (I := I) (L := L) (n := n) (k := k0) lH s4 s6 (by omega)
  have tv : tap I h n k0 = if I 220 (144 + k0) = 0 then 0 else 1 := by unfold tap; rw [if_pos hk0, e12]
  rw [tv] at tp
  have bad : mcal mT (d + 9) 145 [.ref 100, .int (Int32.ofNat k0), .int y, .int u, .int t] (G, I, L) = some (.inr "java/lang/IllegalArgumentException", (G, I, L)) → (I 220 (144 + k0) = 0 ∨ (y < 0 ∨ 200 < y) ∨ (u < 0 ∨ 240 < u)) → Ste (d + 10) 314 259 [.int (Int32.ofNat k0), .int y, .int u, .int t] (z + 1) G I L := by
    intro hc hx
    refine Ste_e (k := 3) q g1 g2 hz (by decide) (w_wish_A (d + 9) hc lB.1) fun lM => ?_
    have my := r_may0 (d + 8) 3 lM (I := va_up I 219 (va_up (I 219) 0 0)) (L := L) I00 (by decide)
    show mcal mT (d + 10) 259 [.ref 219, .int (Int32.ofNat k0), .int y, .int u, .int t] _ = _
    rw [q_X12_wish_, hre _ _ _ lM rfl, e_X12_wish_29]
    by_cases d1 : I 220 (144 + k0) ≤ 0
    · simp (disch := omega) only [↓vM lM, ixA, I01, if_pos d1, e_X12_wish_69, e_X12_wish_70, ↓mcI_of my, if_true, e_X12_wish_77, up_eq, up_up]
    by_cases d2 : y < 0 ∨ 200 < y
    · simp (disch := omega) only [↓vM lM, ixA, I01, if_neg d1, r_within, mcI_v, wi_0 d2, if_true, e_X12_wish_69, e_X12_wish_70, ↓mcI_of my, e_X12_wish_77, up_eq, up_up]
    by_cases d3 : u < 0 ∨ 240 < u
    · simp (disch := omega) only [↓vM lM, ixA, I01, if_neg d1, r_within, mcI_v, wi_1 d2, wi_0 d3, if_neg z1, if_true, e_X12_wish_69, e_X12_wish_70, ↓mcI_of my, e_X12_wish_77, up_eq, up_up]
    · rcases hx with p | p | p
      · exact absurd (tz.mpr p) d1
      · exact absurd p d2
      · exact absurd p d3
  by_cases c2 : I 220 (144 + k0) = 0
  · refine bad ?_ (Or.inl c2)
    rw [if_pos c2] at tp
    rw [q_X11_wish_, hcl, e_X11_wish_17]
    simp only [↓vB lB, q_X11_needTap_, e_X11_needTap_0, ↓vP lP, ↓vH lH, ↓mcI_of tp, if_true, mcV_e, mthr_e]
  rw [if_neg c2] at tp
  have nt : mcal mT (d + 8) 168 [.ref 100, .int (Int32.ofNat k0)] (G, I, L) = some (.inl none, (G, I, L)) := by
    simp only [↓vB lB, q_X11_needTap_, e_X11_needTap_0, ↓vP lP, ↓vH lH, ↓mcI_of tp, if_neg z1, e_X11_needTap_22]
  by_cases c3 : y < 0 ∨ 200 < y
  · refine bad ?_ (Or.inr (Or.inl c3))
    rw [q_X11_wish_, hcl, e_X11_wish_17]
    simp only [↓vB lB, ↓mcV_of nt, nw_no (d + 7) c3 (G, I, L), mcV_e, mthr_e]
  by_cases c4 : u < 0 ∨ 240 < u
  · refine bad ?_ (Or.inr (Or.inr c4))
    rw [q_X11_wish_, hcl, e_X11_wish_17]
    simp only [↓vB lB, ↓mcV_of nt, nw_ok (d + 7) c3 (G, I, L), mcV_v, nw_no (d + 7) c4 (G, I, L), mcV_e, mthr_e]
  obtain ⟨N, hN2, rfl⟩ := i_rng (n := 240) c4 (by decide)
  have hrm : t = -1 ∨ ∃ r, r < nr ∧ t = Int32.ofNat r := by
    by_cases ct : t = -1
    · exact Or.inl ct
    · exact Or.inr (i_rm (by omega) (fun p => c1 ⟨ct, p⟩))
  have hbs : BsR I I L L h nr n nh M rm pi := ⟨hHs, hF, hS, hT⟩
  have zz : 999 * z ≤ 999 * 512 := Nat.mul_le_mul_left 999 (by omega)
  have hM : M < 2147470000 := by omega
  obtain ⟨w1, w2, I1, L1, I2, L2, -, -, a1, a2, -, a4, -⟩ := ws_run (d + 2) d (N := N) (G2 := G) y t q.1 lM hb hbs hM hk0 (by omega) hrm
  obtain ⟨ly1, -⟩ := LyR_T q.1 h
  obtain ⟨lyf, -⟩ := LyR_T ly1 h
  have lB1 := ly1.1
  have hc : mcal mT (d + 9) 145 [.ref 100, .int (Int32.ofNat k0), .int y, .int (Int32.ofNat N), .int t] (G, I, L) = some (.inl (some (.int (w1 - w2))), (gS (gS G 156 0 (some h)) 156 0 (some h), I2, L2)) := by
    rw [q_X11_wish_, hcl, e_X11_wish_17]
    simp only [↓vB lB, ↓mcV_of nt, nw_ok (d + 7) c3 (G, I, L), mcV_v, nw_ok (d + 7) c4 (G, I, L), ↓mcI_of a1, ↓vB lB1, ↓mcI_of a2]
  generalize hGf : gS (gS G 156 0 (some h)) 156 0 (some h) = Gf at hc lyf a2
  have gf1 : Gf.1 = G.1 := by rw [← hGf]; rfl
  have gf2 : Gf.2.1 = G.2.1 := by rw [← hGf]; rfl
  have gf3 : gN Gf 0 = gN G 0 := by rw [← hGf]; rfl
  have lMf : LayM Gf 219 := lyf.2.2.2.2.2.2.2.2.2.2.2.1
  obtain ⟨k1, k2⟩ := lyf.2.2.2.2.2.2.2.2.2.2.2.2.1
  have b0 := BsR_w (v := Int32.toInt64 (w1 - w2)) hbs a4
  obtain ⟨w1', w2', I1', L1', I2', L2', J', K', p1, p2, p3, -, p5⟩ := ws_run (d + 2) (d + 3) (N := N) (G2 := Gf) y t q.1 lMf hb b0 hM hk0 (by omega) hrm
  obtain ⟨rfl, -, rfl, rfl⟩ := some_i a1 p1
  rw [hGf] at p2
  obtain ⟨rfl, -, rfl, rfl⟩ := some_i a2 p2
  have i220 : I2' 220 = I 220 := a4.1 220 (by decide)
  have J00 : va_up I2' 219 (va_up (I2' 219) 0 0) 219 0 = 0 := by rw [up_eq, up_eq]
  have J01 : va_up I2' 219 (va_up (I2' 219) 0 0) 220 = I 220 := by rw [up_ne (by decide), i220]
  have hr : mcal mT (d + 10) 259 [.ref 219, .int (Int32.ofNat k0), .int y, .int (Int32.ofNat N), .int t] (Gf, I2', up2 L2' 251 0 (Int32.toInt64 (w1' - w2'))) = some (.inl (some (.int (w1' - w2'))), (Gf, J', K')) := by
    rw [q_X12_wish_, hre _ _ _ lMf i220, e_X12_wish_29]
    have my := r_may1 (d + 8) 3 lMf (I := va_up I2' 219 (va_up (I2' 219) 0 0)) (L := up2 L2' 251 0 (Int32.toInt64 (w1' - w2'))) J00
    have d1 : ¬ I 220 (144 + k0) ≤ 0 := fun p => c2 (tz.mp p)
    simp (disch := omega) only [↓vM lMf, ixA, J01, if_neg d1, r_within, mcI_v, wi_1 c3, wi_1 c4, if_neg z1, e_X12_wish_70, ↓mcI_of my]
    exact p3
  have qq := Qui_T a4 p5
  refine ⟨0, w1' - w2', Gf, I2', _, J', K', w_wish (d + 9) hc lB.1 k1 k2, a4.1 0 (by decide), gf3, hr, ?_, ?_, fun _ => ?_, h, hs, bl, bs, cl, cs, nr, n, nh, M, hN, w, lc, mc, kc, ta, rm, pi, mk, Rel_q q lyf (Nat.le_succ z) hz qq, by omega, by omega⟩
  · rw [qq.1 0 (by unfold Scr; omega)]
  · rw [p5.2.1 0 (by decide) (by decide) (by decide) (by decide) (by decide)]
    exact J00
  · rw [p5.2.2.2.1 251 (by decide) (by decide), up2_e, up_eq, up_eq]
end
