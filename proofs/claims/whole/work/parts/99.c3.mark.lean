/-! calls: mark, back -/
theorem gy_t {G : mG} {a k b : Nat} {f : Nat → Option mO} {g : Option mO} (h : gR G a k = some b) : gy G a k f g = f b := by unfold gy; rw [h]
theorem gy_n {G : mG} {a k : Nat} {f : Nat → Option mO} {g : Option mO} (h : gR G a k = none) : gy G a k f g = g := by unfold gy; rw [h]
section
variable {z h hs bl bs cl cs nr n nh M hN w lc mc kc ta : Nat} {rm pi mk : Nat → Nat} {G : mG} {I : Nat → Nat → Int32} {L : Nat → Nat → Int64}

theorem ca_mark (d : Nat) (q : Rel z h hs bl bs cl cs nr n nh M hN w lc mc kc ta rm pi mk G I L) (g1 : G.1 ≤ 252 + z + 25 * kc) (g2 : G.2.1 ≤ 60000 + 6 * z + 4000 * kc) (hz : z + 1 ≤ 512) : Ste2 (d + 4) 126 286 [] (z + 1) G I L := by
  obtain ⟨lB, lX, lP, -, ⟨lH1, lH2⟩, ⟨lS, -⟩, ⟨lT, -⟩, ⟨lU, -⟩, lD, -, -, lM, ⟨o1, o2⟩, -, hh, -⟩ := id q.1
  have ho := q.2.1
  obtain ⟨s1, s2, s3, s4, s5, s6⟩ := ho_sz ho
  have lH : LayH G h := by
    rcases hh with ⟨a, -⟩ | ⟨a, -⟩
    · rw [a]; exact lH1
    · rw [a]; exact lH2
  have hb : 103 ≤ h ∧ h + 14 ≤ 132 := by omega
  obtain ⟨-, -, ⟨hF, hHN⟩, hS, ⟨hT, hMz⟩, hU, hD, hTp, hEg, hLg, -, -, -, -⟩ := id q
  have z1 : ¬ (1 : Int32) = 0 := by decide
  have I00 : (va_up I 219 (va_up (I 219) 0 0)) 219 0 = 0 := by rw [up_eq, up_eq]
  have I01 : (va_up I 219 (va_up (I 219) 0 0)) 220 = I 220 := up_ne (by decide)
  obtain ⟨k1, k2, k3⟩ := q.2.2.2.2.2.2.2.2.2.2.2.2.1.1
  have mkc := q.2.2.2.2.2.2.2.2.2.2.2.2.1.2
  have kc4 := q.1.2.2.2.2.2.2.2.2.2.2.2.2.2.2.2.2.2.2.1
  have mks := q.1.2.2.2.2.2.2.2.2.2.2.2.2.2.2.2.2.2.2.2.1
  have mkn := q.1.2.2.2.2.2.2.2.2.2.2.2.2.2.2.2.2.2.2.2.2.1
  have h252 := q.1.2.2.2.2.2.2.2.2.2.2.2.2.2.2.2.2.2.1
  by_cases c4 : mc = 4
  · have e4 : ¬ Int32.ofNat mc < 4 := by rw [c4]; decide
    have e5 : Int32.ofNat mc = 4 := by rw [c4]; rfl
    refine Ste2_q (v := -1) q g1 g2 hz ?_ ?_
    · simp only [q_X11_mark_, e_X11_mark_0, ↓vB lB, k1, if_neg e4]
    · simp (disch := omega) only [q_X12_mark_, e_X12_mark_0, ↓vM lM, up2_e, up_eq, up_ne, k2, if_pos e5]
  have c4' : mc < 4 := by omega
  have e4 : Int32.ofNat mc < 4 := (i_lt (b := 4) (by omega) (by decide)).mpr c4'
  by_cases c : mc < kc
  · obtain ⟨I1, L1, I2, L2, p1, p2, p3, p4, p5⟩ := mk_step d q g1 g2 hz c
    refine ⟨Int32.ofNat (mc + 1), G, I1, L1, I2, L2, ?_, p2, rfl, p3, p4, h, hs, bl, bs, cl, cs, nr, n, nh, M, hN, w, lc, mc + 1, kc, ta, rm, pi, mk, p5, by omega, by omega⟩
    rw [q_X11_mark_, e_X11_mark_0]
    simp (disch := omega) only [↓vB lB, k1, if_pos e4, e_X11_mark_10, gy_t (mks mc c).1]
    exact p1
  · have ek : mc = kc := by omega
    obtain ⟨G2, I2, L2, n1, n2, n3, n4, n5⟩ := n_K (d + 1) (G := gA G 6 0 3) (I := va_up I G.1 (fun _ => 0)) (L := va_up L G.1 (fun _ => 0)) (x := G.1) (by rw [kA, up_eq]) rfl
    have o2 : ∀ a, a < G.1 → gK G2 a = gK G a ∧ gN G2 a = gN G a ∧ gR G2 a = gR G a ∧ I2 a = I a ∧ L2 a = L a := by
      intro a ha
      obtain ⟨b1, b2, b3, b4, b5⟩ := n5 a ha
      refine ⟨by rw [b1, kA, up_ne (by omega)], by rw [b2, nA, up_ne (by omega)], by rw [b3, rA, up_ne (by omega)], by rw [b4, up_ne (by omega)], by rw [b5, up_ne (by omega)]⟩
    have gr : Grw G G2 := ⟨by omega, fun a ha => (o2 a ha).1, fun a ha => (o2 a ha).2.1, fun a k ha => by rw [(o2 a ha).2.2.1]⟩
    have ly2 := LyR_g gr q.1
    have ly3 := LyR_S ly2 (by omega) n2 h252 (by omega) (fun i hi => (mks i hi).2.2.2)
    have q3 : Rel z h hs bl bs cl cs nr n nh M hN w lc mc (kc + 1) ta rm pi (va_up mk kc G.1) (gS G2 198 kc (some G.1)) I2 L2 := Rel_g q ly3 (by omega) (fun i hi => up_ne (by omega)) (fun a ha => (o2 a ha).2.2.2.1) (fun a ha => (o2 a ha).2.2.2.2)
    have sl : G2.2.1 = G.2.1 + 3 + 2946 := n4
    obtain ⟨I3, L3, I4, L4, p1, p2, p3, p4, p5⟩ := mk_step d q3 (by show G2.1 ≤ _; omega) (by show G2.2.1 ≤ _; omega) hz (by omega)
    rw [ek, up_eq] at p1
    refine ⟨Int32.ofNat (mc + 1), gS G2 198 kc (some G.1), I3, L3, I4, L4, ?_, ?_, ?_, p3, ?_, h, hs, bl, bs, cl, cs, nr, n, nh, M, hN, w, lc, mc + 1, kc + 1, ta, rm, pi, va_up mk kc G.1, p5, ?_, ?_⟩
    · have lB2 : LayB G2 hs bl bs cl cs := ly2.1
      have kk : gK G2 G.1 = 6 := n2.1
      have i100 : I2 100 6 = Int32.ofNat mc := by rw [(o2 100 (by omega)).2.2.2.1]; exact k1
      rw [q_X11_mark_, e_X11_mark_0]
      simp (disch := omega) only [↓vB lB, k1, if_pos e4, e_X11_mark_10, gy_n (mkn mc (by omega) c4'), malo, hA]
      rw [gk_t (show gK (gA G 6 0 3) G.1 = 6 by rw [kA, up_eq])]
      simp (disch := omega) only [↓mcV_of n1, ↓vB lB2, i100, gk_t kk]
      rw [ek]
      exact p1
    · rw [p2, (o2 0 (by omega)).2.2.2.1]
    · show gN G2 0 = _
      exact (o2 0 (by omega)).2.1
    · rw [p4, (o2 0 (by omega)).2.2.2.1]
    · show G2.1 ≤ _
      omega
    · show G2.2.1 ≤ _
      omega
end
theorem FlR_c' {J J' : Nat → Nat → Int32} {m : Nat} (q : FlR J m) (hJ : ∀ k, 15 ≤ k → k ≤ 24 → k ≠ 17 → k ≠ 19 → k ≠ 23 → J' m k = J m k) : FlR J' m := by
  unfold FlR at q ⊢
  rw [hJ 15 (by decide) (by decide) (by decide) (by decide) (by decide), hJ 16 (by decide) (by decide) (by decide) (by decide) (by decide), hJ 18 (by decide) (by decide) (by decide) (by decide) (by decide), hJ 20 (by decide) (by decide) (by decide) (by decide) (by decide), hJ 21 (by decide) (by decide) (by decide) (by decide) (by decide), hJ 24 (by decide) (by decide) (by decide) (by decide) (by decide)]
  exact q
theorem Rel_bk {z h hs bl bs cl cs nr n nh M hN w lc mc kc ta : Nat} {rm pi mk : Nat → Nat} {G : mG} {I I' : Nat → Nat → Int32} {L L' : Nat → Nat → Int64} (q : Rel z h hs bl bs cl cs nr n nh M hN w lc mc kc ta rm pi mk G I L) (hz : z + 1 ≤ 512) (hI : ∀ a, ¬ (a = 100 ∨ (132 ≤ a ∧ a < 153) ∨ (195 ≤ a ∧ a < 198) ∨ a = 228 ∨ a = 229) → a ≠ 219 → a ≠ 223 → I' a = I a) (h9 : ∀ k, k ≠ 0 → k ≠ 51 → k ≠ 23 → I' 219 k = I 219 k) (h3 : ∀ j, j < 173 → False → I' 223 j = I 223 j) (hL : ∀ a, a ≠ 251 → a ≠ 148 → a ≠ 225 → L' a = L a) {nh' M' hN' w' mc' : Nat} (h0 : ∀ k, k ≠ 6 → I' 100 k = I 100 k) (hH : I' 219 23 = Int32.ofNat hN') (hS : SeR I' 132 (I' 223) n nh') (hT : StR I' L' 139 (I' 220) (I' 223) (L' 225) nr n M') (hMz : M' ≤ 999 * z) (hD : DiR I' 195 (I' 228) (I' 229) hN' w' nr M') (hK : MkR I' L' (z + 1) nr n mc' mk) (hmc : mc' ≤ kc) : Rel (z + 1) h hs bl bs cl cs nr n nh' M' hN' w' lc mc' kc ta rm pi mk G I' L' := by
  obtain ⟨a1, a2, ⟨a3, a3'⟩, a4, ⟨a5, a5'⟩, a6, a7, a8, a9, a10, a11, a12, ⟨a13, a13'⟩, a14⟩ := q
  obtain ⟨-, -, hnr8, -, -, hn8⟩ := ho_sz a2
  have hm := a1.2.2.2.2.2.2.2.2.2.2.2.2.2.2.2.2.2.2.2.1
  have hh := a1.2.2.2.2.2.2.2.2.2.2.2.2.2.2.1
  have hb := a1.2.2.2.2.2.2.2.2.2.2.2.2.2.2.2.1
  have hc := a1.2.2.2.2.2.2.2.2.2.2.2.2.2.2.2.2.1
  exact ⟨a1, HoR_c a2 (fun a h1 h2 => hI a (by omega) (by omega) (by omega)) (hI 220 (by omega) (by omega) (by omega)), ⟨FlR_c' a3 (fun k h1 h2 h3 h4 h5 => h9 k (by omega) (by omega) (by omega)), hH⟩, hS, ⟨hT, by omega⟩, TaR_c a6 (fun a h1 h2 => hI a (by omega) (by omega) (by omega)) (hI 220 (by omega) (by omega) (by omega)), hD, TpR_c a8 (by rw [hI 101 (by omega) (by omega) (by omega)]) (by rw [hI 101 (by omega) (by omega) (by omega)]) (hI 102 (by omega) (by omega) (by omega)) (h9 3 (by omega) (by omega) (by omega)) (h9 9 (by omega) (by omega) (by omega)) (hI 222 (by omega) (by omega) (by omega)), EgR_c a9 (hI 215 (by omega) (by omega) (by omega)) (hI 217 (by omega) (by omega) (by omega)) (hI 230 (by omega) (by omega) (by omega)) (hI 240 (by omega) (by omega) (by omega)), LgR_c a10 (h0 15 (by decide)) (h9 28 (by omega) (by omega) (by omega)) (hI 218 (by omega) (by omega) (by omega)) (hI 231 (by omega) (by omega) (by omega)) (hI 232 (by omega) (by omega) (by omega)) (hI 233 (by omega) (by omega) (by omega)), BiR_c a11 (by rw [hI (bl + 1) (by omega) (by omega) (by omega)]) (h9 36 (by omega) (by omega) (by omega)) (hI (bl + 2) (by omega) (by omega) (by omega)) (hI 235 (by omega) (by omega) (by omega)) (hI 236 (by omega) (by omega) (by omega)), ClR_c a12 (by rw [hI (cl + 1) (by omega) (by omega) (by omega)]) (h9 44 (by omega) (by omega) (by omega)) (hI (cl + 2) (by omega) (by omega) (by omega)) (hI 241 (by omega) (by omega) (by omega)) (hI 242 (by omega) (by omega) (by omega)), ⟨hK, hmc⟩, hz⟩
section
variable {z h hs bl bs cl cs nr n nh M hN w lc mc kc ta : Nat} {rm pi mk : Nat → Nat} {G : mG} {I : Nat → Nat → Int32} {L : Nat → Nat → Int64}

theorem ca_back (d : Nat) (q : Rel z h hs bl bs cl cs nr n nh M hN w lc mc kc ta rm pi mk G I L) (g1 : G.1 ≤ 252 + z + 25 * kc) (g2 : G.2.1 ≤ 60000 + 6 * z + 4000 * kc) (hz : z + 1 ≤ 512) : Ste2 (d + 4) 127 287 [] (z + 1) G I L := by
  obtain ⟨lB, lX, lP, -, ⟨lH1, lH2⟩, ⟨lS, -⟩, ⟨lT, -⟩, ⟨lU, -⟩, lD, -, -, lM, ⟨o1, o2⟩, -, hh, -⟩ := id q.1
  have ho := q.2.1
  obtain ⟨s1, s2, s3, s4, s5, s6⟩ := ho_sz ho
  have lH : LayH G h := by
    rcases hh with ⟨a, -⟩ | ⟨a, -⟩
    · rw [a]; exact lH1
    · rw [a]; exact lH2
  have hb : 103 ≤ h ∧ h + 14 ≤ 132 := by omega
  obtain ⟨-, -, ⟨hF, hHN⟩, hS, ⟨hT, hMz⟩, hU, hD, hTp, hEg, hLg, -, -, -, -⟩ := id q
  have z1 : ¬ (1 : Int32) = 0 := by decide
  have I00 : (va_up I 219 (va_up (I 219) 0 0)) 219 0 = 0 := by rw [up_eq, up_eq]
  have I01 : (va_up I 219 (va_up (I 219) 0 0)) 220 = I 220 := up_ne (by decide)
  obtain ⟨k1, k2, k3⟩ := q.2.2.2.2.2.2.2.2.2.2.2.2.1.1
  have mkc := q.2.2.2.2.2.2.2.2.2.2.2.2.1.2
  have kc4 := q.1.2.2.2.2.2.2.2.2.2.2.2.2.2.2.2.2.2.2.1
  have mks := q.1.2.2.2.2.2.2.2.2.2.2.2.2.2.2.2.2.2.2.2.1
  have mkd := q.1.2.2.2.2.2.2.2.2.2.2.2.2.2.2.2.2.2.2.2.2.2
  by_cases c0 : mc = 0
  · have e4 : ¬ 0 < Int32.ofNat mc := by rw [c0]; decide
    have e5 : Int32.ofNat mc = 0 := by rw [c0]; rfl
    refine Ste2_q (v := -1) q g1 g2 hz ?_ ?_
    · simp only [q_X11_back_, e_X11_back_0, ↓vB lB, k1, if_neg e4]
    · simp (disch := omega) only [q_X12_back_, e_X12_back_0, ↓vM lM, up2_e, up_eq, up_ne, k2, if_pos e5]
  obtain ⟨m', rfl⟩ : ∃ m', mc = m' + 1 := ⟨mc - 1, by omega⟩
  have e4 : 0 < Int32.ofNat (m' + 1) := (i_lt (a := 0) (by decide) (by omega)).mpr (by omega)
  have s1' : Int32.ofNat (m' + 1) - 1 = Int32.ofNat m' := i_sub (a := m' + 1) (b := 1) (by omega) (by omega)
  obtain ⟨hr, lK, h252, -⟩ := mks m' (by omega)
  obtain ⟨nh', M', hN', w', b1, b2, b3, b4, b5⟩ := k3 m' (by omega)
  generalize hk : mk m' = k at hr lK h252 b1 b2 b3
  have gv := c_give (d + 1) (I := va_up I 100 (va_up (I 100) 6 (Int32.ofNat m'))) (L := L) lP lS lT lD lK
  have X : ∀ a, ¬ (132 ≤ a ∧ a < 153) → ¬ (195 ≤ a ∧ a < 198) → cpA (va_up I 100 (va_up (I 100) 6 (Int32.ofNat m'))) (k + 1) (k + 8) (k + 22) 132 139 195 a = va_up I 100 (va_up (I 100) 6 (Int32.ofNat m')) a := fun a h1 h2 => cpA_fr (by omega) (by omega) (by omega)
  have cls : mcal mT (d + 4) 127 [.ref 100] (G, I, L) = some (.inl (some (.int (Int32.ofNat m'))), (G, cpA (va_up I 100 (va_up (I 100) 6 (Int32.ofNat m'))) (k + 1) (k + 8) (k + 22) 132 139 195, cpr L (k + 8 + 9) (139 + 9) 8)) := by
    rw [q_X11_back_, e_X11_back_0]
    simp (disch := omega) only [↓vB lB, k1, if_pos e4, e_X11_back_9, up2_e, up_eq, s1', gy_t hr, ↓vK lK, ↓mcV_of gv, X, e_X11_back_45]
  generalize hI1 : cpA (va_up I 100 (va_up (I 100) 6 (Int32.ofNat m'))) (k + 1) (k + 8) (k + 22) 132 139 195 = I1 at cls X
  generalize hL1 : cpr L (k + 8 + 9) (139 + 9) 8 = L1 at cls
  have lo1 : ∀ a, a ≠ 148 → L1 a = L a := fun a ha => by rw [← hL1, cpr_ne ha]
  have o1 : ∀ a, ¬ (132 ≤ a ∧ a < 153) → ¬ (195 ≤ a ∧ a < 198) → a ≠ 100 → I1 a = I a := fun a h1 h2 h3 => by rw [X a h1 h2, up_ne h3]
  have rf := r_back (d + 3) (J := I1) (K := L1) (mc := m') lM (by rw [o1 _ (by decide) (by decide) (by decide)]; exact k2) (by omega)
  have m2 : ∀ a, a ≠ 219 → a ≠ 223 → a ≠ 228 → a ≠ 229 → rBk I1 m' a = I1 a := by
    intro a h1 h2 h3 h4
    unfold rBk
    simp (disch := omega) only [up_ne]
  refine ⟨Int32.ofNat m', G, I1, L1, rBk I1 m', _, cls, o1 0 (by decide) (by decide) (by decide), rfl, rf, ?_, h, hs, bl, bs, cl, cs, nr, n, nh', M', hN', w', lc, m', kc, ta, rm, pi, mk, ?_, by omega, by omega⟩
  · rw [m2 0 (by decide) (by decide) (by decide) (by decide), o1 0 (by decide) (by decide) (by decide)]
  have hF : Far (k + 1) (k + 8) (k + 22) 132 139 195 := by
    unfold Far
    omega
  have r223 : rBk I1 m' 223 = pre 173 (fun j => I 246 (173 * m' + j)) (I 223) := by
    unfold rBk
    simp (disch := omega) only [up_ne, up_eq]
    rw [o1 246 (by decide) (by decide) (by decide), o1 223 (by decide) (by decide) (by decide)]
  have r228 : rBk I1 m' 228 = pre 2688 (fun j => I 247 (2688 * m' + j)) (I 228) := by
    unfold rBk
    simp (disch := omega) only [up_ne, up_eq]
    rw [o1 247 (by decide) (by decide) (by decide), o1 228 (by decide) (by decide) (by decide)]
  have r229 : rBk I1 m' 229 = pre 56 (fun j => I 248 (56 * m' + j)) (I 229) := by
    unfold rBk
    simp (disch := omega) only [up_ne, up_eq]
    rw [o1 248 (by decide) (by decide) (by decide), o1 229 (by decide) (by decide) (by decide)]
  have r220 : rBk I1 m' 220 = I 220 := by rw [m2 _ (by decide) (by decide) (by decide) (by decide), o1 _ (by decide) (by decide) (by decide)]
  have r225 : va_up L1 225 (pre 16 (fun j => L1 250 (16 * m' + j)) (L1 225)) 225 = pre 16 (fun j => L 250 (16 * m' + j)) (L 225) := by rw [up_eq, lo1 _ (by decide), lo1 _ (by decide)]
  have J0 : ∀ a, 252 ≤ a → va_up I 100 (va_up (I 100) 6 (Int32.ofNat m')) a = I a := fun a ha => up_ne (by omega)
  have e1 : ∀ a, (132 ≤ a ∧ a < 153) ∨ (195 ≤ a ∧ a < 198) → rBk I1 m' a = cpA (va_up I 100 (va_up (I 100) 6 (Int32.ofNat m'))) (k + 1) (k + 8) (k + 22) 132 139 195 a := fun a ha => by rw [m2 a (by omega) (by omega) (by omega) (by omega), hI1]
  have b1' : SeR (va_up I 100 (va_up (I 100) 6 (Int32.ofNat m'))) (k + 1) (fun j => I 246 (173 * m' + j)) n nh' := SeR_c b1 s6 (fun a h1 h2 => J0 a (by omega)) (fun _ _ => rfl)
  have b2' : StR (va_up I 100 (va_up (I 100) 6 (Int32.ofNat m'))) L (k + 8) (I 220) (fun j => I 246 (173 * m' + j)) (fun j => L 250 (16 * m' + j)) nr n M' := StR_c b2 s6 s3 (fun a h1 h2 => J0 a (by omega)) rfl rfl (fun _ _ => rfl) (fun _ _ => rfl)
  have b3' : DiR (va_up I 100 (va_up (I 100) 6 (Int32.ofNat m'))) (k + 22) (fun j => I 247 (2688 * m' + j)) (fun j => I 248 (56 * m' + j)) hN' w' nr M' := DiR_c b3 s3 (fun a h1 h2 => J0 a (by omega)) (fun _ _ => rfl) (fun _ _ => rfl)
  refine Rel_bk q hz (fun a h1 h2 h3 => ?_) (fun k hk1 hk2 hk3 => ?_) (fun j _ p => absurd p id) (fun a h1 h2 h3 => ?_) (fun k hk => ?_) ?_ ?_ ?_ b5 ?_ ?_ (by omega)
  · rw [m2 a h2 h3 (by omega) (by omega), o1 a (by omega) (by omega) (by omega)]
  · unfold rBk
    rw [up_eq, up_ne hk3, up_ne hk2, up_ne hk1, o1 _ (by decide) (by decide) (by decide)]
  · rw [up_ne h3, lo1 a h2]
  · rw [m2 _ (by decide) (by decide) (by decide) (by decide), X 100 (by decide) (by decide), up_eq, up_ne hk]
  · unfold rBk
    rw [up_eq, up_eq, o1 249 (by decide) (by decide) (by decide)]
    exact b4
  · rw [r223]
    exact SeR_c (cpA_Se (t := k + 8) (e := k + 22) (t' := 139) (e' := 195) b1' s6 hF (fun _ _ => rfl)) s6 (fun a h1 h2 => e1 a (by omega)) (fun j hj => pre_lt (by omega))
  · rw [r223, r220, r225]
    exact StR_c (cpA_St (s := k + 1) (e := k + 22) (s' := 132) (e' := 195) (L' := va_up L1 225 (pre 16 (fun j => L1 250 (16 * m' + j)) (L1 225))) b2' s6 s3 hF (fun j hj => by rw [up_ne (by decide), ← hL1, cpr_eq, pre_lt hj]) (fun _ _ => rfl) (fun _ _ => rfl)) s6 s3 (fun a h1 h2 => e1 a (by omega)) rfl rfl (fun j hj => pre_lt (by omega)) (fun j hj => pre_lt hj)
  · rw [r228, r229]
    exact DiR_c (cpA_Di (s := k + 1) (t := k + 8) (s' := 132) (t' := 139) b3' s3 hF (fun _ _ => rfl) (fun _ _ => rfl)) s3 (fun a h1 h2 => e1 a (by omega)) (fun j hj => pre_lt hj) (fun j hj => pre_lt hj)
  · refine ⟨?_, ?_, fun i hi => ?_⟩
    · rw [m2 _ (by decide) (by decide) (by decide) (by decide), X 100 (by decide) (by decide), up_eq, up_eq]
    · unfold rBk
      rw [up_eq, up_ne (by decide), up_eq]
    · obtain ⟨nh2, M2, hN2, w2, p1, p2, p3, p4, p5⟩ := k3 i (by omega)
      obtain ⟨-, -, i252, -⟩ := mks i (by omega)
      have e : ∀ a, mk i ≤ a → a < mk i + 25 → rBk I1 m' a = I a := fun a h1 h2 => by rw [m2 a (by omega) (by omega) (by omega) (by omega), o1 a (by omega) (by omega) (by omega)]
      have e' : ∀ a, 246 ≤ a → a < 250 → rBk I1 m' a = I a := fun a h1 h2 => by rw [m2 a (by omega) (by omega) (by omega) (by omega), o1 a (by omega) (by omega) (by omega)]
      rw [e' 246 (by decide) (by decide), e' 247 (by decide) (by decide), e' 248 (by decide) (by decide), e' 249 (by decide) (by decide), r220]
      refine ⟨nh2, M2, hN2, w2, SeR_c p1 s6 (fun a h1 h2 => e a (by omega) (by omega)) (fun _ _ => rfl), StR_c p2 s6 s3 (fun a h1 h2 => e a (by omega) (by omega)) (by rw [up_ne (by omega), lo1 _ (by omega)]) rfl (fun _ _ => rfl) (fun j hj => by rw [up_ne (by decide), lo1 _ (by decide)]), DiR_c p3 s3 (fun a h1 h2 => e a (by omega) (by omega)) (fun _ _ => rfl) (fun _ _ => rfl), p4, by omega⟩
end
