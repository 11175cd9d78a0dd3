/-! call: explained -/
section
variable {G : mG} {I J : Nat → Nat → Int32} {L K : Nat → Nat → Int64} {h hs bl bs cl cs nr n : Nat}
theorem thg_b {w : Nat} (hn8 : n ≤ 8) (hw : 47 < w) : thg I h n nr w = 0 := by
  unfold thg
  rw [if_neg (by omega), if_neg (by omega), if_neg (by omega), if_neg (by omega)]
  by_cases c : w / 10 = 4
  · have t8 : tap I h n (w % 10) = 0 := by unfold tap; rw [if_neg (by omega)]
    rw [if_pos c, t8, if_pos rfl]
  · rw [if_neg c]
theorem thg_47 (hn8 : n ≤ 8) : thg I h n nr 47 = 0 := by
  have t8 : tap I h n 8 = 0 := by unfold tap; rw [if_neg (by omega)]
  unfold thg
  rw [if_neg (by decide), if_neg (by decide), if_neg (by decide), if_neg (by decide), if_pos (by decide)]
  show (if tap I h n 7 = 0 then (0 : Int32) else if tap I h n 8 = 0 then 0 else 1) = 0
  rw [t8]
  split <;> rfl
theorem nt_ok (d : Nat) {x : Int32} (lB : LayB G hs bl bs cl cs) (lP : LayP G 117 h 132 139 153) (lH : LayH G h) (s1 : I h 1 = Int32.ofNat nr) (s3 : nr ≤ 8) (s4 : I h 10 = Int32.ofNat n) (s6 : n ≤ 8) (c : OkT I h n nr x) : mcal mT (d + 3) 169 [.ref 100, .int x] (G, I, L) = some (.inl none, (G, I, L)) := by
  rw [q_X11_needThingOrNone_, e_X11_needThingOrNone_0]
  rcases c with e | ⟨w, w1, rfl, w3⟩
  · rw [if_pos e, e_X11_needThingOrNone_27]
  · have t := c_hasThing d (G := G) (I := I) (L := L) (w := w) lH s4 s6 s1 s3 (by omega)
    rw [if_neg (nm1 (by omega))]
    simp only [↓vB lB, ↓vP lP, ↓vH lH, ↓mcI_of t, if_neg w3, e_X11_needThingOrNone_27]
theorem nt_no (d : Nat) {x : Int32} (lB : LayB G hs bl bs cl cs) (lP : LayP G 117 h 132 139 153) (lH : LayH G h) (s1 : I h 1 = Int32.ofNat nr) (s3 : nr ≤ 8) (s4 : I h 10 = Int32.ofNat n) (s6 : n ≤ 8) (c : ¬ OkT I h n nr x) : mcal mT (d + 3) 169 [.ref 100, .int x] (G, I, L) = some (.inr "java/lang/IllegalArgumentException", (G, I, L)) := by
  have e1 : ¬ x = -1 := fun e => c (Or.inl e)
  have t : mcal mT (d + 2) 49 [.ref h, .int x] (G, I, L) = some (.inl (some (.int 0)), (G, I, L)) := by
    by_cases c0 : 0 ≤ x
    · obtain ⟨w, hw, rfl⟩ : ∃ w, w < 2147483648 ∧ x = Int32.ofNat w := by
        have l := Int32.toInt_lt x
        rw [Int32.le_iff_toInt_le, k0] at c0
        refine ⟨x.toInt.toNat, by omega, ?_⟩
        apply i_inj
        rw [i_of (by omega)]
        omega
      have t := c_hasThing d (G := G) (I := I) (L := L) (w := w) lH s4 s6 s1 s3 hw
      have z : thg I h n nr w = 0 := by
        by_cases c47 : w ≤ 47
        · by_cases z : thg I h n nr w = 0
          · exact z
          · exact absurd (Or.inr ⟨w, c47, rfl, z⟩) c
        · exact thg_b s6 (by omega)
      rw [z] at t
      exact t
    · rw [q_X4_hasThing_, e_X4_hasThing_0, if_neg c0, mb0]
  rw [q_X11_needThingOrNone_, e_X11_needThingOrNone_0, if_neg e1]
  simp only [↓vB lB, ↓vP lP, ↓vH lH, ↓mcI_of t, if_true]
theorem rt_ok (d : Nat) {w : Nat} (lM : LayM G 219) (hn : J 220 164 = Int32.ofNat n) (hn8 : n ≤ 8) (hnr : J 220 163 = Int32.ofNat nr) (hnr8 : nr ≤ 8) (ht : ∀ k, k < n → I (h + 12) k = J 220 (144 + k) ∧ irng (J 220 (144 + k)) 0 3) (hw : w ≤ 47) : mcal mT (d + 3) 246 [.ref 219, .int (Int32.ofNat w)] (G, J, K) = some (.inl (some (.int (thg I h n nr w))), (G, J, K)) := r_isThing d lM hn hn8 hnr hnr8 ht hw
theorem rt_no (d : Nat) {x : Int32} (lM : LayM G 219) (hn : J 220 164 = Int32.ofNat n) (hn8 : n ≤ 8) (hnr : J 220 163 = Int32.ofNat nr) (hnr8 : nr ≤ 8) (ht : ∀ k, k < n → I (h + 12) k = J 220 (144 + k) ∧ irng (J 220 (144 + k)) 0 3) (c : ¬ OkT I h n nr x) : mcal mT (d + 3) 246 [.ref 219, .int x] (G, J, K) = some (.inl (some (.int 0)), (G, J, K)) := by
  by_cases c0 : x < 0
  · rw [q_X12_isThing_, e_X12_isThing_0, if_pos c0, e_X12_isThing_10, mb0]
  by_cases c1 : x ≤ 47
  · obtain ⟨w, hw, rfl⟩ := i_rng (x := x) (n := 47) (fun p => by
      rcases p with p | p
      · exact c0 p
      · exact Int32.not_lt.mpr c1 p) (by decide)
    have z : thg I h n nr w = 0 := by
      by_cases z : thg I h n nr w = 0
      · exact z
      · exact absurd (Or.inr ⟨w, by omega, rfl, z⟩) c
    rw [r_isThing (I := I) (K := K) d lM hn hn8 hnr hnr8 ht (by omega), z]
  · rw [q_X12_isThing_, e_X12_isThing_0, if_neg c0, if_neg c1, e_X12_isThing_10, mb0]
end
section
variable {z h hs bl bs cl cs nr n nh M hN w lc mc kc ta : Nat} {rm pi mk : Nat → Nat} {G : mG} {I : Nat → Nat → Int32} {L : Nat → Nat → Int64}
theorem ca_explained (d : Nat) (q : Rel z h hs bl bs cl cs nr n nh M hN w lc mc kc ta rm pi mk G I L) (g1 : G.1 ≤ 252 + z + 25 * kc) (g2 : G.2.1 ≤ 60000 + 6 * z + 4000 * kc) (hz : z + 1 ≤ 512) (x y u : Int32) : SteB (d + 10) 309 248 [.int x, .int y, .int u] (z + 1) G I L := by
  obtain ⟨lB, lX, lP, -, ⟨lH1, lH2⟩, ⟨lS, -⟩, ⟨lT, -⟩, ⟨lU, -⟩, lD, -, -, lM, ⟨o1, o2⟩, -, hh, -⟩ := id q.1
  have ho := q.2.1
  obtain ⟨s1, s2, s3, s4, s5, s6⟩ := ho_sz ho
  have lH : LayH G h := by
    rcases hh with ⟨a, -⟩ | ⟨a, -⟩
    · rw [a]; exact lH1
    · rw [a]; exact lH2
  have hb : 103 ≤ h ∧ h + 14 ≤ 132 := by omega
  obtain ⟨-, -, ⟨hF, hHN⟩, hS, ⟨hT, hMz⟩, hU, hD, hTp, hEg, hLg, -, -, -, -⟩ := id q
  have z1 : ¬ (1 : Int32) = 0 := by decide
  have I00 : (va_up I 219 (va_up (I 219) 0 0)) 219 0 = 0 := by rw [up_eq, up_eq]
  have I01 : (va_up I 219 (va_up (I 219) 0 0)) 220 = I 220 := up_ne (by decide)
  have ht := ho_tp ho
  have i220 : ∀ {I' : Nat → Nat → Int32}, I' 220 = I 220 → I' 220 164 = Int32.ofNat n ∧ I' 220 163 = Int32.ofNat nr ∧ ∀ k, k < n → I (h + 12) k = I' 220 (144 + k) ∧ irng (I' 220 (144 + k)) 0 3 := fun e => by rw [e]; exact ⟨s5, s2, ht⟩
  have bad : mcal mT (d + 9) 131 [.ref 100, .int x, .int y, .int u] (G, I, L) = some (.inr "java/lang/IllegalArgumentException", (G, I, L)) → ¬ (OkT I h n nr x ∧ OkT I h n nr y ∧ ¬ (u < 0 ∨ 9999 < u)) → SteB (d + 10) 309 248 [.int x, .int y, .int u] (z + 1) G I L := by
    intro hc hx
    refine SteB_e (k := 1) q g1 g2 hz (by decide) (w_explained_A (d + 9) hc lB.1) fun lM => ?_
    have my := r_may0 (d + 8) 1 lM (I := va_up I 219 (va_up (I 219) 0 0)) (L := L) I00 (by decide)
    obtain ⟨a1, a2, a3⟩ := i220 I01
    have fin : f_X12_explained (d + 9) 46 [.ref 219, .int x, .int y, .int u, mU] [] (gC G, va_up I 219 (va_up (I 219) 0 0), L) = some (.inl (some (.int 0)), (gC G, va_up I 219 (va_up (I 219) 0 1), L)) := by
      simp only [e_X12_explained_46, e_X12_explained_47, ↓vM lM, ↓mcI_of my, if_true, e_X12_explained_67, mb0, up_eq, up_up]
    show mcal mT (d + 10) 248 [.ref 219, .int x, .int y, .int u] (gC G, I, L) = _
    rw [q_X12_explained_, e_X12_explained_0]
    simp only [↓vM lM, up2_e]
    by_cases d1 : OkT I h n nr x
    · have s18 : f_X12_explained (d + 9) 18 [.ref 219, .int x, .int y, .int u, mU] [] (gC G, va_up I 219 (va_up (I 219) 0 0), L) = some (.inl (some (.int 0)), (gC G, va_up I 219 (va_up (I 219) 0 1), L)) := by
        rw [e_X12_explained_18]
        by_cases d2 : OkT I h n nr y
        · have d3 : u < 0 ∨ 9999 < u := Decidable.not_not.mp fun p => hx ⟨d1, d2, p⟩
          have s31 : f_X12_explained (d + 9) 31 [.ref 219, .int x, .int y, .int u, mU] [] (gC G, va_up I 219 (va_up (I 219) 0 0), L) = some (.inl (some (.int 0)), (gC G, va_up I 219 (va_up (I 219) 0 1), L)) := by
            simp only [e_X12_explained_31, r_within, mcI_v, wi_0 d3, if_true]
            exact fin
          rcases d2 with e | ⟨w, w1, rfl, w3⟩
          · rw [if_pos e]; exact s31
          · have t := rt_ok (I := I) (K := L) (h := h) (d + 6) lM a1 s6 a2 s3 a3 w1
            rw [if_neg (nm1 (by omega))]
            simp only [↓vM lM, ↓mcI_of t, if_neg w3]
            exact s31
        · have e1 : ¬ y = -1 := fun e => d2 (Or.inl e)
          have t := rt_no (I := I) (K := L) (h := h) (d + 6) lM a1 s6 a2 s3 a3 d2
          rw [if_neg e1]
          simp only [↓vM lM, ↓mcI_of t, if_true]
          exact fin
      rcases d1 with e | ⟨w, w1, rfl, w3⟩
      · rw [if_pos e]; exact s18
      · have t := rt_ok (I := I) (K := L) (h := h) (d + 6) lM a1 s6 a2 s3 a3 w1
        rw [if_neg (nm1 (by omega))]
        simp only [↓mcI_of t, if_neg w3]
        exact s18
    · have e1 : ¬ x = -1 := fun e => d1 (Or.inl e)
      have t := rt_no (I := I) (K := L) (h := h) (d + 6) lM a1 s6 a2 s3 a3 d1
      rw [if_neg e1]
      simp only [↓mcI_of t, if_true]
      exact fin
  by_cases c0 : ¬ OkT I h n nr x
  · refine bad ?_ (fun p => c0 p.1)
    simp only [q_X11_explained_, e_X11_explained_0, ↓vB lB, nt_no (d + 5) (L := L) lB lP lH s1 s3 s4 s6 c0, mcV_e, mthr_e]
  have k1 := Classical.not_not.mp c0
  have n1 := nt_ok (d + 5) (L := L) lB lP lH s1 s3 s4 s6 k1
  by_cases c1 : ¬ OkT I h n nr y
  · refine bad ?_ (fun p => c1 p.2.1)
    simp only [q_X11_explained_, e_X11_explained_0, ↓vB lB, ↓mcV_of n1, nt_no (d + 5) (L := L) lB lP lH s1 s3 s4 s6 c1, mcV_e, mthr_e]
  have k2 := Classical.not_not.mp c1
  have n2 := nt_ok (d + 5) (L := L) lB lP lH s1 s3 s4 s6 k2
  by_cases c2 : u < 0 ∨ 9999 < u
  · refine bad ?_ (fun p => p.2.2 c2)
    simp only [q_X11_explained_, e_X11_explained_0, ↓vB lB, ↓mcV_of n1, ↓mcV_of n2, nw_no (d + 7) c2 (G, I, L), mcV_e, mthr_e]
  -- up to the house's test
  have up : ∀ (G' : mG) (I' : Nat → Nat → Int32) (L' : Nat → Nat → Int64), LayM G' 219 → I' 220 = I 220 → mcal mT (d + 10) 248 [.ref 219, .int x, .int y, .int u] (G', I', L') = f_X12_explained (d + 9) 47 [.ref 219, .int x, .int y, .int u, mU] [.int 1] (G', va_up I' 219 (va_up (I' 219) 0 0), L') := by
    intro G' I' L' lM e
    have e' : va_up I' 219 (va_up (I' 219) 0 0) 220 = I 220 := by rw [up_ne (by decide), e]
    obtain ⟨a1, a2, a3⟩ := i220 e'
    have s31 : f_X12_explained (d + 9) 31 [.ref 219, .int x, .int y, .int u, mU] [] (G', va_up I' 219 (va_up (I' 219) 0 0), L') = f_X12_explained (d + 9) 47 [.ref 219, .int x, .int y, .int u, mU] [.int 1] (G', va_up I' 219 (va_up (I' 219) 0 0), L') := by
      simp only [e_X12_explained_31, r_within, mcI_v, wi_1 c2, if_neg z1]
    have s18 : f_X12_explained (d + 9) 18 [.ref 219, .int x, .int y, .int u, mU] [] (G', va_up I' 219 (va_up (I' 219) 0 0), L') = f_X12_explained (d + 9) 47 [.ref 219, .int x, .int y, .int u, mU] [.int 1] (G', va_up I' 219 (va_up (I' 219) 0 0), L') := by
      rw [e_X12_explained_18]
      rcases id k2 with e | ⟨w, w1, rfl, w3⟩
      · rw [if_pos e]; exact s31
      · have t := rt_ok (I := I) (K := L') (h := h) (d + 6) lM a1 s6 a2 s3 a3 w1
        rw [if_neg (nm1 (by omega))]
        simp only [↓vM lM, ↓mcI_of t, if_neg w3]
        exact s31
    rw [q_X12_explained_, e_X12_explained_0]
    simp only [↓vM lM, up2_e]
    rcases id k1 with e | ⟨w, w1, rfl, w3⟩
    · rw [if_pos e]; exact s18
    · have t := rt_ok (I := I) (K := L') (h := h) (d + 6) lM a1 s6 a2 s3 a3 w1
      rw [if_neg (nm1 (by omega))]
      simp only [↓mcI_of t, if_neg w3]
      exact s18
  by_cases c3 : nr = 0
  · have hc : mcal mT (d + 9) 131 [.ref 100, .int x, .int y, .int u] (G, I, L) = some (.inr "java/lang/IllegalStateException", (G, I, L)) := by
      simp only [q_X11_explained_, e_X11_explained_0, ↓vB lB, ↓mcV_of n1, ↓mcV_of n2, nw_ok (d + 7) c2 (G, I, L), nh_no (d + 7) (L := L) lB lP lH s1 c3, mcV_v, mcV_e, mthr_e]
    refine SteB_e (k := 2) q g1 g2 hz (by decide) (w_explained_S (d + 9) hc lB.1) fun lM => ?_
    have my := r_may1 (d + 8) 1 lM (I := va_up I 219 (va_up (I 219) 0 0)) (L := L) I00
    have ih := rh_no (d + 7) (L := L) (I := va_up I 219 (va_up (I 219) 0 0)) 2 lM I00 (by decide) (by rw [I01]; exact s2) s3 c3
    refine (up _ _ _ lM rfl).trans ?_
    simp only [e_X12_explained_47, ↓vM lM, ↓mcI_of my, if_neg z1, ↓mcI_of ih, if_true, e_X12_explained_67, mb0, up_eq, up_up]
  obtain ⟨-, hHs, -, -, -, hr2, -⟩ : 0 < nr ∧ HsR I I h 219 nr n rm pi ∧ I h 0 = I 220 165 ∧ I h 16 = I 220 160 ∧ irng (I 220 160) 1 999 ∧ (∀ r, r < nr → I (h + 2) r = I 220 (8 + r) ∧ irng (I 220 (8 + r)) 0 4000) ∧ (∀ k, k < n → irng (I 220 (144 + k)) 0 3) := by
    rcases ho with ⟨a, -⟩ | p
    · exact absurd a c3
    · exact p
  have hbs : BsR I I L L h nr n nh M rm pi := ⟨hHs, hF, hS, hT⟩
  obtain ⟨b, I1, L1, -, -, p1, -, p3, -, p5, -⟩ := ex_pair (d + 1) d (G2 := G) x y u q.1 lM hb hbs hr2 hLg hLg.1.2.1 rfl rfl rfl k1 k2
  obtain ⟨lyf, -⟩ := LyR_T q.1 h
  have mbb : ∀ X : Option mO, mbool b X = X := fun X => by
    rcases p5 with rfl | rfl
    · exact mb0
    · exact mb1
  have hc : mcal mT (d + 9) 131 [.ref 100, .int x, .int y, .int u] (G, I, L) = some (.inl (some (.int b)), (gS G 156 0 (some h), I1, L1)) := by
    simp only [q_X11_explained_, e_X11_explained_0, ↓vB lB, ↓mcV_of n1, ↓mcV_of n2, nw_ok (d + 7) c2 (G, I, L), nh_ok (d + 7) (L := L) lB lP lH s1 s3 c3, mcV_v, ↓mcI_of p1, mbb]
  generalize hGf : gS G 156 0 (some h) = Gf at hc lyf p1
  have gf1 : Gf.1 = G.1 := by rw [← hGf]; rfl
  have gf2 : Gf.2.1 = G.2.1 := by rw [← hGf]; rfl
  have gf3 : gN Gf 0 = gN G 0 := by rw [← hGf]; rfl
  have lMf : LayM Gf 219 := lyf.2.2.2.2.2.2.2.2.2.2.2.1
  obtain ⟨w1, w2⟩ := lyf.2.2.2.2.2.2.2.2.2.2.2.2.1
  have b0 := BsR_w (v := if b = 0 then 0 else 1) hbs p3
  have fr : ∀ a, a ≠ 219 → ¬ (171 ≤ a ∧ a < 195) → va_up I1 219 (va_up (I1 219) 0 0) a = I a := fun a h1 h2 => by rw [up_ne h1, p3.1 a h2]
  obtain ⟨b', I1', L1', J', K', t1, t2, -, t4, -, t6⟩ := ex_pair (d + 1) (d + 2) (G2 := Gf) x y u q.1 lMf hb b0 (by rw [fr 220 (by decide) (by decide)]; exact hr2) hLg (by rw [up_eq, up_ne (by decide), p3.1 219 (by decide)]; exact hLg.1.2.1) (fr 231 (by decide) (by decide)) (fr 232 (by decide) (by decide)) (fr 233 (by decide) (by decide)) k1 k2
  rw [hGf] at t1
  obtain ⟨rfl, -, rfl, rfl⟩ := some_i p1 t1
  have J00 : va_up I1' 219 (va_up (I1' 219) 0 0) 219 0 = 0 := by rw [up_eq, up_eq]
  have my := r_may1 (d + 8) 1 lMf (I := va_up I1' 219 (va_up (I1' 219) 0 0)) (L := up2 L1' 251 0 (if b' = 0 then 0 else 1)) J00
  have ih := rh_ok (d + 7) (L := up2 L1' 251 0 (if b' = 0 then 0 else 1)) (I := va_up I1' 219 (va_up (I1' 219) 0 0)) 2 lMf J00 (by decide) (by rw [fr 220 (by decide) (by decide)]; exact s2) s3 c3
  have hr : mcal mT (d + 10) 248 [.ref 219, .int x, .int y, .int u] (Gf, I1', up2 L1' 251 0 (if b' = 0 then 0 else 1)) = some (.inl (some (.int b')), (Gf, J', K')) := by
    refine (up _ _ _ lMf (p3.1 220 (by decide))).trans ?_
    simp only [e_X12_explained_47, ↓vM lMf, ↓mcI_of my, if_neg z1, ↓mcI_of ih, e_X12_explained_69, ↓mcI_of t2, mbb]
  have qq := Qui_T p3 t4
  refine ⟨0, b', Gf, I1', _, J', K', w_explained (d + 9) hc lB.1 w1 w2, p3.1 0 (by decide), gf3, hr, ?_, ?_, fun _ => ?_, h, hs, bl, bs, cl, cs, nr, n, nh, M, hN, w, lc, mc, kc, ta, rm, pi, mk, Rel_q q lyf (Nat.le_succ z) hz qq, by omega, by omega⟩
  · rw [qq.1 0 (by unfold Scr; omega)]
  · rw [t6 0]; exact J00
  · rw [t4.2.2.2.1 251 (by decide) (by decide), up2_e, up_eq, up_eq]
end
