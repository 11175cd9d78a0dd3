/-! calls: mark, back -/
theorem Rel_mk {z h hs bl bs cl cs nr n nh M hN w lc mc kc ta : Nat} {rm pi mk : Nat → Nat} {G : mG} {I I' : Nat → Nat → Int32} {L L' : Nat → Nat → Int64} (q : Rel z h hs bl bs cl cs nr n nh M hN w lc mc kc ta rm pi mk G I L) (hz : z + 1 ≤ 512) (hI : ∀ a, ¬ (252 ≤ a ∨ a = 100 ∨ (246 ≤ a ∧ a < 250)) → a ≠ 219 → a ≠ 223 → I' a = I a) (h9 : ∀ k, k ≠ 0 → k ≠ 51 → I' 219 k = I 219 k) (h3 : ∀ j, j < 173 → True → I' 223 j = I 223 j) (hL : ∀ a, a ≠ 251 → a ≠ 250 → a < 252 → L' a = L a) {mc' : Nat} (h0 : ∀ k, k ≠ 6 → I' 100 k = I 100 k) (hK : MkR I' L' (z + 1) nr n mc' mk) (hmc : mc' ≤ kc) : Rel (z + 1) h hs bl bs cl cs nr n nh M hN w lc mc' kc ta rm pi mk G I' L' := by
  obtain ⟨a1, a2, ⟨a3, a3'⟩, a4, ⟨a5, a5'⟩, a6, a7, a8, a9, a10, a11, a12, ⟨a13, a13'⟩, a14⟩ := q
  obtain ⟨-, -, hnr8, -, -, hn8⟩ := ho_sz a2
  have hm := a1.2.2.2.2.2.2.2.2.2.2.2.2.2.2.2.2.2.2.2.1
  have hh := a1.2.2.2.2.2.2.2.2.2.2.2.2.2.2.1
  have hb := a1.2.2.2.2.2.2.2.2.2.2.2.2.2.2.2.1
  have hc := a1.2.2.2.2.2.2.2.2.2.2.2.2.2.2.2.2.1
  exact ⟨a1, HoR_c a2 (fun a h1 h2 => hI a (by omega) (by omega) (by omega)) (hI 220 (by omega) (by omega) (by omega)), ⟨FlR_c a3 (fun k h1 h2 h3 h4 => h9 k (by omega) (by omega)), by rw [h9 23 (by omega) (by omega)]; exact a3'⟩, SeR_c a4 hn8 (fun a h1 h2 => hI a (by omega) (by omega) (by omega)) (fun j hj => h3 j (by omega) (by first | trivial | omega)), ⟨StR_c a5 hn8 hnr8 (fun a h1 h2 => hI a (by omega) (by omega) (by omega)) (hL _ (by omega) (by omega) (by omega)) (hI 220 (by omega) (by omega) (by omega)) (fun j hj => h3 j (by omega) (by first | trivial | omega)) (fun j _ => by rw [hL 225 (by omega) (by omega) (by omega)]), by omega⟩, TaR_c a6 (fun a h1 h2 => hI a (by omega) (by omega) (by omega)) (hI 220 (by omega) (by omega) (by omega)), DiR_c a7 hnr8 (fun a h1 h2 => hI a (by omega) (by omega) (by omega)) (fun j _ => by rw [hI 228 (by omega) (by omega) (by omega)]) (fun j _ => by rw [hI 229 (by omega) (by omega) (by omega)]), TpR_c a8 (by rw [hI 101 (by omega) (by omega) (by omega)]) (by rw [hI 101 (by omega) (by omega) (by omega)]) (hI 102 (by omega) (by omega) (by omega)) (h9 3 (by omega) (by omega)) (h9 9 (by omega) (by omega)) (hI 222 (by omega) (by omega) (by omega)), EgR_c a9 (hI 215 (by omega) (by omega) (by omega)) (hI 217 (by omega) (by omega) (by omega)) (hI 230 (by omega) (by omega) (by omega)) (hI 240 (by omega) (by omega) (by omega)), LgR_c a10 (h0 15 (by decide)) (h9 28 (by omega) (by omega)) (hI 218 (by omega) (by omega) (by omega)) (hI 231 (by omega) (by omega) (by omega)) (hI 232 (by omega) (by omega) (by omega)) (hI 233 (by omega) (by omega) (by omega)), BiR_c a11 (by rw [hI (bl + 1) (by omega) (by omega) (by omega)]) (h9 36 (by omega) (by omega)) (hI (bl + 2) (by omega) (by omega) (by omega)) (hI 235 (by omega) (by omega) (by omega)) (hI 236 (by omega) (by omega) (by omega)), ClR_c a12 (by rw [hI (cl + 1) (by omega) (by omega) (by omega)]) (h9 44 (by omega) (by omega)) (hI (cl + 2) (by omega) (by omega) (by omega)) (hI 241 (by omega) (by omega) (by omega)) (hI 242 (by omega) (by omega) (by omega)), ⟨hK, hmc⟩, hz⟩
theorem LayK_m {G G' : mG} {k : Nat} (g : Sam G G' k 25) (q : LayK G k) : LayK G' k := by
  obtain ⟨a, b, c, e, f1, f2, f3⟩ := q
  obtain ⟨g1, -, g3⟩ := g k (by omega) (by omega)
  exact ⟨by rw [g1]; exact a, by rw [g3]; exact b, by rw [g3]; exact c, by rw [g3]; exact e, LayS_m (fun a h1 h2 => g a (by omega) (by omega)) f1, LayT_m (fun a h1 h2 => g a (by omega) (by omega)) f2, LayD_m (fun a h1 h2 => g a (by omega) (by omega)) f3⟩
theorem LayW_m {G G' : mG} {k b : Nat} (g : Sam G G' b 4) (q : LayW G k b) : LayW G' k b := by
  obtain ⟨a, c, e⟩ := q
  obtain ⟨g1, -, g3⟩ := g b (by omega) (by omega)
  exact ⟨by rw [g1]; exact a, by rw [g3]; exact c, LayC_m (fun a h1 h2 => g a (by omega) (by omega)) e⟩
theorem LayP_m {G G' : mG} {p h s t u : Nat} (g : Sam G G' p 1) (q : LayP G p h s t u) : LayP G' p h s t u := by
  obtain ⟨g1, -, g3⟩ := g p (by omega) (by omega)
  unfold LayP at q ⊢
  rw [g1, g3]
  exact q
theorem LyR_S {G : mG} {h hs bl bs cl cs kc k : Nat} {mk : Nat → Nat} (q : LyR G h hs bl bs cl cs kc mk) (hk4 : kc < 4) (lK : LayK G k) (h1 : 252 ≤ k) (h2 : k + 25 ≤ G.1) (h3 : ∀ i, i < kc → mk i + 25 ≤ k) : LyR (gS G 198 kc (some k)) h hs bl bs cl cs (kc + 1) (va_up mk kc k) := by
  obtain ⟨a1, a2, a3, ⟨ht, a4⟩, ⟨a5, a6⟩, ⟨a7, a8⟩, ⟨a9, a10⟩, ⟨a11, a12⟩, a13, ⟨a14, a15⟩, ⟨a16, a17⟩, a18, ⟨a19, a20⟩, a21, a22, a23, a24, a25, a26, a27, a28, a29⟩ := q
  refine ⟨?_, LayX_m (Sam_S (by omega)) a2, LayP_m (Sam_S (by omega)) a3, ⟨ht, LayP_m (Sam_S (by omega)) a4⟩, ⟨LayH_m (Sam_S (by omega)) a5, LayH_m (Sam_S (by omega)) a6⟩, ⟨LayS_m (Sam_S (by omega)) a7, LayS_m (Sam_S (by omega)) a8⟩, ⟨LayT_m (Sam_S (by omega)) a9, LayT_m (Sam_S (by omega)) a10⟩, ⟨LayU_m (Sam_S (by omega)) a11, LayU_m (Sam_S (by omega)) a12⟩, LayD_m (Sam_S (by omega)) a13, ⟨LayW_m (Sam_S (by omega)) a14, LayW_m (Sam_S (by omega)) a15⟩, ⟨LayW_m (Sam_S (by omega)) a16, LayW_m (Sam_S (by omega)) a17⟩, LayM_m (Sam_S (by omega)) a18, ⟨a19, a20⟩, a21, a22, a23, a24, a25, by omega, ?_, ?_, ?_⟩
  · unfold LayB at a1 ⊢
    simp (disch := omega) only [kS, nS, rS, up_ne]
    exact a1
  · intro i hi
    by_cases c : i = kc
    · rw [c, up_eq, rS, up_eq, up_eq]
      exact ⟨rfl, LayK_m (Sam_S (by omega)) lK, h1, h2⟩
    · obtain ⟨b1, b2, b3, b4⟩ := a27 i (by omega)
      rw [up_ne c, rS, up_eq, up_ne c]
      exact ⟨b1, LayK_m (Sam_S (by omega)) b2, b3, b4⟩
  · intro i hi h4
    rw [rS, up_eq, up_ne (by omega)]
    exact a28 i (by omega) h4
  · intro i j hij hj
    by_cases c : j = kc
    · rw [c, up_eq, up_ne (by omega)]
      exact h3 i (by omega)
    · rw [up_ne c, up_ne (by omega)]
      exact a29 i j hij (by omega)
section
variable {z h hs bl bs cl cs nr n nh M hN w lc mc kc ta : Nat} {rm pi mk : Nat → Nat} {G : mG} {I : Nat → Nat → Int32} {L : Nat → Nat → Int64}
/-- new cells above change nothing below -/
theorem Rel_g {G' : mG} {I' : Nat → Nat → Int32} {L' : Nat → Nat → Int64} {kc' : Nat} {mk' : Nat → Nat} (q : Rel z h hs bl bs cl cs nr n nh M hN w lc mc kc ta rm pi mk G I L) (hG : LyR G' h hs bl bs cl cs kc' mk') (hk : kc ≤ kc') (hmk : ∀ i, i < kc → mk' i = mk i) (hI : ∀ a, a < G.1 → I' a = I a) (hL : ∀ a, a < G.1 → L' a = L a) : Rel z h hs bl bs cl cs nr n nh M hN w lc mc kc' ta rm pi mk' G' I' L' := by
  obtain ⟨a1, a2, ⟨a3, a3'⟩, a4, ⟨a5, a5'⟩, a6, a7, a8, a9, a10, a11, a12, ⟨a13, a13'⟩, a14⟩ := q
  obtain ⟨-, -, hnr8, -, -, hn8⟩ := ho_sz a2
  have hm := a1.2.2.2.2.2.2.2.2.2.2.2.2.2.2.2.2.2.2.2.1
  have hh := a1.2.2.2.2.2.2.2.2.2.2.2.2.2.2.1
  have hb := a1.2.2.2.2.2.2.2.2.2.2.2.2.2.2.2.1
  have hc := a1.2.2.2.2.2.2.2.2.2.2.2.2.2.2.2.2.1
  have h252 := a1.2.2.2.2.2.2.2.2.2.2.2.2.2.2.2.2.2.1
  have m1 : MkR I' L' z nr n mc mk := MkR_c a13 hn8 hnr8 (Nat.le_refl z) (by rw [hI 100 (by omega)]) (by rw [hI 219 (by omega)]) (hI 246 (by omega)) (hI 247 (by omega)) (hI 248 (by omega)) (hI 249 (by omega)) (hL 250 (by omega)) (hI 220 (by omega)) (fun i a hi h1 h2 => by
    obtain ⟨-, -, m3, m4⟩ := hm i (by omega)
    exact ⟨hI a (by omega), hL a (by omega)⟩)
  refine ⟨hG, HoR_c a2 (fun a h1 h2 => hI a (by omega)) (hI 220 (by omega)), ⟨FlR_c a3 (fun k h1 h2 h3 h4 => by rw [hI 219 (by omega)]), by rw [hI 219 (by omega)]; exact a3'⟩, SeR_c a4 hn8 (fun a h1 h2 => hI a (by omega)) (fun j _ => by rw [hI 223 (by omega)]), ⟨StR_c a5 hn8 hnr8 (fun a h1 h2 => hI a (by omega)) (hL _ (by omega)) (hI 220 (by omega)) (fun j _ => by rw [hI 223 (by omega)]) (fun j _ => by rw [hL 225 (by omega)]), a5'⟩, TaR_c a6 (fun a h1 h2 => hI a (by omega)) (hI 220 (by omega)), DiR_c a7 hnr8 (fun a h1 h2 => hI a (by omega)) (fun j _ => by rw [hI 228 (by omega)]) (fun j _ => by rw [hI 229 (by omega)]), TpR_c a8 (by rw [hI 101 (by omega)]) (by rw [hI 101 (by omega)]) (hI 102 (by omega)) (by rw [hI 219 (by omega)]) (by rw [hI 219 (by omega)]) (hI 222 (by omega)), EgR_c a9 (hI 215 (by omega)) (hI 217 (by omega)) (hI 230 (by omega)) (hI 240 (by omega)), LgR_c a10 (by rw [hI 100 (by omega)]) (by rw [hI 219 (by omega)]) (hI 218 (by omega)) (hI 231 (by omega)) (hI 232 (by omega)) (hI 233 (by omega)), BiR_c a11 (by rw [hI (bl + 1) (by omega)]) (by rw [hI 219 (by omega)]) (hI (bl + 2) (by omega)) (hI 235 (by omega)) (hI 236 (by omega)), ClR_c a12 (by rw [hI (cl + 1) (by omega)]) (by rw [hI 219 (by omega)]) (hI (cl + 2) (by omega)) (hI 241 (by omega)) (hI 242 (by omega)), ⟨?_, by omega⟩, a14⟩
  obtain ⟨b1, b2, b3⟩ := m1
  refine ⟨b1, b2, fun i hi => ?_⟩
  rw [hmk i (by omega)]
  exact b3 i hi
theorem mk_step (d : Nat) (q : Rel z h hs bl bs cl cs nr n nh M hN w lc mc kc ta rm pi mk G I L) (g1 : G.1 ≤ 252 + z + 25 * kc) (g2 : G.2.1 ≤ 60000 + 6 * z + 4000 * kc) (hz : z + 1 ≤ 512) (hm : mc < kc) : ∃ I1 L1 I2 L2, f_X11_mark (d + 3) 42 [.ref 100, .ref (mk mc)] [] (G, I, L) = some (.inl (some (.int (Int32.ofNat (mc + 1)))), (G, I1, L1)) ∧ I1 0 = I 0 ∧ mcal mT (d + 4) 286 [.ref 219] (G, I1, L1) = some (.inl (some (.int (Int32.ofNat (mc + 1)))), (G, I2, L2)) ∧ I2 0 = I 0 ∧ Rel (z + 1) h hs bl bs cl cs nr n nh M hN w lc (mc + 1) kc ta rm pi mk G I2 L2 := by
  obtain ⟨lB, lX, lP, -, ⟨lH1, lH2⟩, ⟨lS, -⟩, ⟨lT, -⟩, ⟨lU, -⟩, lD, -, -, lM, ⟨o1, o2⟩, -, hh, -⟩ := id q.1
  have ho := q.2.1
  obtain ⟨s1, s2, s3, s4, s5, s6⟩ := ho_sz ho
  have lH : LayH G h := by
    rcases hh with ⟨a, -⟩ | ⟨a, -⟩
    · rw [a]; exact lH1
    · rw [a]; exact lH2
  have hb : 103 ≤ h ∧ h + 14 ≤ 132 := by omega
  obtain ⟨-, -, ⟨hF, hHN⟩, hS, ⟨hT, hMz⟩, hU, hD, hTp, hEg, hLg, -, -, -, -⟩ := id q
  have z1 : ¬ (1 : Int32) = 0 := by decide
  have I00 : (va_up I 219 (va_up (I 219) 0 0)) 219 0 = 0 := by rw [up_eq, up_eq]
  have I01 : (va_up I 219 (va_up (I 219) 0 0)) 220 = I 220 := up_ne (by decide)
  obtain ⟨k1, k2, k3⟩ := q.2.2.2.2.2.2.2.2.2.2.2.2.1.1
  have kc4 := q.1.2.2.2.2.2.2.2.2.2.2.2.2.2.2.2.2.2.2.1
  have mks := q.1.2.2.2.2.2.2.2.2.2.2.2.2.2.2.2.2.2.2.2.1
  have mkd := q.1.2.2.2.2.2.2.2.2.2.2.2.2.2.2.2.2.2.2.2.2.2
  obtain ⟨-, lK, h252, -⟩ := mks mc hm
  have kp := c_keep (d + 1) (I := I) (L := L) lP lS lT lD lK
  generalize hk : mk mc = k at lK h252 kp
  have X : ∀ a, a < 252 → cpA I 132 139 195 (k + 1) (k + 8) (k + 22) a = I a := fun a ha => cpA_fr (by omega) (by omega) (by omega)
  have cls : f_X11_mark (d + 3) 42 [.ref 100, .ref k] [] (G, I, L) = some (.inl (some (.int (Int32.ofNat (mc + 1)))), (G, va_up (cpA I 132 139 195 (k + 1) (k + 8) (k + 22)) 100 (va_up (I 100) 6 (Int32.ofNat (mc + 1))), cpr L (139 + 9) (k + 8 + 9) 8)) := by
    rw [e_X11_mark_42]
    simp (disch := omega) only [↓vB lB, ↓vK lK, ↓mcV_of kp, up2_e, up_eq, X, k1, i_one]
  generalize hI1 : va_up (cpA I 132 139 195 (k + 1) (k + 8) (k + 22)) 100 (va_up (I 100) 6 (Int32.ofNat (mc + 1))) = I1 at cls
  have o1 : ∀ a, a < 252 → a ≠ 100 → I1 a = I a := fun a ha hb => by rw [← hI1, up_ne hb, X a ha]
  have x1 : ∀ a, 252 ≤ a → I1 a = cpA I 132 139 195 (k + 1) (k + 8) (k + 22) a := fun a ha => by rw [← hI1, up_ne (by omega)]
  generalize hL1 : cpr L (139 + 9) (k + 8 + 9) 8 = L1 at cls
  have lo1 : ∀ a, a ≠ k + 17 → L1 a = L a := fun a ha => by rw [← hL1, cpr_ne ha]
  have rf := r_mark (d + 3) (J := I1) (K := L1) (mc := mc) lM (by rw [o1 _ (by decide) (by decide)]; exact k2) (by omega)
  refine ⟨I1, L1, rMk I1 mc, _, cls, o1 0 (by decide) (by decide), rf, ?_, ?_⟩
  · unfold rMk
    simp (disch := omega) only [up_ne]
    exact o1 0 (by decide) (by decide)
  have m2 : ∀ a, a ≠ 219 → ¬ (246 ≤ a ∧ a < 250) → rMk I1 mc a = I1 a := by
    intro a h1 h2
    unfold rMk
    simp (disch := omega) only [up_ne]
  refine Rel_mk q hz (fun a h1 h2 h3 => ?_) (fun k hk hk2 => ?_) (fun j _ _ => ?_) (fun a h1 h2 h3 => ?_) (fun k hk => ?_) ?_ (by omega)
  · rw [m2 a h2 (by omega), o1 a (by omega) (by omega)]
  · unfold rMk
    rw [up_eq, up_ne hk2, up_ne hk, o1 _ (by decide) (by decide)]
  · rw [m2 _ (by decide) (by decide), o1 _ (by decide) (by decide)]
  · rw [up_ne (by omega), lo1 a (by omega)]
  · rw [m2 _ (by decide) (by decide), ← hI1, up_eq, up_ne hk]
  · have r246 : rMk I1 mc 246 = isg (173 * mc) 173 (I 223) (I 246) := by
      unfold rMk
      simp (disch := omega) only [up_ne, up_eq]
      rw [o1 _ (by decide) (by decide), o1 _ (by decide) (by decide)]
    have r247 : rMk I1 mc 247 = isg (2688 * mc) 2688 (I 228) (I 247) := by
      unfold rMk
      simp (disch := omega) only [up_ne, up_eq]
      rw [o1 _ (by decide) (by decide), o1 _ (by decide) (by decide)]
    have r248 : rMk I1 mc 248 = isg (56 * mc) 56 (I 229) (I 248) := by
      unfold rMk
      simp (disch := omega) only [up_ne, up_eq]
      rw [o1 _ (by decide) (by decide), o1 _ (by decide) (by decide)]
    have r249 : rMk I1 mc 249 = va_up (I 249) mc (I 219 23) := by
      unfold rMk
      simp (disch := omega) only [up_ne, up_eq]
      rw [o1 _ (by decide) (by decide), o1 _ (by decide) (by decide)]
    have r220 : rMk I1 mc 220 = I 220 := by rw [m2 _ (by decide) (by decide), o1 _ (by decide) (by decide)]
    have r250 : va_up L1 250 (isg (16 * mc) 16 (L1 225) (L1 250)) 250 = isg (16 * mc) 16 (L 225) (L 250) := by rw [up_eq, lo1 _ (by omega), lo1 _ (by omega)]
    refine ⟨?_, ?_, fun i hi => ?_⟩
    · rw [m2 _ (by decide) (by decide), ← hI1, up_eq, up_eq]
    · unfold rMk
      rw [up_eq, up_eq]
    by_cases c : i = mc
    · rw [c, hk, r246, r247, r248, r249, r220, r250]
      have hF : Far 132 139 195 (k + 1) (k + 8) (k + 22) := by
        unfold Far
        omega
      have e : ∀ a, k ≤ a → a < k + 25 → rMk I1 mc a = cpA I 132 139 195 (k + 1) (k + 8) (k + 22) a := fun a h1 h2 => by rw [m2 a (by omega) (by omega), x1 a (by omega)]
      have lk : ∀ j, j < 8 → va_up L1 250 (isg (16 * mc) 16 (L1 225) (L1 250)) (k + 8 + 9) j = L (139 + 9) j := fun j hj => by rw [up_ne (by omega), ← hL1, cpr_eq, pre_lt hj]
      refine ⟨nh, M, hN, w, SeR_c (cpA_Se (t := 139) (e := 195) (t' := k + 8) (e' := k + 22) hS s6 hF fun _ _ => rfl) s6 (fun a h1 h2 => e a (by omega) (by omega)) (fun j hj => seg_in (by omega)), StR_c (cpA_St (s := 132) (e := 195) (s' := k + 1) (e' := k + 22) (L' := va_up L1 250 (isg (16 * mc) 16 (L1 225) (L1 250))) hT s6 s3 hF lk (fun _ _ => rfl) (fun _ _ => rfl)) s6 s3 (fun a h1 h2 => e a (by omega) (by omega)) rfl rfl (fun j hj => seg_in (by omega)) (fun j hj => seg_in hj), DiR_c (cpA_Di (s := 132) (t := 139) (s' := k + 1) (t' := k + 8) hD s3 hF (fun _ _ => rfl) (fun _ _ => rfl)) s3 (fun a h1 h2 => e a (by omega) (by omega)) (fun j hj => seg_in hj) (fun j hj => seg_in hj), ?_, by omega⟩
      rw [up_eq]
      exact hHN
    · obtain ⟨nh', M', hN', w', b1, b2, b3, b4, b5⟩ := k3 i (by omega)
      have dj := mkd i mc (by omega) hm
      rw [hk] at dj
      obtain ⟨-, -, i252, -⟩ := mks i (by omega)
      have e : ∀ a, mk i ≤ a → a < mk i + 25 → rMk I1 mc a = I a := fun a h1 h2 => by rw [m2 a (by omega) (by omega), x1 a (by omega), cpA_fr (by omega) (by omega) (by omega)]
      rw [r246, r247, r248, r249, r220, r250]
      refine ⟨nh', M', hN', w', SeR_c b1 s6 (fun a h1 h2 => e a (by omega) (by omega)) (fun j hj => seg_out (by omega)), StR_c b2 s6 s3 (fun a h1 h2 => e a (by omega) (by omega)) (by rw [up_ne (by omega), lo1 _ (by omega)]) rfl (fun j hj => seg_out (by omega)) (fun j hj => seg_out (by omega)), DiR_c b3 s3 (fun a h1 h2 => e a (by omega) (by omega)) (fun j hj => seg_out (by omega)) (fun j hj => seg_out (by omega)), ?_, by omega⟩
      rw [up_ne c]
      exact b4
end
