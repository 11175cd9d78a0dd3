/-! calls that set -/
theorem Rel_set {z h hs bl bs cl cs nr n nh M hN w lc mc kc ta : Nat} {rm pi mk : Nat → Nat} {G : mG} {I I' : Nat → Nat → Int32} {L L' : Nat → Nat → Int64} (q : Rel z h hs bl bs cl cs nr n nh M hN w lc mc kc ta rm pi mk G I L) (hz : z + 1 ≤ 512) (hI : ∀ a, ¬ (132 ≤ a ∧ a < 139) → a ≠ 219 → a ≠ 223 → I' a = I a) (h9 : ∀ k, k ≠ 0 → I' 219 k = I 219 k) (h3 : ∀ j, j < 173 → (j < 24 ∨ (32 ≤ j ∧ j < 44) ∨ (71 ≤ j ∧ j < 130) ∨ 168 ≤ j) → I' 223 j = I 223 j) (hL : ∀ a, a ≠ 251 → L' a = L a) {nh' : Nat} (hS : SeR I' 132 (I' 223) n nh') : Rel (z + 1) h hs bl bs cl cs nr n nh' M hN w lc mc kc ta rm pi mk G I' L' := by
  obtain ⟨a1, a2, ⟨a3, a3'⟩, a4, ⟨a5, a5'⟩, a6, a7, a8, a9, a10, a11, a12, ⟨a13, a13'⟩, a14⟩ := q
  obtain ⟨-, -, hnr8, -, -, hn8⟩ := ho_sz a2
  have hm := a1.2.2.2.2.2.2.2.2.2.2.2.2.2.2.2.2.2.2.2.1
  have hh := a1.2.2.2.2.2.2.2.2.2.2.2.2.2.2.1
  have hb := a1.2.2.2.2.2.2.2.2.2.2.2.2.2.2.2.1
  have hc := a1.2.2.2.2.2.2.2.2.2.2.2.2.2.2.2.2.1
  exact ⟨a1, HoR_c a2 (fun a h1 h2 => hI a (by omega) (by omega) (by omega)) (hI 220 (by omega) (by omega) (by omega)), ⟨FlR_c a3 (fun k h1 h2 h3 h4 => h9 k (by omega)), by rw [h9 23 (by omega)]; exact a3'⟩, hS, ⟨StR_c a5 hn8 hnr8 (fun a h1 h2 => hI a (by omega) (by omega) (by omega)) (hL _ (by omega)) (hI 220 (by omega) (by omega) (by omega)) (fun j hj => h3 j (by omega) (by first | trivial | omega)) (fun j _ => by rw [hL 225 (by omega)]), by omega⟩, TaR_c a6 (fun a h1 h2 => hI a (by omega) (by omega) (by omega)) (hI 220 (by omega) (by omega) (by omega)), DiR_c a7 hnr8 (fun a h1 h2 => hI a (by omega) (by omega) (by omega)) (fun j _ => by rw [hI 228 (by omega) (by omega) (by omega)]) (fun j _ => by rw [hI 229 (by omega) (by omega) (by omega)]), TpR_c a8 (by rw [hI 101 (by omega) (by omega) (by omega)]) (by rw [hI 101 (by omega) (by omega) (by omega)]) (hI 102 (by omega) (by omega) (by omega)) (h9 3 (by omega)) (h9 9 (by omega)) (hI 222 (by omega) (by omega) (by omega)), EgR_c a9 (hI 215 (by omega) (by omega) (by omega)) (hI 217 (by omega) (by omega) (by omega)) (hI 230 (by omega) (by omega) (by omega)) (hI 240 (by omega) (by omega) (by omega)), LgR_c a10 (by rw [hI 100 (by omega) (by omega) (by omega)]) (h9 28 (by omega)) (hI 218 (by omega) (by omega) (by omega)) (hI 231 (by omega) (by omega) (by omega)) (hI 232 (by omega) (by omega) (by omega)) (hI 233 (by omega) (by omega) (by omega)), BiR_c a11 (by rw [hI (bl + 1) (by omega) (by omega) (by omega)]) (h9 36 (by omega)) (hI (bl + 2) (by omega) (by omega) (by omega)) (hI 235 (by omega) (by omega) (by omega)) (hI 236 (by omega) (by omega) (by omega)), ClR_c a12 (by rw [hI (cl + 1) (by omega) (by omega) (by omega)]) (h9 44 (by omega)) (hI (cl + 2) (by omega) (by omega) (by omega)) (hI 241 (by omega) (by omega) (by omega)) (hI 242 (by omega) (by omega) (by omega)), ⟨MkR_c a13 hn8 hnr8 (Nat.le_succ z) (by rw [hI 100 (by omega) (by omega) (by omega)]) (h9 51 (by omega)) (hI 246 (by omega) (by omega) (by omega)) (hI 247 (by omega) (by omega) (by omega)) (hI 248 (by omega) (by omega) (by omega)) (hI 249 (by omega) (by omega) (by omega)) (hL 250 (by omega)) (hI 220 (by omega) (by omega) (by omega)) (fun i a hi h1 h2 => by
    obtain ⟨-, -, m3, m4⟩ := hm i (by omega)
    exact ⟨hI a (by omega) (by omega) (by omega), hL a (by omega)⟩), a13'⟩, hz⟩
theorem Rel_sta {z h hs bl bs cl cs nr n nh M hN w lc mc kc ta : Nat} {rm pi mk : Nat → Nat} {G : mG} {I I' : Nat → Nat → Int32} {L L' : Nat → Nat → Int64} (q : Rel z h hs bl bs cl cs nr n nh M hN w lc mc kc ta rm pi mk G I L) (hz : z + 1 ≤ 512) (hI : ∀ a, ¬ (a = 139) → a ≠ 219 → a ≠ 223 → I' a = I a) (h9 : ∀ k, k ≠ 0 → I' 219 k = I 219 k) (h3 : ∀ j, j < 173 → ((24 ≤ j ∧ j < 32) ∨ (44 ≤ j ∧ j < 71) ∨ (130 ≤ j ∧ j < 168)) → I' 223 j = I 223 j) (hL : ∀ a, a ≠ 251 → L' a = L a) (hT : StR I' L' 139 (I' 220) (I' 223) (L' 225) nr n M) : Rel (z + 1) h hs bl bs cl cs nr n nh M hN w lc mc kc ta rm pi mk G I' L' := by
  obtain ⟨a1, a2, ⟨a3, a3'⟩, a4, ⟨a5, a5'⟩, a6, a7, a8, a9, a10, a11, a12, ⟨a13, a13'⟩, a14⟩ := q
  obtain ⟨-, -, hnr8, -, -, hn8⟩ := ho_sz a2
  have hm := a1.2.2.2.2.2.2.2.2.2.2.2.2.2.2.2.2.2.2.2.1
  have hh := a1.2.2.2.2.2.2.2.2.2.2.2.2.2.2.1
  have hb := a1.2.2.2.2.2.2.2.2.2.2.2.2.2.2.2.1
  have hc := a1.2.2.2.2.2.2.2.2.2.2.2.2.2.2.2.2.1
  exact ⟨a1, HoR_c a2 (fun a h1 h2 => hI a (by omega) (by omega) (by omega)) (hI 220 (by omega) (by omega) (by omega)), ⟨FlR_c a3 (fun k h1 h2 h3 h4 => h9 k (by omega)), by rw [h9 23 (by omega)]; exact a3'⟩, SeR_c a4 hn8 (fun a h1 h2 => hI a (by omega) (by omega) (by omega)) (fun j hj => h3 j (by omega) (by first | trivial | omega)), ⟨hT, by omega⟩, TaR_c a6 (fun a h1 h2 => hI a (by omega) (by omega) (by omega)) (hI 220 (by omega) (by omega) (by omega)), DiR_c a7 hnr8 (fun a h1 h2 => hI a (by omega) (by omega) (by omega)) (fun j _ => by rw [hI 228 (by omega) (by omega) (by omega)]) (fun j _ => by rw [hI 229 (by omega) (by omega) (by omega)]), TpR_c a8 (by rw [hI 101 (by omega) (by omega) (by omega)]) (by rw [hI 101 (by omega) (by omega) (by omega)]) (hI 102 (by omega) (by omega) (by omega)) (h9 3 (by omega)) (h9 9 (by omega)) (hI 222 (by omega) (by omega) (by omega)), EgR_c a9 (hI 215 (by omega) (by omega) (by omega)) (hI 217 (by omega) (by omega) (by omega)) (hI 230 (by omega) (by omega) (by omega)) (hI 240 (by omega) (by omega) (by omega)), LgR_c a10 (by rw [hI 100 (by omega) (by omega) (by omega)]) (h9 28 (by omega)) (hI 218 (by omega) (by omega) (by omega)) (hI 231 (by omega) (by omega) (by omega)) (hI 232 (by omega) (by omega) (by omega)) (hI 233 (by omega) (by omega) (by omega)), BiR_c a11 (by rw [hI (bl + 1) (by omega) (by omega) (by omega)]) (h9 36 (by omega)) (hI (bl + 2) (by omega) (by omega) (by omega)) (hI 235 (by omega) (by omega) (by omega)) (hI 236 (by omega) (by omega) (by omega)), ClR_c a12 (by rw [hI (cl + 1) (by omega) (by omega) (by omega)]) (h9 44 (by omega)) (hI (cl + 2) (by omega) (by omega) (by omega)) (hI 241 (by omega) (by omega) (by omega)) (hI 242 (by omega) (by omega) (by omega)), ⟨MkR_c a13 hn8 hnr8 (Nat.le_succ z) (by rw [hI 100 (by omega) (by omega) (by omega)]) (h9 51 (by omega)) (hI 246 (by omega) (by omega) (by omega)) (hI 247 (by omega) (by omega) (by omega)) (hI 248 (by omega) (by omega) (by omega)) (hI 249 (by omega) (by omega) (by omega)) (hL 250 (by omega)) (hI 220 (by omega) (by omega) (by omega)) (fun i a hi h1 h2 => by
    obtain ⟨-, -, m3, m4⟩ := hm i (by omega)
    exact ⟨hI a (by omega) (by omega) (by omega), hL a (by omega)⟩), a13'⟩, hz⟩
theorem Rel_eg {z h hs bl bs cl cs nr n nh M hN w lc mc kc ta : Nat} {rm pi mk : Nat → Nat} {G : mG} {I I' : Nat → Nat → Int32} {L L' : Nat → Nat → Int64} (q : Rel z h hs bl bs cl cs nr n nh M hN w lc mc kc ta rm pi mk G I L) (hz : z + 1 ≤ 512) (hI : ∀ a, ¬ (a = 215 ∨ a = 217 ∨ a = 230 ∨ a = 240) → a ≠ 219 → a ≠ 223 → I' a = I a) (h9 : ∀ k, k ≠ 0 → I' 219 k = I 219 k) (h3 : ∀ j, j < 173 → True → I' 223 j = I 223 j) (hL : ∀ a, a ≠ 251 → L' a = L a) (hE : EgR I') : Rel (z + 1) h hs bl bs cl cs nr n nh M hN w lc mc kc ta rm pi mk G I' L' := by
  obtain ⟨a1, a2, ⟨a3, a3'⟩, a4, ⟨a5, a5'⟩, a6, a7, a8, a9, a10, a11, a12, ⟨a13, a13'⟩, a14⟩ := q
  obtain ⟨-, -, hnr8, -, -, hn8⟩ := ho_sz a2
  have hm := a1.2.2.2.2.2.2.2.2.2.2.2.2.2.2.2.2.2.2.2.1
  have hh := a1.2.2.2.2.2.2.2.2.2.2.2.2.2.2.1
  have hb := a1.2.2.2.2.2.2.2.2.2.2.2.2.2.2.2.1
  have hc := a1.2.2.2.2.2.2.2.2.2.2.2.2.2.2.2.2.1
  exact ⟨a1, HoR_c a2 (fun a h1 h2 => hI a (by omega) (by omega) (by omega)) (hI 220 (by omega) (by omega) (by omega)), ⟨FlR_c a3 (fun k h1 h2 h3 h4 => h9 k (by omega)), by rw [h9 23 (by omega)]; exact a3'⟩, SeR_c a4 hn8 (fun a h1 h2 => hI a (by omega) (by omega) (by omega)) (fun j hj => h3 j (by omega) (by first | trivial | omega)), ⟨StR_c a5 hn8 hnr8 (fun a h1 h2 => hI a (by omega) (by omega) (by omega)) (hL _ (by omega)) (hI 220 (by omega) (by omega) (by omega)) (fun j hj => h3 j (by omega) (by first | trivial | omega)) (fun j _ => by rw [hL 225 (by omega)]), by omega⟩, TaR_c a6 (fun a h1 h2 => hI a (by omega) (by omega) (by omega)) (hI 220 (by omega) (by omega) (by omega)), DiR_c a7 hnr8 (fun a h1 h2 => hI a (by omega) (by omega) (by omega)) (fun j _ => by rw [hI 228 (by omega) (by omega) (by omega)]) (fun j _ => by rw [hI 229 (by omega) (by omega) (by omega)]), TpR_c a8 (by rw [hI 101 (by omega) (by omega) (by omega)]) (by rw [hI 101 (by omega) (by omega) (by omega)]) (hI 102 (by omega) (by omega) (by omega)) (h9 3 (by omega)) (h9 9 (by omega)) (hI 222 (by omega) (by omega) (by omega)), hE, LgR_c a10 (by rw [hI 100 (by omega) (by omega) (by omega)]) (h9 28 (by omega)) (hI 218 (by omega) (by omega) (by omega)) (hI 231 (by omega) (by omega) (by omega)) (hI 232 (by omega) (by omega) (by omega)) (hI 233 (by omega) (by omega) (by omega)), BiR_c a11 (by rw [hI (bl + 1) (by omega) (by omega) (by omega)]) (h9 36 (by omega)) (hI (bl + 2) (by omega) (by omega) (by omega)) (hI 235 (by omega) (by omega) (by omega)) (hI 236 (by omega) (by omega) (by omega)), ClR_c a12 (by rw [hI (cl + 1) (by omega) (by omega) (by omega)]) (h9 44 (by omega)) (hI (cl + 2) (by omega) (by omega) (by omega)) (hI 241 (by omega) (by omega) (by omega)) (hI 242 (by omega) (by omega) (by omega)), ⟨MkR_c a13 hn8 hnr8 (Nat.le_succ z) (by rw [hI 100 (by omega) (by omega) (by omega)]) (h9 51 (by omega)) (hI 246 (by omega) (by omega) (by omega)) (hI 247 (by omega) (by omega) (by omega)) (hI 248 (by omega) (by omega) (by omega)) (hI 249 (by omega) (by omega) (by omega)) (hL 250 (by omega)) (hI 220 (by omega) (by omega) (by omega)) (fun i a hi h1 h2 => by
    obtain ⟨-, -, m3, m4⟩ := hm i (by omega)
    exact ⟨hI a (by omega) (by omega) (by omega), hL a (by omega)⟩), a13'⟩, hz⟩
theorem wz_r {y : Int32} (c : ¬ (¬ y = 0 ∧ (y < 200 ∨ 900 < y))) : y = 0 ∨ irng y 200 900 := by
  by_cases y0 : y = 0
  · exact Or.inl y0
  · right
    have a := Int32.not_lt.mp (fun q => c ⟨y0, Or.inl q⟩)
    have b := Int32.not_lt.mp (fun q => c ⟨y0, Or.inr q⟩)
    rw [Int32.le_iff_toInt_le] at a b
    exact ⟨a, b⟩
section
variable {z h hs bl bs cl cs nr n nh M hN w lc mc kc ta : Nat} {rm pi mk : Nat → Nat} {G : mG} {I : Nat → Nat → Int32} {L : Nat → Nat → Int64}
/-- a setter: class sets, reference sets; v the value told -/
theorem Ste_n {d W R : Nat} {args : List Value} {v : Int32} {I1 I2 : Nat → Nat → Int32} (g1 : G.1 ≤ 252 + z + 25 * kc) (g2 : G.2.1 ≤ 60000 + 6 * z + 4000 * kc) (hw : mcal mT d W (.ref 100 :: (args ++ [.ref 251])) (G, I, L) = some (.inl (some (.int 0)), (G, I1, up2 L 251 0 (Int32.toInt64 v)))) (hr : ∀ L', mcal mT d R (.ref 219 :: args) (G, I1, L') = some (.inl (some (.int v)), (G, I2, L'))) (e1 : I1 0 = I 0) (e2 : I2 0 = I 0) (e3 : I2 219 0 = 0) (hq : ∃ h hs bl bs cl cs nr n nh M hN w lc mc ta rm pi mk, Rel (z + 1) h hs bl bs cl cs nr n nh M hN w lc mc kc ta rm pi mk G I2 (up2 L 251 0 (Int32.toInt64 v))) : Ste d W R args (z + 1) G I L := by
  obtain ⟨h, hs, bl, bs, cl, cs, nr, n, nh, M, hN, w, lc, mc, ta, rm, pi, mk, hq⟩ := hq
  exact ⟨0, v, G, I1, _, I2, _, hw, e1, rfl, hr _, e2, e3, fun _ => by rw [up2_e, up_eq, up_eq], h, hs, bl, bs, cl, cs, nr, n, nh, M, hN, w, lc, mc, kc, ta, rm, pi, mk, hq, by omega, by omega⟩
theorem ca_out (d : Nat) (q : Rel z h hs bl bs cl cs nr n nh M hN w lc mc kc ta rm pi mk G I L) (g1 : G.1 ≤ 252 + z + 25 * kc) (g2 : G.2.1 ≤ 60000 + 6 * z + 4000 * kc) (hz : z + 1 ≤ 512) (x : Int32) (y : Int32) : Ste (d + 6) 300 238 [.int x, .int y] (z + 1) G I L := by
  obtain ⟨lB, lX, lP, -, ⟨lH1, lH2⟩, ⟨lS, -⟩, ⟨lT, -⟩, ⟨lU, -⟩, lD, -, -, lM, ⟨o1, o2⟩, -, hh, -⟩ := id q.1
  have ho := q.2.1
  obtain ⟨s1, s2, s3, s4, s5, s6⟩ := ho_sz ho
  have lH : LayH G h := by
    rcases hh with ⟨a, -⟩ | ⟨a, -⟩
    · rw [a]; exact lH1
    · rw [a]; exact lH2
  have hb : 103 ≤ h ∧ h + 14 ≤ 132 := by omega
  obtain ⟨-, -, ⟨hF, hHN⟩, hS, ⟨hT, hMz⟩, hU, hD, hTp, hEg, hLg, -, -, -, -⟩ := id q
  have z1 : ¬ (1 : Int32) = 0 := by decide
  have I00 : (va_up I 219 (va_up (I 219) 0 0)) 219 0 = 0 := by rw [up_eq, up_eq]
  have I01 : (va_up I 219 (va_up (I 219) 0 0)) 220 = I 220 := up_ne (by decide)
  by_cases c0 : x < 0 ∨ 23 < x
  · have hc : mcal mT (d + 5) 117 [.ref 100, .int x, .int y] (G, I, L) = some (.inr "java/lang/IllegalArgumentException", (G, I, L)) := by
      simp only [q_X11_out_, e_X11_out_0, ↓vB lB, ↓vP lP, ↓vT lT, ↓vH lH, ↓vS lS, nw_no (d + 3) c0 (G, I, L), mcV_v, mcV_e, mthr_e]
    refine Ste_e (k := 1) q g1 g2 hz (by decide) (w_out_A (d + 5) hc lB.1) fun lM => ?_
    simp only [q_X12_out_, e_X12_out_0, e_X12_out_33, e_X12_out_34, ↓vM lM, up2_e, r_within, mcI_v, wi_0 (x := x) (a := 0) (b := 23) c0, ↓mcI_of (r_may0 (d + 4) 1 lM (I := (va_up I 219 (va_up (I 219) 0 0))) (L := L) I00 (by decide)), up_eq, up_up, if_true, if_neg z1, mb0]
  by_cases c1 : y < -4000 ∨ 4000 < y
  · have hc : mcal mT (d + 5) 117 [.ref 100, .int x, .int y] (G, I, L) = some (.inr "java/lang/IllegalArgumentException", (G, I, L)) := by
      simp only [q_X11_out_, e_X11_out_0, ↓vB lB, ↓vP lP, ↓vT lT, ↓vH lH, ↓vS lS, nw_ok (d + 3) c0 (G, I, L), no_no (d + 2) c1 (G, I, L), mcV_v, mcV_e, mthr_e]
    refine Ste_e (k := 1) q g1 g2 hz (by decide) (w_out_A (d + 5) hc lB.1) fun lM => ?_
    simp only [q_X12_out_, e_X12_out_0, e_X12_out_33, e_X12_out_34, ↓vM lM, up2_e, r_within, mcI_v, wi_1 (x := x) (a := 0) (b := 23) c0, wi_0 (x := y) (a := -4000) (b := 4000) c1, ↓mcI_of (r_may1 (d + 4) 1 lM (I := (va_up I 219 (va_up (I 219) 0 0))) (L := L) I00), ↓mcI_of (r_may0 (d + 4) 1 lM (I := (va_up I 219 (va_up (I 219) 0 0))) (L := L) I00 (by decide)), up_eq, up_up, if_true, if_neg z1, mb0]
  obtain ⟨k0, hk0, rfl⟩ := i_rng (n := 23) c0 (by decide)
  have e : I 134 k0 = I 223 (44 + k0) := hS.2.2.1 k0 (by omega)
  have hc : mcal mT (d + 5) 117 [.ref 100, .int (Int32.ofNat k0), .int y] (G, I, L) = some (.inl (some (.int (I 134 k0))), (G, va_up I 134 (va_up (I 134) k0 y), L)) := by
    simp (disch := omega) only [q_X11_out_, e_X11_out_0, ↓vB lB, ↓vP lP, ↓vT lT, ↓vH lH, ↓vS lS, nw_ok (d + 3) c0 (G, I, L), no_ok (d + 2) c1 (G, I, L), mcV_v, up2_e, up_ne, up_eq, up_up, e]
  have J00 : (va_up (va_up I 134 (va_up (I 134) k0 y)) 219 (va_up (I 219) 0 0)) 219 0 = 0 := by rw [up_eq, up_eq]
  have J01 : (va_up (va_up I 134 (va_up (I 134) k0 y)) 219 (va_up (I 219) 0 0)) 220 = I 220 := by rw [up_ne (by decide), up_ne (by omega)]
  refine Ste_n g1 g2 (w_out (d + 5) hc lB.1 o1 o2) (I2 := va_up (va_up (va_up I 134 (va_up (I 134) k0 y)) 219 (va_up (I 219) 0 0)) 223 (va_up (I 223) (44 + k0) y)) (fun L' => ?_) ?_ ?_ ?_ ?_
  · simp (disch := omega) only [q_X12_out_, e_X12_out_0, e_X12_out_33, e_X12_out_34, e_X12_out_43, ↓vM lM, up2_e, r_within, mcI_v, wi_1 (x := (Int32.ofNat k0)) (a := 0) (b := 23) c0, wi_1 (x := y) (a := -4000) (b := 4000) c1, ↓mcI_of (r_may1 (d + 4) 1 lM (I := (va_up (va_up I 134 (va_up (I 134) k0 y)) 219 (va_up (I 219) 0 0))) (L := L') J00), up_ne, up_eq, if_neg z1, ixA, ixM, i_add, ixZ, e]
  · exact up_ne (by omega)
  · rw [up_ne (by decide), up_ne (by decide), up_ne (by omega)]
  · rw [up_ne (by decide), up_eq, up_eq]
  · refine ⟨h, hs, bl, bs, cl, cs, nr, n, nh, M, hN, w, lc, mc, ta, rm, pi, mk, Rel_set q hz (fun a h1 h2 h3 => by rw [up_ne (by omega), up_ne h2, up_ne (by omega)]) (fun k hk => by rw [up_ne (by omega), up_eq, up_ne hk]) (fun j hj hj2 => ?_) (fun a ha => up_ne ha) ?_⟩
    · rw [up_eq]
      exact up_ne (by omega)
    · obtain ⟨b1, b2, b3, b4, b5, b6, b7⟩ := hS
      have nh4 := b6.2.2
      unfold SeR
      simp (disch := omega) only [up_ne, up_eq]
      exact ⟨fun k hk => by first | exact b1 k hk | (simp (disch := omega) only [up_ne]; exact b1 k hk), b2, fun k hk => by
        by_cases c : k = k0
        · rw [c, up_eq, up_eq]; try exact rfl
        · rw [up_ne c, up_ne (by omega)]; exact b3 k hk, fun k hk => by first | exact b4 k hk | (simp (disch := omega) only [up_ne]; exact b4 k hk), b5, b6, fun k hk => by first | exact b7 k hk | (simp (disch := omega) only [up_ne]; exact b7 k hk)⟩
theorem ca_screw (d : Nat) (q : Rel z h hs bl bs cl cs nr n nh M hN w lc mc kc ta rm pi mk G I L) (g1 : G.1 ≤ 252 + z + 25 * kc) (g2 : G.2.1 ≤ 60000 + 6 * z + 4000 * kc) (hz : z + 1 ≤ 512) (x : Int32) (y : Int32) : Ste (d + 6) 301 239 [.int x, .int y] (z + 1) G I L := by
  obtain ⟨lB, lX, lP, -, ⟨lH1, lH2⟩, ⟨lS, -⟩, ⟨lT, -⟩, ⟨lU, -⟩, lD, -, -, lM, ⟨o1, o2⟩, -, hh, -⟩ := id q.1
  have ho := q.2.1
  obtain ⟨s1, s2, s3, s4, s5, s6⟩ := ho_sz ho
  have lH : LayH G h := by
    rcases hh with ⟨a, -⟩ | ⟨a, -⟩
    · rw [a]; exact lH1
    · rw [a]; exact lH2
  have hb : 103 ≤ h ∧ h + 14 ≤ 132 := by omega
  obtain ⟨-, -, ⟨hF, hHN⟩, hS, ⟨hT, hMz⟩, hU, hD, hTp, hEg, hLg, -, -, -, -⟩ := id q
  have z1 : ¬ (1 : Int32) = 0 := by decide
  have I00 : (va_up I 219 (va_up (I 219) 0 0)) 219 0 = 0 := by rw [up_eq, up_eq]
  have I01 : (va_up I 219 (va_up (I 219) 0 0)) 220 = I 220 := up_ne (by decide)
  by_cases c0 : x < 0 ∨ ¬ x < Int32.ofNat n
  · have hc : mcal mT (d + 5) 118 [.ref 100, .int x, .int y] (G, I, L) = some (.inr "java/util/NoSuchElementException", (G, I, L)) := by
      simp only [q_X11_screw_, e_X11_screw_0, ↓vB lB, ↓vP lP, ↓vT lT, ↓vH lH, ↓vS lS, nk_no (d + 3) (L := L) lB lP lH s4 c0, mcV_v, mcV_e, mthr_e]
    refine Ste_e (k := 1) q g1 g2 hz (by decide) (w_screw_N (d + 5) hc lB.1) fun lM => ?_
    simp only [q_X12_screw_, e_X12_screw_0, e_X12_screw_28, ↓vM lM, up2_e, r_within, mcI_v, ↓mcI_of (rk_no (d + 3) (L := L) (I := (va_up I 219 (va_up (I 219) 0 0))) lM I00 (by rw [I01]; exact s5) s6 c0), ↓mcI_of (r_may0 (d + 4) 1 lM (I := (va_up I 219 (va_up (I 219) 0 0))) (L := L) I00 (by decide)), up_eq, up_up, if_true, if_neg z1, mb0]
  by_cases c1 : y < 1 ∨ 16 < y
  · have hc : mcal mT (d + 5) 118 [.ref 100, .int x, .int y] (G, I, L) = some (.inr "java/lang/IllegalArgumentException", (G, I, L)) := by
      simp only [q_X11_screw_, e_X11_screw_0, ↓vB lB, ↓vP lP, ↓vT lT, ↓vH lH, ↓vS lS, nk_ok (d + 3) (L := L) lB lP lH s4 c0, nw_no (d + 3) c1 (G, I, L), mcV_v, mcV_e, mthr_e]
    refine Ste_e (k := 2) q g1 g2 hz (by decide) (w_screw_A (d + 5) hc lB.1) fun lM => ?_
    simp only [q_X12_screw_, e_X12_screw_0, e_X12_screw_28, ↓vM lM, up2_e, r_within, mcI_v, ↓mcI_of (rk_ok (d + 3) (L := L) (I := (va_up I 219 (va_up (I 219) 0 0))) lM I00 (by rw [I01]; exact s5) s6 c0), wi_0 (x := y) (a := 1) (b := 16) c1, ↓mcI_of (r_may1 (d + 4) 1 lM (I := (va_up I 219 (va_up (I 219) 0 0))) (L := L) I00), ↓mcI_of (r_may0 (d + 4) 2 lM (I := (va_up I 219 (va_up (I 219) 0 0))) (L := L) I00 (by decide)), up_eq, up_up, if_true, if_neg z1, mb0]
  obtain ⟨k0, hk0, rfl⟩ := i_rm (by omega) c0
  have e : I 133 k0 = I 223 (24 + k0) := (hS.1 k0 hk0).1
  have hc : mcal mT (d + 5) 118 [.ref 100, .int (Int32.ofNat k0), .int y] (G, I, L) = some (.inl (some (.int (I 133 k0))), (G, va_up I 133 (va_up (I 133) k0 y), L)) := by
    simp (disch := omega) only [q_X11_screw_, e_X11_screw_0, ↓vB lB, ↓vP lP, ↓vT lT, ↓vH lH, ↓vS lS, nk_ok (d + 3) (L := L) lB lP lH s4 c0, nw_ok (d + 3) c1 (G, I, L), mcV_v, up2_e, up_ne, up_eq, up_up, e]
  have J00 : (va_up (va_up I 133 (va_up (I 133) k0 y)) 219 (va_up (I 219) 0 0)) 219 0 = 0 := by rw [up_eq, up_eq]
  have J01 : (va_up (va_up I 133 (va_up (I 133) k0 y)) 219 (va_up (I 219) 0 0)) 220 = I 220 := by rw [up_ne (by decide), up_ne (by omega)]
  refine Ste_n g1 g2 (w_screw (d + 5) hc lB.1 o1 o2) (I2 := va_up (va_up (va_up I 133 (va_up (I 133) k0 y)) 219 (va_up (I 219) 0 0)) 223 (va_up (I 223) (24 + k0) y)) (fun L' => ?_) ?_ ?_ ?_ ?_
  · simp (disch := omega) only [q_X12_screw_, e_X12_screw_0, e_X12_screw_28, e_X12_screw_30, ↓vM lM, up2_e, r_within, mcI_v, ↓mcI_of (rk_ok (d + 3) (L := L') (I := (va_up (va_up I 133 (va_up (I 133) k0 y)) 219 (va_up (I 219) 0 0))) lM J00 (by rw [J01]; exact s5) s6 c0), wi_1 (x := y) (a := 1) (b := 16) c1, ↓mcI_of (r_may1 (d + 4) 1 lM (I := (va_up (va_up I 133 (va_up (I 133) k0 y)) 219 (va_up (I 219) 0 0))) (L := L') J00), ↓mcI_of (r_may1 (d + 4) 2 lM (I := (va_up (va_up I 133 (va_up (I 133) k0 y)) 219 (va_up (I 219) 0 0))) (L := L') J00), up_ne, up_eq, if_neg z1, ixA, ixM, i_add, ixZ, e]
  · exact up_ne (by omega)
  · rw [up_ne (by decide), up_ne (by decide), up_ne (by omega)]
  · rw [up_ne (by decide), up_eq, up_eq]
  · refine ⟨h, hs, bl, bs, cl, cs, nr, n, nh, M, hN, w, lc, mc, ta, rm, pi, mk, Rel_set q hz (fun a h1 h2 h3 => by rw [up_ne (by omega), up_ne h2, up_ne (by omega)]) (fun k hk => by rw [up_ne (by omega), up_eq, up_ne hk]) (fun j hj hj2 => ?_) (fun a ha => up_ne ha) ?_⟩
    · rw [up_eq]
      exact up_ne (by omega)
    · obtain ⟨b1, b2, b3, b4, b5, b6, b7⟩ := hS
      have nh4 := b6.2.2
      unfold SeR
      simp (disch := omega) only [up_ne, up_eq]
      exact ⟨fun k hk => by
        by_cases c : k = k0
        · rw [c, up_eq, up_eq]; try exact ⟨rfl, ⟨by have := Int32.not_lt.mp (fun q => c1 (Or.inl q)); rw [Int32.le_iff_toInt_le] at this; exact this, by have := Int32.not_lt.mp (fun q => c1 (Or.inr q)); rw [Int32.le_iff_toInt_le] at this; exact this⟩⟩
        · rw [up_ne c, up_ne (by omega)]; exact b1 k hk, b2, fun k hk => by first | exact b3 k hk | (simp (disch := omega) only [up_ne]; exact b3 k hk), fun k hk => by first | exact b4 k hk | (simp (disch := omega) only [up_ne]; exact b4 k hk), b5, b6, fun k hk => by first | exact b7 k hk | (simp (disch := omega) only [up_ne]; exact b7 k hk)⟩
theorem ca_water (d : Nat) (q : Rel z h hs bl bs cl cs nr n nh M hN w lc mc kc ta rm pi mk G I L) (g1 : G.1 ≤ 252 + z + 25 * kc) (g2 : G.2.1 ≤ 60000 + 6 * z + 4000 * kc) (hz : z + 1 ≤ 512) (x : Int32) (y : Int32) : Ste (d + 6) 322 271 [.int x, .int y] (z + 1) G I L := by
  obtain ⟨lB, lX, lP, -, ⟨lH1, lH2⟩, ⟨lS, -⟩, ⟨lT, -⟩, ⟨lU, -⟩, lD, -, -, lM, ⟨o1, o2⟩, -, hh, -⟩ := id q.1
  have ho := q.2.1
  obtain ⟨s1, s2, s3, s4, s5, s6⟩ := ho_sz ho
  have lH : LayH G h := by
    rcases hh with ⟨a, -⟩ | ⟨a, -⟩
    · rw [a]; exact lH1
    · rw [a]; exact lH2
  have hb : 103 ≤ h ∧ h + 14 ≤ 132 := by omega
  obtain ⟨-, -, ⟨hF, hHN⟩, hS, ⟨hT, hMz⟩, hU, hD, hTp, hEg, hLg, -, -, -, -⟩ := id q
  have z1 : ¬ (1 : Int32) = 0 := by decide
  have I00 : (va_up I 219 (va_up (I 219) 0 0)) 219 0 = 0 := by rw [up_eq, up_eq]
  have I01 : (va_up I 219 (va_up (I 219) 0 0)) 220 = I 220 := up_ne (by decide)
  by_cases c0 : x < 0 ∨ 23 < x
  · have hc : mcal mT (d + 5) 122 [.ref 100, .int x, .int y] (G, I, L) = some (.inr "java/lang/IllegalArgumentException", (G, I, L)) := by
      simp only [q_X11_water_, e_X11_water_0, e_X11_water_21, ↓vB lB, ↓vP lP, ↓vT lT, ↓vH lH, ↓vS lS, nw_no (d + 3) c0 (G, I, L), mcV_v, mcV_e, mthr_e]
    refine Ste_e (k := 1) q g1 g2 hz (by decide) (w_water_A (d + 5) hc lB.1) fun lM => ?_
    simp only [q_X12_water_, e_X12_water_0, e_X12_water_33, e_X12_water_37, e_X12_water_38, ↓vM lM, up2_e, r_within, mcI_v, wi_0 (x := x) (a := 0) (b := 23) c0, ↓mcI_of (r_may0 (d + 4) 1 lM (I := (va_up I 219 (va_up (I 219) 0 0))) (L := L) I00 (by decide)), up_eq, up_up, if_true, if_neg z1, mb0]
  by_cases c1 : ¬ y = 0 ∧ (y < 200 ∨ 900 < y)
  · have hc : mcal mT (d + 5) 122 [.ref 100, .int x, .int y] (G, I, L) = some (.inr "java/lang/IllegalArgumentException", (G, I, L)) := by
      simp only [q_X11_water_, e_X11_water_0, e_X11_water_21, ↓vB lB, ↓vP lP, ↓vT lT, ↓vH lH, ↓vS lS, nw_ok (d + 3) c0 (G, I, L), if_neg c1.1, nw_no (d + 3) c1.2 (G, I, L), mcV_v, mcV_e, mthr_e]
    refine Ste_e (k := 1) q g1 g2 hz (by decide) (w_water_A (d + 5) hc lB.1) fun lM => ?_
    simp only [q_X12_water_, e_X12_water_0, e_X12_water_33, e_X12_water_37, e_X12_water_38, ↓vM lM, up2_e, r_within, mcI_v, wi_1 (x := x) (a := 0) (b := 23) c0, if_neg c1.1, wi_0 (x := y) (a := 200) (b := 900) c1.2, ↓mcI_of (r_may1 (d + 4) 1 lM (I := (va_up I 219 (va_up (I 219) 0 0))) (L := L) I00), ↓mcI_of (r_may0 (d + 4) 1 lM (I := (va_up I 219 (va_up (I 219) 0 0))) (L := L) I00 (by decide)), up_eq, up_up, if_true, if_neg z1, mb0]
  by_cases y0 : y = 0
  · obtain ⟨k0, hk0, rfl⟩ := i_rng (n := 23) c0 (by decide)
    have e : I 135 k0 = I 223 (130 + k0) := (hS.2.2.2.1 k0 (by omega)).1
    have hc : mcal mT (d + 5) 122 [.ref 100, .int (Int32.ofNat k0), .int y] (G, I, L) = some (.inl (some (.int (I 135 k0))), (G, va_up I 135 (va_up (I 135) k0 y), L)) := by
      simp (disch := omega) only [q_X11_water_, e_X11_water_0, e_X11_water_21, ↓vB lB, ↓vP lP, ↓vT lT, ↓vH lH, ↓vS lS, nw_ok (d + 3) c0 (G, I, L), if_pos y0, mcV_v, up2_e, up_ne, up_eq, up_up, e]
    have J00 : (va_up (va_up I 135 (va_up (I 135) k0 y)) 219 (va_up (I 219) 0 0)) 219 0 = 0 := by rw [up_eq, up_eq]
    have J01 : (va_up (va_up I 135 (va_up (I 135) k0 y)) 219 (va_up (I 219) 0 0)) 220 = I 220 := by rw [up_ne (by decide), up_ne (by omega)]
    refine Ste_n g1 g2 (w_water (d + 5) hc lB.1 o1 o2) (I2 := va_up (va_up (va_up I 135 (va_up (I 135) k0 y)) 219 (va_up (I 219) 0 0)) 223 (va_up (I 223) (130 + k0) y)) (fun L' => ?_) ?_ ?_ ?_ ?_
    · simp (disch := omega) only [q_X12_water_, e_X12_water_0, e_X12_water_33, e_X12_water_37, e_X12_water_38, e_X12_water_47, ↓vM lM, up2_e, r_within, mcI_v, wi_1 (x := (Int32.ofNat k0)) (a := 0) (b := 23) c0, if_pos y0, ↓mcI_of (r_may1 (d + 4) 1 lM (I := (va_up (va_up I 135 (va_up (I 135) k0 y)) 219 (va_up (I 219) 0 0))) (L := L') J00), up_ne, up_eq, if_neg z1, ixA, ixM, i_add, ixZ, e]
    · exact up_ne (by omega)
    · rw [up_ne (by decide), up_ne (by decide), up_ne (by omega)]
    · rw [up_ne (by decide), up_eq, up_eq]
    · refine ⟨h, hs, bl, bs, cl, cs, nr, n, nh, M, hN, w, lc, mc, ta, rm, pi, mk, Rel_set q hz (fun a h1 h2 h3 => by rw [up_ne (by omega), up_ne h2, up_ne (by omega)]) (fun k hk => by rw [up_ne (by omega), up_eq, up_ne hk]) (fun j hj hj2 => ?_) (fun a ha => up_ne ha) ?_⟩
      · rw [up_eq]
        exact up_ne (by omega)
      · obtain ⟨b1, b2, b3, b4, b5, b6, b7⟩ := hS
        have nh4 := b6.2.2
        unfold SeR
        simp (disch := omega) only [up_ne, up_eq]
        exact ⟨fun k hk => by first | exact b1 k hk | (simp (disch := omega) only [up_ne]; exact b1 k hk), b2, fun k hk => by first | exact b3 k hk | (simp (disch := omega) only [up_ne]; exact b3 k hk), fun k hk => by
          by_cases c : k = k0
          · rw [c, up_eq, up_eq]; try exact ⟨rfl, wz_r c1⟩
          · rw [up_ne c, up_ne (by omega)]; exact b4 k hk, b5, b6, fun k hk => by first | exact b7 k hk | (simp (disch := omega) only [up_ne]; exact b7 k hk)⟩
  · obtain ⟨k0, hk0, rfl⟩ := i_rng (n := 23) c0 (by decide)
    have e : I 135 k0 = I 223 (130 + k0) := (hS.2.2.2.1 k0 (by omega)).1
    have hc : mcal mT (d + 5) 122 [.ref 100, .int (Int32.ofNat k0), .int y] (G, I, L) = some (.inl (some (.int (I 135 k0))), (G, va_up I 135 (va_up (I 135) k0 y), L)) := by
      simp (disch := omega) only [q_X11_water_, e_X11_water_0, e_X11_water_21, ↓vB lB, ↓vP lP, ↓vT lT, ↓vH lH, ↓vS lS, nw_ok (d + 3) c0 (G, I, L), if_neg y0, nw_ok (d + 3) (fun p => c1 ⟨y0, p⟩) (G, I, L), wi_1 (x := y) (a := 200) (b := 900) (fun p => c1 ⟨y0, p⟩), mcV_v, up2_e, up_ne, up_eq, up_up, e]
    have J00 : (va_up (va_up I 135 (va_up (I 135) k0 y)) 219 (va_up (I 219) 0 0)) 219 0 = 0 := by rw [up_eq, up_eq]
    have J01 : (va_up (va_up I 135 (va_up (I 135) k0 y)) 219 (va_up (I 219) 0 0)) 220 = I 220 := by rw [up_ne (by decide), up_ne (by omega)]
    refine Ste_n g1 g2 (w_water (d + 5) hc lB.1 o1 o2) (I2 := va_up (va_up (va_up I 135 (va_up (I 135) k0 y)) 219 (va_up (I 219) 0 0)) 223 (va_up (I 223) (130 + k0) y)) (fun L' => ?_) ?_ ?_ ?_ ?_
    · simp (disch := omega) only [q_X12_water_, e_X12_water_0, e_X12_water_33, e_X12_water_37, e_X12_water_38, e_X12_water_47, ↓vM lM, up2_e, r_within, mcI_v, wi_1 (x := (Int32.ofNat k0)) (a := 0) (b := 23) c0, if_neg y0, nw_ok (d + 3) (fun p => c1 ⟨y0, p⟩) (G, I, L), wi_1 (x := y) (a := 200) (b := 900) (fun p => c1 ⟨y0, p⟩), ↓mcI_of (r_may1 (d + 4) 1 lM (I := (va_up (va_up I 135 (va_up (I 135) k0 y)) 219 (va_up (I 219) 0 0))) (L := L') J00), up_ne, up_eq, if_neg z1, ixA, ixM, i_add, ixZ, e]
    · exact up_ne (by omega)
    · rw [up_ne (by decide), up_ne (by decide), up_ne (by omega)]
    · rw [up_ne (by decide), up_eq, up_eq]
    · refine ⟨h, hs, bl, bs, cl, cs, nr, n, nh, M, hN, w, lc, mc, ta, rm, pi, mk, Rel_set q hz (fun a h1 h2 h3 => by rw [up_ne (by omega), up_ne h2, up_ne (by omega)]) (fun k hk => by rw [up_ne (by omega), up_eq, up_ne hk]) (fun j hj hj2 => ?_) (fun a ha => up_ne ha) ?_⟩
      · rw [up_eq]
        exact up_ne (by omega)
      · obtain ⟨b1, b2, b3, b4, b5, b6, b7⟩ := hS
        have nh4 := b6.2.2
        unfold SeR
        simp (disch := omega) only [up_ne, up_eq]
        exact ⟨fun k hk => by first | exact b1 k hk | (simp (disch := omega) only [up_ne]; exact b1 k hk), b2, fun k hk => by first | exact b3 k hk | (simp (disch := omega) only [up_ne]; exact b3 k hk), fun k hk => by
          by_cases c : k = k0
          · rw [c, up_eq, up_eq]; try exact ⟨rfl, wz_r c1⟩
          · rw [up_ne c, up_ne (by omega)]; exact b4 k hk, b5, b6, fun k hk => by first | exact b7 k hk | (simp (disch := omega) only [up_ne]; exact b7 k hk)⟩
theorem ca_pump (d : Nat) (q : Rel z h hs bl bs cl cs nr n nh M hN w lc mc kc ta rm pi mk G I L) (g1 : G.1 ≤ 252 + z + 25 * kc) (g2 : G.2.1 ≤ 60000 + 6 * z + 4000 * kc) (hz : z + 1 ≤ 512) (x : Int32) : Ste (d + 6) 325 274 [.int x] (z + 1) G I L := by
  obtain ⟨lB, lX, lP, -, ⟨lH1, lH2⟩, ⟨lS, -⟩, ⟨lT, -⟩, ⟨lU, -⟩, lD, -, -, lM, ⟨o1, o2⟩, -, hh, -⟩ := id q.1
  have ho := q.2.1
  obtain ⟨s1, s2, s3, s4, s5, s6⟩ := ho_sz ho
  have lH : LayH G h := by
    rcases hh with ⟨a, -⟩ | ⟨a, -⟩
    · rw [a]; exact lH1
    · rw [a]; exact lH2
  have hb : 103 ≤ h ∧ h + 14 ≤ 132 := by omega
  obtain ⟨-, -, ⟨hF, hHN⟩, hS, ⟨hT, hMz⟩, hU, hD, hTp, hEg, hLg, -, -, -, -⟩ := id q
  have z1 : ¬ (1 : Int32) = 0 := by decide
  have I00 : (va_up I 219 (va_up (I 219) 0 0)) 219 0 = 0 := by rw [up_eq, up_eq]
  have I01 : (va_up I 219 (va_up (I 219) 0 0)) 220 = I 220 := up_ne (by decide)
  by_cases c0 : x < 1 ∨ 999 < x
  · have hc : mcal mT (d + 5) 124 [.ref 100, .int x] (G, I, L) = some (.inr "java/lang/IllegalArgumentException", (G, I, L)) := by
      simp only [q_X11_pump_, e_X11_pump_0, ↓vB lB, ↓vP lP, ↓vT lT, ↓vH lH, ↓vS lS, nw_no (d + 3) c0 (G, I, L), mcV_v, mcV_e, mthr_e]
    refine Ste_e (k := 1) q g1 g2 hz (by decide) (w_pump_A (d + 5) hc lB.1) fun lM => ?_
    simp only [q_X12_pump_, e_X12_pump_0, ↓vM lM, up2_e, r_within, mcI_v, wi_0 (x := x) (a := 1) (b := 999) c0, ↓mcI_of (r_may0 (d + 4) 1 lM (I := (va_up I 219 (va_up (I 219) 0 0))) (L := L) I00 (by decide)), up_eq, up_up, if_true, if_neg z1, mb0]
  have e : I 132 10 = I 223 167 := hS.2.1.1
  have hc : mcal mT (d + 5) 124 [.ref 100, .int x] (G, I, L) = some (.inl (some (.int (I 132 10))), (G, va_up I 132 (va_up (I 132) 10 x), L)) := by
    simp (disch := omega) only [q_X11_pump_, e_X11_pump_0, ↓vB lB, ↓vP lP, ↓vT lT, ↓vH lH, ↓vS lS, nw_ok (d + 3) c0 (G, I, L), mcV_v, up2_e, up_ne, up_eq, up_up, e]
  have J00 : (va_up (va_up I 132 (va_up (I 132) 10 x)) 219 (va_up (I 219) 0 0)) 219 0 = 0 := by rw [up_eq, up_eq]
  have J01 : (va_up (va_up I 132 (va_up (I 132) 10 x)) 219 (va_up (I 219) 0 0)) 220 = I 220 := by rw [up_ne (by decide), up_ne (by omega)]
  refine Ste_n g1 g2 (w_pump (d + 5) hc lB.1 o1 o2) (I2 := va_up (va_up (va_up I 132 (va_up (I 132) 10 x)) 219 (va_up (I 219) 0 0)) 223 (va_up (I 223) 167 x)) (fun L' => ?_) ?_ ?_ ?_ ?_
  · simp (disch := omega) only [q_X12_pump_, e_X12_pump_0, e_X12_pump_23, ↓vM lM, up2_e, r_within, mcI_v, wi_1 (x := x) (a := 1) (b := 999) c0, ↓mcI_of (r_may1 (d + 4) 1 lM (I := (va_up (va_up I 132 (va_up (I 132) 10 x)) 219 (va_up (I 219) 0 0))) (L := L') J00), up_ne, up_eq, if_neg z1, ixA, ixM, i_add, ixZ, e]
  · exact up_ne (by omega)
  · rw [up_ne (by decide), up_ne (by decide), up_ne (by omega)]
  · rw [up_ne (by decide), up_eq, up_eq]
  · refine ⟨h, hs, bl, bs, cl, cs, nr, n, nh, M, hN, w, lc, mc, ta, rm, pi, mk, Rel_set q hz (fun a h1 h2 h3 => by rw [up_ne (by omega), up_ne h2, up_ne (by omega)]) (fun k hk => by rw [up_ne (by omega), up_eq, up_ne hk]) (fun j hj hj2 => ?_) (fun a ha => up_ne ha) ?_⟩
    · rw [up_eq]
      exact up_ne (by omega)
    · obtain ⟨b1, b2, b3, b4, b5, b6, b7⟩ := hS
      have nh4 := b6.2.2
      unfold SeR
      simp (disch := omega) only [up_ne, up_eq]
      exact ⟨fun k hk => by first | exact b1 k hk | (simp (disch := omega) only [up_ne]; exact b1 k hk), ⟨trivial, ⟨by have := Int32.not_lt.mp (fun q => c0 (Or.inl q)); rw [Int32.le_iff_toInt_le] at this; exact this, by have := Int32.not_lt.mp (fun q => c0 (Or.inr q)); rw [Int32.le_iff_toInt_le] at this; exact this⟩⟩, fun k hk => by first | exact b3 k hk | (simp (disch := omega) only [up_ne]; exact b3 k hk), fun k hk => by first | exact b4 k hk | (simp (disch := omega) only [up_ne]; exact b4 k hk), b5, b6, fun k hk => by first | exact b7 k hk | (simp (disch := omega) only [up_ne]; exact b7 k hk)⟩
theorem ca_night (d : Nat) (q : Rel z h hs bl bs cl cs nr n nh M hN w lc mc kc ta rm pi mk G I L) (g1 : G.1 ≤ 252 + z + 25 * kc) (g2 : G.2.1 ≤ 60000 + 6 * z + 4000 * kc) (hz : z + 1 ≤ 512) (x : Int32) (y : Int32) (u : Int32) : Ste (d + 6) 304 242 [.int x, .int y, .int u] (z + 1) G I L := by
  obtain ⟨lB, lX, lP, -, ⟨lH1, lH2⟩, ⟨lS, -⟩, ⟨lT, -⟩, ⟨lU, -⟩, lD, -, -, lM, ⟨o1, o2⟩, -, hh, -⟩ := id q.1
  have ho := q.2.1
  obtain ⟨s1, s2, s3, s4, s5, s6⟩ := ho_sz ho
  have lH : LayH G h := by
    rcases hh with ⟨a, -⟩ | ⟨a, -⟩
    · rw [a]; exact lH1
    · rw [a]; exact lH2
  have hb : 103 ≤ h ∧ h + 14 ≤ 132 := by omega
  obtain ⟨-, -, ⟨hF, hHN⟩, hS, ⟨hT, hMz⟩, hU, hD, hTp, hEg, hLg, -, -, -, -⟩ := id q
  have z1 : ¬ (1 : Int32) = 0 := by decide
  have I00 : (va_up I 219 (va_up (I 219) 0 0)) 219 0 = 0 := by rw [up_eq, up_eq]
  have I01 : (va_up I 219 (va_up (I 219) 0 0)) 220 = I 220 := up_ne (by decide)
  by_cases c0 : x < 0 ∨ 23 < x
  · have hc : mcal mT (d + 5) 121 [.ref 100, .int x, .int y, .int u] (G, I, L) = some (.inr "java/lang/IllegalArgumentException", (G, I, L)) := by
      simp only [q_X11_night_, e_X11_night_0, ↓vB lB, ↓vP lP, ↓vT lT, ↓vH lH, ↓vS lS, nw_no (d + 3) c0 (G, I, L), mcV_v, mcV_e, mthr_e]
    refine Ste_e (k := 1) q g1 g2 hz (by decide) (w_night_A (d + 5) hc lB.1) fun lM => ?_
    simp only [q_X12_night_, e_X12_night_0, e_X12_night_41, e_X12_night_42, ↓vM lM, up2_e, r_within, mcI_v, wi_0 (x := x) (a := 0) (b := 23) c0, ↓mcI_of (r_may0 (d + 4) 1 lM (I := (va_up I 219 (va_up (I 219) 0 0))) (L := L) I00 (by decide)), up_eq, up_up, if_true, if_neg z1, mb0]
  by_cases c1 : y < 0 ∨ 23 < y
  · have hc : mcal mT (d + 5) 121 [.ref 100, .int x, .int y, .int u] (G, I, L) = some (.inr "java/lang/IllegalArgumentException", (G, I, L)) := by
      simp only [q_X11_night_, e_X11_night_0, ↓vB lB, ↓vP lP, ↓vT lT, ↓vH lH, ↓vS lS, nw_ok (d + 3) c0 (G, I, L), nw_no (d + 3) c1 (G, I, L), mcV_v, mcV_e, mthr_e]
    refine Ste_e (k := 1) q g1 g2 hz (by decide) (w_night_A (d + 5) hc lB.1) fun lM => ?_
    simp only [q_X12_night_, e_X12_night_0, e_X12_night_41, e_X12_night_42, ↓vM lM, up2_e, r_within, mcI_v, wi_1 (x := x) (a := 0) (b := 23) c0, wi_0 (x := y) (a := 0) (b := 23) c1, ↓mcI_of (r_may1 (d + 4) 1 lM (I := (va_up I 219 (va_up (I 219) 0 0))) (L := L) I00), ↓mcI_of (r_may0 (d + 4) 1 lM (I := (va_up I 219 (va_up (I 219) 0 0))) (L := L) I00 (by decide)), up_eq, up_up, if_true, if_neg z1, mb0]
  by_cases c2 : u < 0 ∨ 200 < u
  · have hc : mcal mT (d + 5) 121 [.ref 100, .int x, .int y, .int u] (G, I, L) = some (.inr "java/lang/IllegalArgumentException", (G, I, L)) := by
      simp only [q_X11_night_, e_X11_night_0, ↓vB lB, ↓vP lP, ↓vT lT, ↓vH lH, ↓vS lS, nw_ok (d + 3) c0 (G, I, L), nw_ok (d + 3) c1 (G, I, L), nw_no (d + 3) c2 (G, I, L), mcV_v, mcV_e, mthr_e]
    refine Ste_e (k := 1) q g1 g2 hz (by decide) (w_night_A (d + 5) hc lB.1) fun lM => ?_
    simp only [q_X12_night_, e_X12_night_0, e_X12_night_41, e_X12_night_42, ↓vM lM, up2_e, r_within, mcI_v, wi_1 (x := x) (a := 0) (b := 23) c0, wi_1 (x := y) (a := 0) (b := 23) c1, wi_0 (x := u) (a := 0) (b := 200) c2, ↓mcI_of (r_may1 (d + 4) 1 lM (I := (va_up I 219 (va_up (I 219) 0 0))) (L := L) I00), ↓mcI_of (r_may0 (d + 4) 1 lM (I := (va_up I 219 (va_up (I 219) 0 0))) (L := L) I00 (by decide)), up_eq, up_up, if_true, if_neg z1, mb0]
  have e : I 132 5 = I 223 70 := hS.2.2.2.2.1.2.2.1
  have hc : mcal mT (d + 5) 121 [.ref 100, .int x, .int y, .int u] (G, I, L) = some (.inl (some (.int (I 132 5))), (G, va_up I 132 (va_up (va_up (va_up (I 132) 3 x) 4 y) 5 u), L)) := by
    simp (disch := omega) only [q_X11_night_, e_X11_night_0, ↓vB lB, ↓vP lP, ↓vT lT, ↓vH lH, ↓vS lS, nw_ok (d + 3) c0 (G, I, L), nw_ok (d + 3) c1 (G, I, L), nw_ok (d + 3) c2 (G, I, L), mcV_v, up2_e, up_ne, up_eq, up_up, e, up_up]
  have J00 : (va_up (va_up I 132 (va_up (va_up (va_up (I 132) 3 x) 4 y) 5 u)) 219 (va_up (I 219) 0 0)) 219 0 = 0 := by rw [up_eq, up_eq]
  have J01 : (va_up (va_up I 132 (va_up (va_up (va_up (I 132) 3 x) 4 y) 5 u)) 219 (va_up (I 219) 0 0)) 220 = I 220 := by rw [up_ne (by decide), up_ne (by omega)]
  refine Ste_n g1 g2 (w_night (d + 5) hc lB.1 o1 o2) (I2 := va_up (va_up (va_up I 132 (va_up (va_up (va_up (I 132) 3 x) 4 y) 5 u)) 219 (va_up (I 219) 0 0)) 223 (va_up (va_up (va_up (I 223) 68 x) 69 y) 70 u)) (fun L' => ?_) ?_ ?_ ?_ ?_
  · simp (disch := omega) only [q_X12_night_, e_X12_night_0, e_X12_night_41, e_X12_night_42, e_X12_night_51, ↓vM lM, up2_e, r_within, mcI_v, wi_1 (x := x) (a := 0) (b := 23) c0, wi_1 (x := y) (a := 0) (b := 23) c1, wi_1 (x := u) (a := 0) (b := 200) c2, ↓mcI_of (r_may1 (d + 4) 1 lM (I := (va_up (va_up I 132 (va_up (va_up (va_up (I 132) 3 x) 4 y) 5 u)) 219 (va_up (I 219) 0 0))) (L := L') J00), up_ne, up_eq, if_neg z1, ixA, ixM, i_add, ixZ, e, up_up]
  · exact up_ne (by omega)
  · rw [up_ne (by decide), up_ne (by decide), up_ne (by omega)]
  · rw [up_ne (by decide), up_eq, up_eq]
  · refine ⟨h, hs, bl, bs, cl, cs, nr, n, nh, M, hN, w, lc, mc, ta, rm, pi, mk, Rel_set q hz (fun a h1 h2 h3 => by rw [up_ne (by omega), up_ne h2, up_ne (by omega)]) (fun k hk => by rw [up_ne (by omega), up_eq, up_ne hk]) (fun j hj hj2 => ?_) (fun a ha => up_ne ha) ?_⟩
    · rw [up_eq, up_ne (by omega), up_ne (by omega), up_ne (by omega)]
    · obtain ⟨b1, b2, b3, b4, b5, b6, b7⟩ := hS
      have nh4 := b6.2.2
      unfold SeR
      simp (disch := omega) only [up_ne, up_eq]
      exact ⟨fun k hk => by first | exact b1 k hk | (simp (disch := omega) only [up_ne]; exact b1 k hk), b2, fun k hk => by first | exact b3 k hk | (simp (disch := omega) only [up_ne]; exact b3 k hk), fun k hk => by first | exact b4 k hk | (simp (disch := omega) only [up_ne]; exact b4 k hk), ⟨trivial, trivial, trivial, ⟨by have := Int32.not_lt.mp (fun q => c2 (Or.inl q)); rw [Int32.le_iff_toInt_le] at this; exact this, by have := Int32.not_lt.mp (fun q => c2 (Or.inr q)); rw [Int32.le_iff_toInt_le] at this; exact this⟩⟩, b6, fun k hk => by first | exact b7 k hk | (simp (disch := omega) only [up_ne]; exact b7 k hk)⟩
theorem ca_error (d : Nat) (q : Rel z h hs bl bs cl cs nr n nh M hN w lc mc kc ta rm pi mk G I L) (g1 : G.1 ≤ 252 + z + 25 * kc) (g2 : G.2.1 ≤ 60000 + 6 * z + 4000 * kc) (hz : z + 1 ≤ 512) (x : Int32) (y : Int32) : Ste (d + 6) 315 269 [.int x, .int y] (z + 1) G I L := by
  obtain ⟨lB, lX, lP, -, ⟨lH1, lH2⟩, ⟨lS, -⟩, ⟨lT, -⟩, ⟨lU, -⟩, lD, -, -, lM, ⟨o1, o2⟩, -, hh, -⟩ := id q.1
  have ho := q.2.1
  obtain ⟨s1, s2, s3, s4, s5, s6⟩ := ho_sz ho
  have lH : LayH G h := by
    rcases hh with ⟨a, -⟩ | ⟨a, -⟩
    · rw [a]; exact lH1
    · rw [a]; exact lH2
  have hb : 103 ≤ h ∧ h + 14 ≤ 132 := by omega
  obtain ⟨-, -, ⟨hF, hHN⟩, hS, ⟨hT, hMz⟩, hU, hD, hTp, hEg, hLg, -, -, -, -⟩ := id q
  have z1 : ¬ (1 : Int32) = 0 := by decide
  have I00 : (va_up I 219 (va_up (I 219) 0 0)) 219 0 = 0 := by rw [up_eq, up_eq]
  have I01 : (va_up I 219 (va_up (I 219) 0 0)) 220 = I 220 := up_ne (by decide)
  by_cases c0 : x < 0 ∨ ¬ x < Int32.ofNat n
  · have hc : mcal mT (d + 5) 149 [.ref 100, .int x, .int y] (G, I, L) = some (.inr "java/util/NoSuchElementException", (G, I, L)) := by
      simp only [q_X11_error_, e_X11_error_0, ↓vB lB, ↓vP lP, ↓vT lT, ↓vH lH, ↓vS lS, nk_no (d + 3) (L := L) lB lP lH s4 c0, mcV_v, mcV_e, mthr_e]
    refine Ste_e (k := 1) q g1 g2 hz (by decide) (w_error_N (d + 5) hc lB.1) fun lM => ?_
    simp only [q_X12_error_, e_X12_error_0, e_X12_error_29, ↓vM lM, up2_e, r_within, mcI_v, ↓mcI_of (rk_no (d + 3) (L := L) (I := (va_up I 219 (va_up (I 219) 0 0))) lM I00 (by rw [I01]; exact s5) s6 c0), ↓mcI_of (r_may0 (d + 4) 1 lM (I := (va_up I 219 (va_up (I 219) 0 0))) (L := L) I00 (by decide)), up_eq, up_up, if_true, if_neg z1, mb0]
  by_cases c1 : y < -50 ∨ 50 < y
  · have hc : mcal mT (d + 5) 149 [.ref 100, .int x, .int y] (G, I, L) = some (.inr "java/lang/IllegalArgumentException", (G, I, L)) := by
      simp only [q_X11_error_, e_X11_error_0, ↓vB lB, ↓vP lP, ↓vT lT, ↓vH lH, ↓vS lS, nk_ok (d + 3) (L := L) lB lP lH s4 c0, nw_no (d + 3) c1 (G, I, L), mcV_v, mcV_e, mthr_e]
    refine Ste_e (k := 2) q g1 g2 hz (by decide) (w_error_A (d + 5) hc lB.1) fun lM => ?_
    simp only [q_X12_error_, e_X12_error_0, e_X12_error_29, ↓vM lM, up2_e, r_within, mcI_v, ↓mcI_of (rk_ok (d + 3) (L := L) (I := (va_up I 219 (va_up (I 219) 0 0))) lM I00 (by rw [I01]; exact s5) s6 c0), wi_0 (x := y) (a := -50) (b := 50) c1, ↓mcI_of (r_may1 (d + 4) 1 lM (I := (va_up I 219 (va_up (I 219) 0 0))) (L := L) I00), ↓mcI_of (r_may0 (d + 4) 2 lM (I := (va_up I 219 (va_up (I 219) 0 0))) (L := L) I00 (by decide)), up_eq, up_up, if_true, if_neg z1, mb0]
  obtain ⟨k0, hk0, rfl⟩ := i_rm (by omega) c0
  have e : I 215 k0 = I 230 k0 := (hEg.1 k0 (by omega)).1
  have hc : mcal mT (d + 5) 149 [.ref 100, .int (Int32.ofNat k0), .int y] (G, I, L) = some (.inl (some (.int (I 215 k0))), (G, va_up I 215 (va_up (I 215) k0 y), L)) := by
    simp (disch := omega) only [q_X11_error_, e_X11_error_0, ↓vB lB, ↓vP lP, ↓vT lT, ↓vH lH, ↓vS lS, nk_ok (d + 3) (L := L) lB lP lH s4 c0, nw_ok (d + 3) c1 (G, I, L), mcV_v, up2_e, up_ne, up_eq, up_up, e]
  have J00 : (va_up (va_up I 215 (va_up (I 215) k0 y)) 219 (va_up (I 219) 0 0)) 219 0 = 0 := by rw [up_eq, up_eq]
  have J01 : (va_up (va_up I 215 (va_up (I 215) k0 y)) 219 (va_up (I 219) 0 0)) 220 = I 220 := by rw [up_ne (by decide), up_ne (by omega)]
  refine Ste_n g1 g2 (w_error (d + 5) hc lB.1 o1 o2) (I2 := va_up (va_up (va_up I 215 (va_up (I 215) k0 y)) 219 (va_up (I 219) 0 0)) 230 (va_up (I 230) k0 y)) (fun L' => ?_) ?_ ?_ ?_ ?_
  · simp (disch := omega) only [q_X12_error_, e_X12_error_0, e_X12_error_29, e_X12_error_31, ↓vM lM, up2_e, r_within, mcI_v, ↓mcI_of (rk_ok (d + 3) (L := L') (I := (va_up (va_up I 215 (va_up (I 215) k0 y)) 219 (va_up (I 219) 0 0))) lM J00 (by rw [J01]; exact s5) s6 c0), wi_1 (x := y) (a := -50) (b := 50) c1, ↓mcI_of (r_may1 (d + 4) 1 lM (I := (va_up (va_up I 215 (va_up (I 215) k0 y)) 219 (va_up (I 219) 0 0))) (L := L') J00), ↓mcI_of (r_may1 (d + 4) 2 lM (I := (va_up (va_up I 215 (va_up (I 215) k0 y)) 219 (va_up (I 219) 0 0))) (L := L') J00), up_ne, up_eq, if_neg z1, ixA, ixM, i_add, ixZ, e]
  · exact up_ne (by omega)
  · rw [up_ne (by decide), up_ne (by decide), up_ne (by omega)]
  · rw [up_ne (by decide), up_eq, up_eq]
  · refine ⟨h, hs, bl, bs, cl, cs, nr, n, nh, M, hN, w, lc, mc, ta, rm, pi, mk, Rel_eg q hz (fun a h1 h2 h3 => by rw [up_ne (by omega), up_ne h2, up_ne (by omega)]) (fun k hk => by rw [up_ne (by omega), up_eq, up_ne hk]) (fun j hj hj2 => ?_) (fun a ha => up_ne ha) ?_⟩
    · rw [up_ne (by omega), up_ne (by omega), up_ne (by omega)]
    · obtain ⟨b1, b2⟩ := hEg
      unfold EgR
      simp (disch := omega) only [up_ne, up_eq]
      refine ⟨fun k hk => ?_, b2⟩
      by_cases c : k = k0
      · rw [c, up_eq, up_eq]; exact ⟨rfl, ⟨by have := Int32.not_lt.mp (fun q => c1 (Or.inl q)); rw [Int32.le_iff_toInt_le] at this; exact this, by have := Int32.not_lt.mp (fun q => c1 (Or.inr q)); rw [Int32.le_iff_toInt_le] at this; exact this⟩⟩
      · rw [up_ne c, up_ne c]; exact b1 k hk
theorem ca_gauge (d : Nat) (q : Rel z h hs bl bs cl cs nr n nh M hN w lc mc kc ta rm pi mk G I L) (g1 : G.1 ≤ 252 + z + 25 * kc) (g2 : G.2.1 ≤ 60000 + 6 * z + 4000 * kc) (hz : z + 1 ≤ 512) (x : Int32) (y : Int32) (u : Int32) : Ste (d + 6) 326 275 [.int x, .int y, .int u] (z + 1) G I L := by
  obtain ⟨lB, lX, lP, -, ⟨lH1, lH2⟩, ⟨lS, -⟩, ⟨lT, -⟩, ⟨lU, -⟩, lD, -, -, lM, ⟨o1, o2⟩, -, hh, -⟩ := id q.1
  have ho := q.2.1
  obtain ⟨s1, s2, s3, s4, s5, s6⟩ := ho_sz ho
  have lH : LayH G h := by
    rcases hh with ⟨a, -⟩ | ⟨a, -⟩
    · rw [a]; exact lH1
    · rw [a]; exact lH2
  have hb : 103 ≤ h ∧ h + 14 ≤ 132 := by omega
  obtain ⟨-, -, ⟨hF, hHN⟩, hS, ⟨hT, hMz⟩, hU, hD, hTp, hEg, hLg, -, -, -, -⟩ := id q
  have z1 : ¬ (1 : Int32) = 0 := by decide
  have I00 : (va_up I 219 (va_up (I 219) 0 0)) 219 0 = 0 := by rw [up_eq, up_eq]
  have I01 : (va_up I 219 (va_up (I 219) 0 0)) 220 = I 220 := up_ne (by decide)
  by_cases c0 : x < 0 ∨ 3 < x
  · have hc : mcal mT (d + 5) 160 [.ref 100, .int x, .int y, .int u] (G, I, L) = some (.inr "java/lang/IllegalArgumentException", (G, I, L)) := by
      simp only [q_X11_gauge_, e_X11_gauge_0, ↓vB lB, ↓vP lP, ↓vT lT, ↓vH lH, ↓vS lS, np_no (d + 2) c0 (G, I, L), mcV_v, mcV_e, mthr_e]
    refine Ste_e (k := 1) q g1 g2 hz (by decide) (w_gauge_A (d + 5) hc lB.1) fun lM => ?_
    simp only [q_X12_gauge_, e_X12_gauge_0, e_X12_gauge_40, e_X12_gauge_41, ↓vM lM, up2_e, r_within, mcI_v, wi_0 (x := x) (a := 0) (b := 3) c0, ↓mcI_of (r_may0 (d + 4) 1 lM (I := (va_up I 219 (va_up (I 219) 0 0))) (L := L) I00 (by decide)), up_eq, up_up, if_true, if_neg z1, mb0]
  by_cases c1 : y < 0 ∨ 9 < y
  · have hc : mcal mT (d + 5) 160 [.ref 100, .int x, .int y, .int u] (G, I, L) = some (.inr "java/lang/IllegalArgumentException", (G, I, L)) := by
      simp only [q_X11_gauge_, e_X11_gauge_0, ↓vB lB, ↓vP lP, ↓vT lT, ↓vH lH, ↓vS lS, np_ok (d + 2) c0 (G, I, L), nw_no (d + 3) c1 (G, I, L), mcV_v, mcV_e, mthr_e]
    refine Ste_e (k := 1) q g1 g2 hz (by decide) (w_gauge_A (d + 5) hc lB.1) fun lM => ?_
    simp only [q_X12_gauge_, e_X12_gauge_0, e_X12_gauge_40, e_X12_gauge_41, ↓vM lM, up2_e, r_within, mcI_v, wi_1 (x := x) (a := 0) (b := 3) c0, wi_0 (x := y) (a := 0) (b := 9) c1, ↓mcI_of (r_may1 (d + 4) 1 lM (I := (va_up I 219 (va_up (I 219) 0 0))) (L := L) I00), ↓mcI_of (r_may0 (d + 4) 1 lM (I := (va_up I 219 (va_up (I 219) 0 0))) (L := L) I00 (by decide)), up_eq, up_up, if_true, if_neg z1, mb0]
  by_cases c2 : u < -1 ∨ 999 < u
  · have hc : mcal mT (d + 5) 160 [.ref 100, .int x, .int y, .int u] (G, I, L) = some (.inr "java/lang/IllegalArgumentException", (G, I, L)) := by
      simp only [q_X11_gauge_, e_X11_gauge_0, ↓vB lB, ↓vP lP, ↓vT lT, ↓vH lH, ↓vS lS, np_ok (d + 2) c0 (G, I, L), nw_ok (d + 3) c1 (G, I, L), nw_no (d + 3) c2 (G, I, L), mcV_v, mcV_e, mthr_e]
    refine Ste_e (k := 1) q g1 g2 hz (by decide) (w_gauge_A (d + 5) hc lB.1) fun lM => ?_
    simp only [q_X12_gauge_, e_X12_gauge_0, e_X12_gauge_40, e_X12_gauge_41, ↓vM lM, up2_e, r_within, mcI_v, wi_1 (x := x) (a := 0) (b := 3) c0, wi_1 (x := y) (a := 0) (b := 9) c1, wi_0 (x := u) (a := -1) (b := 999) c2, ↓mcI_of (r_may1 (d + 4) 1 lM (I := (va_up I 219 (va_up (I 219) 0 0))) (L := L) I00), ↓mcI_of (r_may0 (d + 4) 1 lM (I := (va_up I 219 (va_up (I 219) 0 0))) (L := L) I00 (by decide)), up_eq, up_up, if_true, if_neg z1, mb0]
  obtain ⟨k0, hk0, rfl⟩ := i_rng (n := 3) c0 (by decide)
  obtain ⟨k1, hk1, rfl⟩ := i_rng (n := 9) c1 (by decide)
  have e : I 217 (k0 * 10 + k1) = I 240 (10 * k0 + k1) := by rw [Nat.mul_comm]; exact (hEg.2 _ (by omega)).1
  have m10 : Int32.ofNat k0 * 10 = Int32.ofNat (k0 * 10) := i_mul k0 10
  have hc : mcal mT (d + 5) 160 [.ref 100, .int (Int32.ofNat k0), .int (Int32.ofNat k1), .int u] (G, I, L) = some (.inl (some (.int (I 217 (k0 * 10 + k1)))), (G, va_up I 217 (va_up (I 217) (k0 * 10 + k1) u), L)) := by
    simp (disch := omega) only [q_X11_gauge_, e_X11_gauge_0, ↓vB lB, ↓vP lP, ↓vT lT, ↓vH lH, ↓vS lS, np_ok (d + 2) c0 (G, I, L), nw_ok (d + 3) c1 (G, I, L), nw_ok (d + 3) c2 (G, I, L), mcV_v, up2_e, up_ne, up_eq, up_up, e, m10, i_add]
  have J00 : (va_up (va_up I 217 (va_up (I 217) (k0 * 10 + k1) u)) 219 (va_up (I 219) 0 0)) 219 0 = 0 := by rw [up_eq, up_eq]
  have J01 : (va_up (va_up I 217 (va_up (I 217) (k0 * 10 + k1) u)) 219 (va_up (I 219) 0 0)) 220 = I 220 := by rw [up_ne (by decide), up_ne (by omega)]
  refine Ste_n g1 g2 (w_gauge (d + 5) hc lB.1 o1 o2) (I2 := va_up (va_up (va_up I 217 (va_up (I 217) (k0 * 10 + k1) u)) 219 (va_up (I 219) 0 0)) 240 (va_up (I 240) (10 * k0 + k1) u)) (fun L' => ?_) ?_ ?_ ?_ ?_
  · simp (disch := omega) only [q_X12_gauge_, e_X12_gauge_0, e_X12_gauge_40, e_X12_gauge_41, e_X12_gauge_50, ↓vM lM, up2_e, r_within, mcI_v, wi_1 (x := (Int32.ofNat k0)) (a := 0) (b := 3) c0, wi_1 (x := (Int32.ofNat k1)) (a := 0) (b := 9) c1, wi_1 (x := u) (a := -1) (b := 999) c2, ↓mcI_of (r_may1 (d + 4) 1 lM (I := (va_up (va_up I 217 (va_up (I 217) (k0 * 10 + k1) u)) 219 (va_up (I 219) 0 0))) (L := L') J00), up_ne, up_eq, if_neg z1, ixA, ixM, i_add, ixZ, e, m10, i_add]
  · exact up_ne (by omega)
  · rw [up_ne (by decide), up_ne (by decide), up_ne (by omega)]
  · rw [up_ne (by decide), up_eq, up_eq]
  · refine ⟨h, hs, bl, bs, cl, cs, nr, n, nh, M, hN, w, lc, mc, ta, rm, pi, mk, Rel_eg q hz (fun a h1 h2 h3 => by rw [up_ne (by omega), up_ne h2, up_ne (by omega)]) (fun k hk => by rw [up_ne (by omega), up_eq, up_ne hk]) (fun j hj hj2 => ?_) (fun a ha => up_ne ha) ?_⟩
    · rw [up_ne (by omega), up_ne (by omega), up_ne (by omega)]
    · obtain ⟨b1, b2⟩ := hEg
      unfold EgR
      simp (disch := omega) only [up_ne, up_eq]
      refine ⟨b1, fun k hk => ?_⟩
      by_cases c : k = k0 * 10 + k1
      · rw [c, up_eq, Nat.mul_comm k0, up_eq]; exact ⟨rfl, ⟨by have := Int32.not_lt.mp (fun q => c2 (Or.inl q)); rw [Int32.le_iff_toInt_le] at this; exact this, by have := Int32.not_lt.mp (fun q => c2 (Or.inr q)); rw [Int32.le_iff_toInt_le] at this; exact this⟩⟩
      · rw [up_ne c, up_ne (by omega)]; exact b2 k hk
end
