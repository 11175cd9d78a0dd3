/-! call: go -/
theorem Rel_go {z h hs bl bs cl cs nr n nh M hN w lc mc kc ta : Nat} {rm pi mk : Nat → Nat} {G : mG} {I I' : Nat → Nat → Int32} {L L' : Nat → Nat → Int64} (q : Rel z h hs bl bs cl cs nr n nh M hN w lc mc kc ta rm pi mk G I L) (hz : z + 1 ≤ 512) (hI : ∀ a, ¬ ((139 ≤ a ∧ a < 153) ∨ (195 ≤ a ∧ a < 198) ∨ a = 227 ∨ a = 228 ∨ a = 229) → a ≠ 219 → a ≠ 223 → I' a = I a) (h9 : ∀ k, k ≠ 0 → k ≠ 23 → I' 219 k = I 219 k) (h3 : ∀ j, j < 173 → False → I' 223 j = I 223 j) (hL : ∀ a, a ≠ 251 → a ≠ 148 → a ≠ 225 → L' a = L a) {M' hN' w' : Nat} (hF : FlR I' 219) (hH : I' 219 23 = Int32.ofNat hN') (hS : SeR I' 132 (I' 223) n nh) (hT : StR I' L' 139 (I' 220) (I' 223) (L' 225) nr n M') (hMz : M' ≤ 999 * (z + 1)) (hD : DiR I' 195 (I' 228) (I' 229) hN' w' nr M') : Rel (z + 1) h hs bl bs cl cs nr n nh M' hN' w' lc mc kc ta rm pi mk G I' L' := by
  obtain ⟨a1, a2, ⟨a3, a3'⟩, a4, ⟨a5, a5'⟩, a6, a7, a8, a9, a10, a11, a12, ⟨a13, a13'⟩, a14⟩ := q
  obtain ⟨-, -, hnr8, -, -, hn8⟩ := ho_sz a2
  have hm := a1.2.2.2.2.2.2.2.2.2.2.2.2.2.2.2.2.2.2.2.1
  have hh := a1.2.2.2.2.2.2.2.2.2.2.2.2.2.2.1
  have hb := a1.2.2.2.2.2.2.2.2.2.2.2.2.2.2.2.1
  have hc := a1.2.2.2.2.2.2.2.2.2.2.2.2.2.2.2.2.1
  exact ⟨a1, HoR_c a2 (fun a h1 h2 => hI a (by omega) (by omega) (by omega)) (hI 220 (by omega) (by omega) (by omega)), ⟨hF, hH⟩, hS, ⟨hT, hMz⟩, TaR_c a6 (fun a h1 h2 => hI a (by omega) (by omega) (by omega)) (hI 220 (by omega) (by omega) (by omega)), hD, TpR_c a8 (by rw [hI 101 (by omega) (by omega) (by omega)]) (by rw [hI 101 (by omega) (by omega) (by omega)]) (hI 102 (by omega) (by omega) (by omega)) (h9 3 (by omega) (by omega)) (h9 9 (by omega) (by omega)) (hI 222 (by omega) (by omega) (by omega)), EgR_c a9 (hI 215 (by omega) (by omega) (by omega)) (hI 217 (by omega) (by omega) (by omega)) (hI 230 (by omega) (by omega) (by omega)) (hI 240 (by omega) (by omega) (by omega)), LgR_c a10 (by rw [hI 100 (by omega) (by omega) (by omega)]) (h9 28 (by omega) (by omega)) (hI 218 (by omega) (by omega) (by omega)) (hI 231 (by omega) (by omega) (by omega)) (hI 232 (by omega) (by omega) (by omega)) (hI 233 (by omega) (by omega) (by omega)), BiR_c a11 (by rw [hI (bl + 1) (by omega) (by omega) (by omega)]) (h9 36 (by omega) (by omega)) (hI (bl + 2) (by omega) (by omega) (by omega)) (hI 235 (by omega) (by omega) (by omega)) (hI 236 (by omega) (by omega) (by omega)), ClR_c a12 (by rw [hI (cl + 1) (by omega) (by omega) (by omega)]) (h9 44 (by omega) (by omega)) (hI (cl + 2) (by omega) (by omega) (by omega)) (hI 241 (by omega) (by omega) (by omega)) (hI 242 (by omega) (by omega) (by omega)), ⟨MkR_c a13 hn8 hnr8 (Nat.le_succ z) (by rw [hI 100 (by omega) (by omega) (by omega)]) (h9 51 (by omega) (by omega)) (hI 246 (by omega) (by omega) (by omega)) (hI 247 (by omega) (by omega) (by omega)) (hI 248 (by omega) (by omega) (by omega)) (hI 249 (by omega) (by omega) (by omega)) (hL 250 (by omega) (by omega) (by omega)) (hI 220 (by omega) (by omega) (by omega)) (fun i a hi h1 h2 => by
    obtain ⟨-, -, m3, m4⟩ := hm i (by omega)
    exact ⟨hI a (by omega) (by omega) (by omega), hL a (by omega) (by omega) (by omega)⟩), a13'⟩, hz⟩
section
variable {z h hs bl bs cl cs nr n nh M hN w lc mc kc ta : Nat} {rm pi mk : Nat → Nat} {G : mG} {I : Nat → Nat → Int32} {L : Nat → Nat → Int64}
theorem ca_go (d : Nat) (q : Rel z h hs bl bs cl cs nr n nh M hN w lc mc kc ta rm pi mk G I L) (g1 : G.1 ≤ 252 + z + 25 * kc) (g2 : G.2.1 ≤ 60000 + 6 * z + 4000 * kc) (hz : z + 1 ≤ 512) (x : Int32) : Ste (d + 10) 305 229 [.int x] (z + 1) G I L := by
  obtain ⟨lB, lX, lP, -, ⟨lH1, lH2⟩, ⟨lS, -⟩, ⟨lT, -⟩, ⟨lU, -⟩, lD, -, -, lM, ⟨o1, o2⟩, -, hh, -⟩ := id q.1
  have ho := q.2.1
  obtain ⟨s1, s2, s3, s4, s5, s6⟩ := ho_sz ho
  have lH : LayH G h := by
    rcases hh with ⟨a, -⟩ | ⟨a, -⟩
    · rw [a]; exact lH1
    · rw [a]; exact lH2
  have hb : 103 ≤ h ∧ h + 14 ≤ 132 := by omega
  obtain ⟨-, -, ⟨hF, hHN⟩, hS, ⟨hT, hMz⟩, hU, hD, hTp, hEg, hLg, -, -, -, -⟩ := id q
  have z1 : ¬ (1 : Int32) = 0 := by decide
  have I00 : (va_up I 219 (va_up (I 219) 0 0)) 219 0 = 0 := by rw [up_eq, up_eq]
  have I01 : (va_up I 219 (va_up (I 219) 0 0)) 220 = I 220 := up_ne (by decide)
  by_cases c0 : x < 0 ∨ 999 < x
  · have hc : mcal mT (d + 9) 125 [.ref 100, .int x] (G, I, L) = some (.inr "java/lang/IllegalArgumentException", (G, I, L)) := by
      simp only [q_X11_go_, e_X11_go_0, ↓vB lB, ↓vP lP, ↓vT lT, ↓vH lH, ↓vS lS, nw_no (d + 7) c0 (G, I, L), mcV_v, mcV_e, mthr_e]
    refine Ste_e (k := 1) q g1 g2 hz (by decide) (w_go_A (d + 9) hc lB.1) fun lM => ?_
    simp only [q_X12_go_, e_X12_go_0, e_X12_go_29, ↓vM lM, up2_e, r_within, mcI_v, wi_0 (x := x) (a := 0) (b := 999) c0, ↓mcI_of (r_may0 (d + 8) 1 lM (I := (va_up I 219 (va_up (I 219) 0 0))) (L := L) I00 (by decide)), up_eq, up_up, if_true, if_neg z1, mb0]
  by_cases c1 : nr = 0
  · have hc : mcal mT (d + 9) 125 [.ref 100, .int x] (G, I, L) = some (.inr "java/lang/IllegalStateException", (G, I, L)) := by
      simp only [q_X11_go_, e_X11_go_0, ↓vB lB, ↓vP lP, ↓vT lT, ↓vH lH, ↓vS lS, nw_ok (d + 7) c0 (G, I, L), nh_no (d + 7) (L := L) lB lP lH s1 c1, mcV_v, mcV_e, mthr_e]
    refine Ste_e (k := 2) q g1 g2 hz (by decide) (w_go_S (d + 9) hc lB.1) fun lM => ?_
    simp only [q_X12_go_, e_X12_go_0, e_X12_go_29, ↓vM lM, up2_e, r_within, mcI_v, wi_1 (x := x) (a := 0) (b := 999) c0, ↓mcI_of (rh_no (d + 7) (L := L) (I := (va_up I 219 (va_up (I 219) 0 0))) 2 lM I00 (by decide) (by rw [I01]; exact s2) s3 c1), ↓mcI_of (r_may1 (d + 8) 1 lM (I := (va_up I 219 (va_up (I 219) 0 0))) (L := L) I00), ↓mcI_of (r_may0 (d + 8) 2 lM (I := (va_up I 219 (va_up (I 219) 0 0))) (L := L) I00 (by decide)), up_eq, up_up, if_true, if_neg z1, mb0]
  obtain ⟨k0, hk0, rfl⟩ := i_rng (n := 999) c0 (by decide)
  have hHs : HsR I I h 219 nr n rm pi := by
    rcases ho with ⟨a, -⟩ | ⟨-, b, -⟩
    · exact absurd a c1
    · exact b
  have li : LiR I I L L h nr n nh M hN w rm pi := ⟨hHs, ⟨hF, hHN⟩, hS, hT, hU, hD⟩
  have zz : 999 * z ≤ 999 * 512 := Nat.mul_le_mul_left 999 (by omega)
  obtain ⟨v, I1, L1, -, -, -, -, e1, -, -, f1, -⟩ := go_n (d + 4) d (G2 := G) (J := I) (K := L) lB lP lH lS lT lU lD lM hb li k0 k0 (Nat.le_refl k0) (by omega)
  have fin : ∀ v' I' L', f_X11_go (d + 4 + 4) 16 [.ref 100, .int (Int32.ofNat k0), .int v', .int (Int32.ofNat k0)] [] (G, I', L') = some (.inl (some (.int v')), (G, I', L')) := by
    intro v' I' L'
    rw [e_X11_go_16, if_pos i_rf, e_X11_go_58]
  have hc : mcal mT (d + 9) 125 [.ref 100, .int (Int32.ofNat k0)] (G, I, L) = some (.inl (some (.int v)), (G, I1, L1)) := by
    simp (disch := omega) only [q_X11_go_, e_X11_go_0, ↓vB lB, ↓vP lP, ↓vT lT, ↓vH lH, ↓vS lS, nw_ok (d + 7) c0 (G, I, L), nh_ok (d + 7) (L := L) lB lP lH s1 s3 c1, mcV_v]
    exact e1.trans (fin v I1 L1)
  have hJ0 : ∀ a, ¬ (139 ≤ a ∧ a < 153) → ¬ (195 ≤ a ∧ a < 198) → a ≠ 219 → va_up I1 219 (va_up (I1 219) 0 0) a = I a := fun a h1 h2 h3 => by rw [up_ne h3, f1.1 a h1 h2]
  have hJ9 : ∀ k, k ≠ 0 → va_up I1 219 (va_up (I1 219) 0 0) 219 k = I 219 k := fun k hk => by rw [up_eq, up_ne hk, f1.1 219 (by decide) (by decide)]
  generalize hJ : va_up I1 219 (va_up (I1 219) 0 0) = J at hJ0 hJ9
  have J00 : J 219 0 = 0 := by rw [← hJ, up_eq, up_eq]
  have li2 : LiR I J L (up2 L1 251 0 (Int32.toInt64 v)) h nr n nh M hN w rm pi := by
    refine ⟨HsR_c (fun _ _ _ => rfl) (hJ0 220 (by decide) (by decide) (by decide)) hHs, ⟨FlR_c hF (fun k h1 h2 h3 h4 => hJ9 k (by omega)), by rw [hJ9 23 (by decide)]; exact hHN⟩, SeR_c hS s6 (fun _ _ _ => rfl) (fun j _ => by rw [hJ0 223 (by decide) (by decide) (by decide)]), StR_c hT s6 s3 (fun _ _ _ => rfl) rfl (hJ0 220 (by decide) (by decide) (by decide)) (fun j _ => by rw [hJ0 223 (by decide) (by decide) (by decide)]) (fun j _ => by rw [up2_e, up_ne (by decide), f1.2 _ (by decide)]), TaR_c hU (fun _ _ _ => rfl) (hJ0 220 (by decide) (by decide) (by decide)), DiR_c hD s3 (fun _ _ _ => rfl) (fun j _ => by rw [hJ0 228 (by decide) (by decide) (by decide)]) (fun j _ => by rw [hJ0 229 (by decide) (by decide) (by decide)])⟩
  obtain ⟨v2, I2, L2, J2, K2, hN2, w2, a1, a2, r2, f2, g2'⟩ := go_n (d + 4) (d + 3) (G2 := G) lB lP lH lS lT lU lD lM hb li2 k0 k0 (Nat.le_refl k0) (by omega)
  have same := (e1.trans (fin v I1 L1)).symm.trans (a1.trans (fin v2 I2 L2))
  simp only [Option.some.injEq, Prod.mk.injEq, Sum.inl.injEq, Value.int.injEq, true_and] at same
  obtain ⟨rfl, rfl, rfl⟩ := same
  obtain ⟨q1, ⟨q2, q3⟩, q4, q5, q6, q7⟩ := r2
  have hr : mcal mT (d + 10) 229 [.ref 219, .int (Int32.ofNat k0)] (G, I1, up2 L1 251 0 (Int32.toInt64 v)) = some (.inl (some (.int v)), (G, J2, K2)) := by
    have gs : mcal mT (d + 9) 227 [.ref 219, .int (Int32.ofNat k0)] (G, J, up2 L1 251 0 (Int32.toInt64 v)) = some (.inl (some (.int v)), (G, J2, K2)) := by
      rw [q_X12_goes_, e_X12_goes_0]
      refine Eq.trans a2 ?_
      rw [e_X12_goes_4, if_pos i_rf, e_X12_goes_22]
    have w1 := wi_1 (x := Int32.ofNat k0) (a := 0) (b := 999) c0
    have my := r_may1 (d + 8) 1 lM (I := J) (L := up2 L1 251 0 (Int32.toInt64 v)) J00
    have ih := rh_ok (d + 7) (L := up2 L1 251 0 (Int32.toInt64 v)) (I := J) 2 lM J00 (by decide) (by rw [hJ0 220 (by decide) (by decide) (by decide)]; exact s2) s3 c1
    rw [q_X12_go_, e_X12_go_0]
    rw [up2_e (F := I1), hJ]
    simp only [↓vM lM, r_within, mcI_v, w1, ↓mcI_of my, if_neg z1, ↓mcI_of ih, e_X12_go_31, ↓mcI_of gs]
  have rr : ∀ a, ¬ (a = 219) → a ≠ 223 → a ≠ 227 → a ≠ 228 → a ≠ 229 → J2 a = I1 a := fun a h1 h2 h3 h4 h5 => by rw [g2'.1 a h1 h2 h3 h4 h5, ← hJ, up_ne h1]
  have kk : ∀ a, a ≠ 225 → a ≠ 251 → K2 a = L1 a := fun a h1 h2 => by rw [g2'.2.2.2 a h1, up2_e, up_ne h2]
  refine ⟨0, v, G, I1, _, J2, K2, w_go (d + 9) hc lB.1 o1 o2, f1.1 0 (by decide) (by decide), rfl, hr, ?_, ?_, fun _ => ?_, h, hs, bl, bs, cl, cs, nr, n, nh, M + k0, hN2, w2, lc, mc, kc, ta, rm, pi, mk, ?_, by omega, by omega⟩
  · rw [rr 0 (by decide) (by decide) (by decide) (by decide) (by decide), f1.1 0 (by decide) (by decide)]
  · rw [g2'.2.1 0 (by decide)]; exact J00
  · rw [g2'.2.2.2 251 (by decide), up2_e, up_eq, up_eq]
  · refine Rel_go q hz (fun a h1 h2 h3 => ?_) (fun k h1 h2 => ?_) (fun j _ p => absurd p id) (fun a h1 h2 h3 => ?_) q2 q3 ?_ ?_ (by omega) ?_
    · rw [rr a h2 h3 (by omega) (by omega) (by omega), f1.1 a (by omega) (by omega)]
    · rw [g2'.2.1 k h2, hJ9 k h1]
    · rw [kk a h3 h1, f1.2 a h2]
    · exact SeR_c q4 s6 (fun a h1 h2 => rr a (by omega) (by omega) (by omega) (by omega) (by omega)) (fun _ _ => rfl)
    · exact StR_c q5 s6 s3 (fun a h1 h2 => rr a (by omega) (by omega) (by omega) (by omega) (by omega)) (kk _ (by decide) (by decide)) rfl (fun _ _ => rfl) (fun _ _ => rfl)
    · exact DiR_c q7 s3 (fun a h1 h2 => rr a (by omega) (by omega) (by omega) (by omega) (by omega)) (fun _ _ => rfl) (fun _ _ => rfl)
end
