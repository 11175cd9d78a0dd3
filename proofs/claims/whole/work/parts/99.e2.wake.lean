/-! call: wake -/
theorem r_isWanted (d : Nat) {G : mG} {I : Nat → Nat → Int32} {L : Nat → Nat → Int64} {x y : Int32} (b : Bool) (hb : b = true ↔ ¬ (x < -4000 ∨ 4000 < x) ∧ ¬ (y < 0 ∨ 9999 < y)) : mcal mT (d + 2) 254 [.ref 219, .int x, .int y] (G, I, L) = some (.inl (some (.int (if b then 1 else 0))), (G, I, L)) := by
  have z1 : ¬ (1 : Int32) = 0 := by decide
  by_cases c1 : x < -4000 ∨ 4000 < x
  · have e : b = false := eq_false_of_ne_true fun q => (hb.mp q).1 c1
    simp only [q_X12_isWanted_, e_X12_isWanted_0, r_within, mcI_v, wi_0 c1, if_true, e_X12_isWanted_28, e_X12_isWanted_29, mb0, e]
    rfl
  · by_cases c2 : y < 0 ∨ 9999 < y
    · have e : b = false := eq_false_of_ne_true fun q => (hb.mp q).2 c2
      simp only [q_X12_isWanted_, e_X12_isWanted_0, r_within, mcI_v, wi_1 c1, if_neg z1, wi_0 c2, if_true, e_X12_isWanted_28, e_X12_isWanted_29, mb0, e]
      rfl
    · have e : b = true := hb.mpr ⟨c1, c2⟩
      simp only [q_X12_isWanted_, e_X12_isWanted_0, r_within, mcI_v, wi_1 c1, if_neg z1, wi_1 c2, e_X12_isWanted_29, mb1, e, if_true]
section
variable {I I1 I2 J J1 J2 : Nat → Nat → Int32} {L L1 L2 K K1 K2 : Nat → Nat → Int64} {h nr n nh M : Nat} {rm pi : Nat → Nat}
theorem QuC_t (a : QuC I I1 L L1) (b : QuC I1 I2 L1 L2) : QuC I I2 L L2 := ⟨fun x hx => (b.1 x hx).trans (a.1 x hx), fun x hx => (b.2 x hx).trans (a.2 x hx)⟩
theorem QuR_t (a : QuR J J1 K K1) (b : QuR J1 J2 K1 K2) : QuR J J2 K K2 := ⟨fun x h1 h2 h3 h4 h5 => (b.1 x h1 h2 h3 h4 h5).trans (a.1 x h1 h2 h3 h4 h5), fun x h1 h2 h3 h4 h5 => (b.2.1 x h1 h2 h3 h4 h5).trans (a.2.1 x h1 h2 h3 h4 h5), fun x h1 => (b.2.2.1 x h1).trans (a.2.2.1 x h1), fun x h1 h2 => (b.2.2.2.1 x h1 h2).trans (a.2.2.2.1 x h1 h2), fun x h1 => (b.2.2.2.2 x h1).trans (a.2.2.2.2 x h1)⟩
theorem Qui_T {v : Int64} (c : QuC I I1 L L1) (r : QuR (va_up I1 219 (va_up (I1 219) 0 0)) J2 (up2 L1 251 0 v) K2) : Qui I J2 L K2 := by
  obtain ⟨c1, c2⟩ := c
  obtain ⟨r1, r2, r3, r4, r5⟩ := r
  have e : ∀ a, a ≠ 219 → a ≠ 223 → a ≠ 224 → a ≠ 227 → a ≠ 234 → ¬ (171 ≤ a ∧ a < 195) → J2 a = I a := fun a h1 h2 h3 h4 h5 h6 => by rw [r1 a h1 h2 h3 h4 h5, up_ne h1, c1 a h6]
  refine ⟨fun a ha => ?_, fun k h0 h1 h2 h3 h4 h5 => ?_, fun j hj => ?_, ⟨?_, ?_, ?_, ?_⟩, fun a h1 h2 h3 h4 => ?_, fun j hj => ?_⟩
  · unfold Scr at ha
    exact e a (by omega) (by omega) (by omega) (by omega) (by omega) (by omega)
  · rw [r2 k h1 h2 h3 h4 h5, up_eq, up_ne h0, c1 219 (by decide)]
  · rw [r3 j hj, up_ne (by decide), c1 223 (by decide)]
  · rw [e 200 (by decide) (by decide) (by decide) (by decide) (by decide) (by decide)]
  · rw [e 204 (by decide) (by decide) (by decide) (by decide) (by decide) (by decide)]
  · rw [e 208 (by decide) (by decide) (by decide) (by decide) (by decide) (by decide)]
  · rw [e 212 (by decide) (by decide) (by decide) (by decide) (by decide) (by decide)]
  · rw [r4 a h3 h4, up2_e, up_ne h1, c2 a h2]
  · rw [r5 j hj, up2_e, up_ne (by decide), c2 225 (by decide)]
theorem BsR_j (q : BsR I J L K h nr n nh M rm pi) (a : QuR J J1 K K1) : BsR I J1 L K1 h nr n nh M rm pi := by
  obtain ⟨b1, b2, b3, b4⟩ := q
  obtain ⟨r1, r2, r3, r4, r5⟩ := a
  have e220 : J1 220 = J 220 := r1 220 (by decide) (by decide) (by decide) (by decide) (by decide)
  exact ⟨HsR_c (fun _ _ _ => rfl) e220 b1, FlR_c b2 (fun k h1 h2 h3 h4 => r2 k h3 h4 (by omega) (by omega) (by omega)), SeR_c b3 b1.1.2.2.2.2.2 (fun _ _ _ => rfl) (fun j hj => r3 j (by omega)), StR_c b4 b1.1.2.2.2.2.2 b1.1.2.2.1 (fun _ _ _ => rfl) rfl e220 (fun j hj => r3 j (by omega)) r5⟩
theorem BsR_i (q : BsR I J L K h nr n nh M rm pi) (hb : 103 ≤ h ∧ h + 14 ≤ 132) (a : QuC I I1 L L1) : BsR I1 J L1 K h nr n nh M rm pi := by
  obtain ⟨b1, b2, b3, b4⟩ := q
  exact ⟨HsR_c (fun a' h1 h2 => a.1 a' (by omega)) rfl b1, b2, SeR_c b3 b1.1.2.2.2.2.2 (fun a' h1 h2 => a.1 a' (by omega)) (fun _ _ => rfl), StR_c b4 b1.1.2.2.2.2.2 b1.1.2.2.1 (fun a' h1 h2 => a.1 a' (by omega)) (a.2 _ (by decide)) rfl (fun _ _ => rfl) (fun _ _ => rfl)⟩
/-- from the class's heap to the reference's, behind the wrapper -/
theorem BsR_w {v : Int64} (q : BsR I I L L h nr n nh M rm pi) (c : QuC I I1 L L1) : BsR I (va_up I1 219 (va_up (I1 219) 0 0)) L (up2 L1 251 0 v) h nr n nh M rm pi := by
  obtain ⟨b1, b2, b3, b4⟩ := q
  obtain ⟨c1, c2⟩ := c
  have e : ∀ a, a ≠ 219 → ¬ (171 ≤ a ∧ a < 195) → va_up I1 219 (va_up (I1 219) 0 0) a = I a := fun a h1 h2 => by rw [up_ne h1, c1 a h2]
  refine ⟨HsR_c (fun _ _ _ => rfl) (e 220 (by decide) (by decide)) b1, FlR_c b2 (fun k h1 h2 h3 h4 => by rw [up_eq, up_ne (by omega), c1 219 (by decide)]), SeR_c b3 b1.1.2.2.2.2.2 (fun _ _ _ => rfl) (fun j hj => by rw [e 223 (by decide) (by decide)]), StR_c b4 b1.1.2.2.2.2.2 b1.1.2.2.1 (fun _ _ _ => rfl) rfl (e 220 (by decide) (by decide)) (fun j hj => by rw [e 223 (by decide) (by decide)]) (fun j hj => by rw [up2_e, up_ne (by decide), c2 225 (by decide)])⟩
end
theorem some_i {v v' : Int32} {G G' : mG} {I I' : Nat → Nat → Int32} {L L' : Nat → Nat → Int64} {X : Option mO} (a : X = some (.inl (some (.int v)), (G, I, L))) (b : X = some (.inl (some (.int v')), (G', I', L'))) : v' = v ∧ G' = G ∧ I' = I ∧ L' = L := by
  have := b.symm.trans a
  simp only [Option.some.injEq, Prod.mk.injEq, Sum.inl.injEq, Value.int.injEq] at this
  exact this
section
variable {z h hs bl bs cl cs nr n nh M hN w lc mc kc ta : Nat} {rm pi mk : Nat → Nat} {G : mG} {I : Nat → Nat → Int32} {L : Nat → Nat → Int64}
theorem ca_wake (d : Nat) (q : Rel z h hs bl bs cl cs nr n nh M hN w lc mc kc ta rm pi mk G I L) (g1 : G.1 ≤ 252 + z + 25 * kc) (g2 : G.2.1 ≤ 60000 + 6 * z + 4000 * kc) (hz : z + 1 ≤ 512) (x y u : Int32) : Ste (d + 10) 313 258 [.int x, .int y, .int u] (z + 1) G I L := by
  obtain ⟨lB, lX, lP, -, ⟨lH1, lH2⟩, ⟨lS, -⟩, ⟨lT, -⟩, ⟨lU, -⟩, lD, -, -, lM, ⟨o1, o2⟩, -, hh, -⟩ := id q.1
  have ho := q.2.1
  obtain ⟨s1, s2, s3, s4, s5, s6⟩ := ho_sz ho
  have lH : LayH G h := by
    rcases hh with ⟨a, -⟩ | ⟨a, -⟩
    · rw [a]; exact lH1
    · rw [a]; exact lH2
  have hb : 103 ≤ h ∧ h + 14 ≤ 132 := by omega
  obtain ⟨-, -, ⟨hF, hHN⟩, hS, ⟨hT, hMz⟩, hU, hD, hTp, hEg, hLg, -, -, -, -⟩ := id q
  have z1 : ¬ (1 : Int32) = 0 := by decide
  have I00 : (va_up I 219 (va_up (I 219) 0 0)) 219 0 = 0 := by rw [up_eq, up_eq]
  have I01 : (va_up I 219 (va_up (I 219) 0 0)) 220 = I 220 := up_ne (by decide)
  have bad : ∀ (b1 b2 : Bool), (b1 = true ↔ ¬ (x < -4000 ∨ 4000 < x) ∧ ¬ (u < 0 ∨ 9999 < u)) → (b2 = true ↔ ¬ (y < -4000 ∨ 4000 < y) ∧ ¬ (u < 0 ∨ 9999 < u)) → ¬ (b1 = true ∧ b2 = true) → mcal mT (d + 9) 143 [.ref 100, .int x, .int y, .int u] (G, I, L) = some (.inr "java/lang/IllegalArgumentException", (G, I, L)) → Ste (d + 10) 313 258 [.int x, .int y, .int u] (z + 1) G I L := by
    intro b1 b2 h1 h2 h3 hc
    refine Ste_e (k := 1) q g1 g2 hz (by decide) (w_wake_A (d + 9) hc lB.1) fun lM => ?_
    have my := r_may0 (d + 8) 1 lM (I := va_up I 219 (va_up (I 219) 0 0)) (L := L) I00 (by decide)
    have wa := r_isWanted (d + 7) (G := gC G) (I := va_up I 219 (va_up (I 219) 0 0)) (L := L) b1 h1
    have wb := r_isWanted (d + 7) (G := gC G) (I := va_up I 219 (va_up (I 219) 0 0)) (L := L) b2 h2
    cases b1 with
    | false =>
      have wa' : mcal mT (d + 9) 254 [.ref 219, .int x, .int u] (gC G, va_up I 219 (va_up (I 219) 0 0), L) = some (.inl (some (.int 0)), (gC G, va_up I 219 (va_up (I 219) 0 0), L)) := wa
      simp only [q_X12_wake_, e_X12_wake_0, ↓vM lM, up2_e, ↓mcI_of wa', if_true, e_X12_wake_28, e_X12_wake_29, ↓mcI_of my, e_X12_wake_44, up_eq, up_up]
    | true =>
      have wa' : mcal mT (d + 9) 254 [.ref 219, .int x, .int u] (gC G, va_up I 219 (va_up (I 219) 0 0), L) = some (.inl (some (.int 1)), (gC G, va_up I 219 (va_up (I 219) 0 0), L)) := wa
      cases b2 with
      | true => exact absurd ⟨rfl, rfl⟩ h3
      | false =>
        have wb' : mcal mT (d + 9) 254 [.ref 219, .int y, .int u] (gC G, va_up I 219 (va_up (I 219) 0 0), L) = some (.inl (some (.int 0)), (gC G, va_up I 219 (va_up (I 219) 0 0), L)) := wb
        simp only [q_X12_wake_, e_X12_wake_0, ↓vM lM, up2_e, ↓mcI_of wa', if_neg z1, ↓mcI_of wb', if_true, e_X12_wake_28, e_X12_wake_29, ↓mcI_of my, e_X12_wake_44, up_eq, up_up]
  have dx : (decide (¬ (x < -4000 ∨ 4000 < x) ∧ ¬ (u < 0 ∨ 9999 < u)) = true) ↔ (¬ (x < -4000 ∨ 4000 < x) ∧ ¬ (u < 0 ∨ 9999 < u)) := decide_eq_true_iff
  have dy : (decide (¬ (y < -4000 ∨ 4000 < y) ∧ ¬ (u < 0 ∨ 9999 < u)) = true) ↔ (¬ (y < -4000 ∨ 4000 < y) ∧ ¬ (u < 0 ∨ 9999 < u)) := decide_eq_true_iff
  by_cases c0 : x < -4000 ∨ 4000 < x
  · refine bad _ _ dx dy (fun p => (dx.mp p.1).1 c0) ?_
    simp only [q_X11_wake_, e_X11_wake_0, no_no (d + 6) c0 (G, I, L), mcV_e, mthr_e]
  by_cases c1 : y < -4000 ∨ 4000 < y
  · refine bad _ _ dx dy (fun p => (dy.mp p.2).1 c1) ?_
    simp only [q_X11_wake_, e_X11_wake_0, no_ok (d + 6) c0 (G, I, L), no_no (d + 6) c1 (G, I, L), mcV_v, mcV_e, mthr_e]
  by_cases c2 : u < 0 ∨ 9999 < u
  · refine bad _ _ dx dy (fun p => (dx.mp p.1).2 c2) ?_
    simp only [q_X11_wake_, e_X11_wake_0, no_ok (d + 6) c0 (G, I, L), no_ok (d + 6) c1 (G, I, L), nw_no (d + 7) c2 (G, I, L), mcV_v, mcV_e, mthr_e]
  have wok : ∀ (G' : mG) (I' : Nat → Nat → Int32) (L' : Nat → Nat → Int64), mcal mT (d + 9) 254 [.ref 219, .int x, .int u] (G', I', L') = some (.inl (some (.int 1)), (G', I', L')) ∧ mcal mT (d + 9) 254 [.ref 219, .int y, .int u] (G', I', L') = some (.inl (some (.int 1)), (G', I', L')) := fun G' I' L' => ⟨r_isWanted (d + 7) true ⟨fun _ => ⟨c0, c2⟩, fun _ => rfl⟩, r_isWanted (d + 7) true ⟨fun _ => ⟨c1, c2⟩, fun _ => rfl⟩⟩
  by_cases c3 : nr = 0
  · have hc : mcal mT (d + 9) 143 [.ref 100, .int x, .int y, .int u] (G, I, L) = some (.inr "java/lang/IllegalStateException", (G, I, L)) := by
      simp only [q_X11_wake_, e_X11_wake_0, no_ok (d + 6) c0 (G, I, L), no_ok (d + 6) c1 (G, I, L), nw_ok (d + 7) c2 (G, I, L), ↓vB lB, nh_no (d + 7) (L := L) lB lP lH s1 c3, mcV_v, mcV_e, mthr_e]
    refine Ste_e (k := 2) q g1 g2 hz (by decide) (w_wake_S (d + 9) hc lB.1) fun lM => ?_
    have my := r_may1 (d + 8) 1 lM (I := va_up I 219 (va_up (I 219) 0 0)) (L := L) I00
    have ih := rh_no (d + 7) (L := L) (I := va_up I 219 (va_up (I 219) 0 0)) 2 lM I00 (by decide) (by rw [I01]; exact s2) s3 c3
    simp only [q_X12_wake_, e_X12_wake_0, ↓vM lM, up2_e, ↓mcI_of (wok _ _ _).1, if_neg z1, ↓mcI_of (wok _ _ _).2, e_X12_wake_29, ↓mcI_of my, ↓mcI_of ih, if_true, e_X12_wake_44, up_eq, up_up]
  have hHs : HsR I I h 219 nr n rm pi := by
    rcases ho with ⟨a, -⟩ | ⟨-, b, -⟩
    · exact absurd a c3
    · exact b
  have hbs : BsR I I L L h nr n nh M rm pi := ⟨hHs, hF, hS, hT⟩
  have zz : 999 * z ≤ 999 * 512 := Nat.mul_le_mul_left 999 (by omega)
  have hM : M < 2147470000 := by omega
  -- the class's first run
  obtain ⟨v1, I1, L1, -, -, a1, -, q1, -⟩ := wk_pair (d + 2) d (G2 := G) x u q.1 lM hbs hM
  obtain ⟨ly1, -⟩ := LyR_T q.1 h
  -- what the reference does from the class's last heap
  have fin : ∀ (Gf : mG) (If : Nat → Nat → Int32) (Lf : Nat → Nat → Int64) (vv : Int32), LyR Gf h hs bl bs cl cs kc mk → Gf.1 = G.1 → Gf.2.1 = G.2.1 → gN Gf 0 = gN G 0 → QuC I If L Lf → mcal mT (d + 9) 143 [.ref 100, .int x, .int y, .int u] (G, I, L) = some (.inl (some (.int vv)), (Gf, If, Lf)) → (∀ v2 J1 J2 K1 K2, mcal mT (d + 9) 257 [.ref 219, .int x, .int u] (Gf, va_up If 219 (va_up (If 219) 0 0), up2 Lf 251 0 (Int32.toInt64 vv)) = some (.inl (some (.int v1)), (Gf, J1, K1)) → mcal mT (d + 9) 257 [.ref 219, .int y, .int u] (Gf, J1, K1) = some (.inl (some (.int v2)), (Gf, J2, K2)) → BsR I J1 L K1 h nr n nh M rm pi → vv = (if v1 = -1 then -1 else if v2 = -1 then -1 else if v1 ≤ v2 then v2 else v1)) → Ste (d + 10) 313 258 [.int x, .int y, .int u] (z + 1) G I L := by
    intro Gf If Lf vv lyf gf1 gf2 gf3 qc hc hv
    have lMf : LayM Gf 219 := lyf.2.2.2.2.2.2.2.2.2.2.2.1
    have lBf := lyf.1
    obtain ⟨k1, k2⟩ := lyf.2.2.2.2.2.2.2.2.2.2.2.2.1
    have b0 := BsR_w (v := Int32.toInt64 vv) hbs qc
    obtain ⟨v1', I1', L1', J1, K1, p1, p2, -, p4⟩ := wk_pair (d + 2) (d + 2) (G2 := Gf) x u q.1 lMf b0 hM
    obtain ⟨rfl, -, -, -⟩ := some_i a1 p1
    have b1 := BsR_j b0 p4
    obtain ⟨v2, -, -, J2, K2, r1, r2, -, r4⟩ := wk_pair (d + 2) (d + 2) (G2 := Gf) y u q.1 lMf b1 hM
    have ev := hv v2 J1 J2 K1 K2 p2 r2 b1
    have J00 : va_up If 219 (va_up (If 219) 0 0) 219 0 = 0 := by rw [up_eq, up_eq]
    have i220 : va_up If 219 (va_up (If 219) 0 0) 220 = I 220 := by rw [up_ne (by decide), qc.1 220 (by decide)]
    have my := r_may1 (d + 8) 1 lMf (I := va_up If 219 (va_up (If 219) 0 0)) (L := up2 Lf 251 0 (Int32.toInt64 vv)) J00
    have ih := rh_ok (d + 7) (L := up2 Lf 251 0 (Int32.toInt64 vv)) (I := va_up If 219 (va_up (If 219) 0 0)) 2 lMf J00 (by decide) (by rw [i220]; exact s2) s3 c3
    have hr : mcal mT (d + 10) 258 [.ref 219, .int x, .int y, .int u] (Gf, If, up2 Lf 251 0 (Int32.toInt64 vv)) = some (.inl (some (.int vv)), (Gf, J2, K2)) := by
      rw [q_X12_wake_, e_X12_wake_0, up2_e (F := If)]
      simp only [↓vM lMf, ↓mcI_of (wok _ _ _).1, if_neg z1, ↓mcI_of (wok _ _ _).2, e_X12_wake_29, ↓mcI_of my, ↓mcI_of ih, e_X12_wake_46, ↓mcI_of p2, ↓mcI_of r2, e_X12_wake_74, e_X12_wake_78, e_X12_wake_90, e_X12_wake_92]
      rw [ev]
      by_cases d1 : v1' = -1
      · rw [if_pos d1, if_pos d1]
      rw [if_neg d1, if_neg d1]
      by_cases d2 : v2 = -1
      · rw [if_pos d2, if_pos d2]
      rw [if_neg d2, if_neg d2]
      by_cases d3 : v1' ≤ v2
      · rw [if_pos d3, if_pos d3]
      · rw [if_neg d3, if_neg d3]
    have qq := Qui_T qc (QuR_t p4 r4)
    refine ⟨0, vv, Gf, If, _, J2, K2, w_wake (d + 9) hc lB.1 k1 k2, qc.1 0 (by decide), gf3, hr, ?_, ?_, fun _ => ?_, h, hs, bl, bs, cl, cs, nr, n, nh, M, hN, w, lc, mc, kc, ta, rm, pi, mk, Rel_q q lyf (Nat.le_succ z) hz qq, by omega, by omega⟩
    · rw [qq.1 0 (by unfold Scr; omega)]
    · have := (QuR_t p4 r4).2.1 0 (by decide) (by decide) (by decide) (by decide) (by decide)
      rw [this]
      exact J00
    · have := (QuR_t p4 r4).2.2.2.1 251 (by decide) (by decide)
      rw [this, up2_e, up_eq, up_eq]
  have cw : ∀ Y, mcI (mcal mT (d + 8) 144 [.ref 100, .int x, .int u] (G, I, L)) Y mthr = Y v1 (gS G 156 0 (some h), I1, L1) := fun Y => mcI_of a1 Y mthr
  have g0 := nh_ok (d + 7) (L := L) lB lP lH s1 s3 c3
  by_cases d1 : v1 = -1
  · refine fin _ I1 L1 v1 ly1 rfl rfl rfl q1 ?_ (fun v2 J1 J2 K1 K2 _ _ _ => by rw [if_pos d1]; exact d1)
    simp only [q_X11_wake_, e_X11_wake_0, no_ok (d + 6) c0 (G, I, L), no_ok (d + 6) c1 (G, I, L), nw_ok (d + 7) c2 (G, I, L), ↓vB lB, g0, mcV_v, cw, if_pos d1, e_X11_wake_39]
  by_cases d2 : x = y
  · refine fin _ I1 L1 v1 ly1 rfl rfl rfl q1 ?_ (fun v2 J1 J2 K1 K2 e1 e2 bj => ?_)
    · simp only [q_X11_wake_, e_X11_wake_0, no_ok (d + 6) c0 (G, I, L), no_ok (d + 6) c1 (G, I, L), nw_ok (d + 7) c2 (G, I, L), ↓vB lB, g0, mcV_v, cw, if_neg d1, if_pos d2, e_X11_wake_39]
    · have lM1 : LayM (gS G 156 0 (some h)) 219 := ly1.2.2.2.2.2.2.2.2.2.2.2.1
      obtain ⟨v3, I3, L3, J3, K3, t1, t2, -⟩ := wk_pair (d + 2) (d + 2) (G2 := gS G 156 0 (some h)) x u q.1 lM1 bj hM
      obtain ⟨rfl, -⟩ := some_i a1 t1
      rw [← d2] at e2
      obtain ⟨rfl, -⟩ := some_i t2 e2
      rw [if_neg d1, if_neg d1, if_pos (Int32.le_refl _)]
  · have bs1 := BsR_i hbs hb q1
    obtain ⟨v2, I2, L2, -, -, a2, -, q2, -⟩ := wk_pair (d + 2) d (G := gS G 156 0 (some h)) (G2 := G) (J := I) (K := L) y u ly1 lM bs1 hM
    obtain ⟨ly2, -⟩ := LyR_T ly1 h
    have lB1 := ly1.1
    have cw2 : ∀ Y, mcI (mcal mT (d + 8) 144 [.ref 100, .int y, .int u] (gS G 156 0 (some h), I1, L1)) Y mthr = Y v2 (gS (gS G 156 0 (some h)) 156 0 (some h), I2, L2) := fun Y => mcI_of a2 Y mthr
    have vj : ∀ (Gf : mG), LayM Gf 219 → ∀ (J1 J2 : Nat → Nat → Int32) (K1 K2 : Nat → Nat → Int64) (v3 : Int32), mcal mT (d + 9) 257 [.ref 219, .int y, .int u] (Gf, J1, K1) = some (.inl (some (.int v3)), (Gf, J2, K2)) → BsR I J1 L K1 h nr n nh M rm pi → v3 = v2 := by
      intro Gf lMf J1 J2 K1 K2 v3 e bj
      obtain ⟨v4, I3, L3, J3, K3, t1, t2, -⟩ := wk_pair (d + 2) (d + 2) (G := gS G 156 0 (some h)) (G2 := Gf) y u ly1 lMf (BsR_i bj hb q1) hM
      obtain ⟨h4, -⟩ := some_i a2 t1
      obtain ⟨h5, -⟩ := some_i t2 e
      rw [h5, h4]
    have jm : jmax v1 v2 = if v1 ≤ v2 then v2 else v1 := by
      apply i_inj
      rw [jmax_t]
      by_cases p : v1 ≤ v2
      · rw [if_pos p]; rw [Int32.le_iff_toInt_le] at p; omega
      · rw [if_neg p]; rw [Int32.le_iff_toInt_le] at p; omega
    by_cases d3 : v2 = -1
    · refine fin _ I2 L2 (-1) ly2 rfl rfl rfl (QuC_t q1 q2) ?_ (fun v3 J1 J2 K1 K2 e1 e2 bj => ?_)
      · simp only [q_X11_wake_, e_X11_wake_0, no_ok (d + 6) c0 (G, I, L), no_ok (d + 6) c1 (G, I, L), nw_ok (d + 7) c2 (G, I, L), ↓vB lB, g0, mcV_v, cw, if_neg d1, if_neg d2, e_X11_wake_42, ↓vB lB1, cw2, if_pos d3, e_X11_wake_67]
      · have := vj _ ly2.2.2.2.2.2.2.2.2.2.2.2.1 J1 J2 K1 K2 v3 e2 bj
        rw [if_neg d1, this, if_pos d3]
    · refine fin _ I2 L2 (jmax v1 v2) ly2 rfl rfl rfl (QuC_t q1 q2) ?_ (fun v3 J1 J2 K1 K2 e1 e2 bj => ?_)
      · simp only [q_X11_wake_, e_X11_wake_0, no_ok (d + 6) c0 (G, I, L), no_ok (d + 6) c1 (G, I, L), nw_ok (d + 7) c2 (G, I, L), ↓vB lB, g0, mcV_v, cw, if_neg d1, if_neg d2, e_X11_wake_42, ↓vB lB1, cw2, if_neg d3, e_X11_wake_60, e_X11_wake_67]
      · have := vj _ ly2.2.2.2.2.2.2.2.2.2.2.2.1 J1 J2 K1 K2 v3 e2 bj
        rw [if_neg d1, this, if_neg d3, jm]
end
