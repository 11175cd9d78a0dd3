/-! call: cause -/
section
variable {G : mG} {I : Nat → Nat → Int32} {L : Nat → Nat → Int64} {h hs bl bs cl cs nr n kc : Nat} {mk : Nat → Nat} {E : Int32 → Int32 → Int32}
/-- what the class's search needs -/
def ErC (d : Nat) (off : Int32) (h hs bl bs cl cs kc : Nat) (mk : Nat → Nat) (G : mG) (I : Nat → Nat → Int32) (L : Nat → Nat → Int64) (nr n : Nat) (E : Int32 → Int32 → Int32) : Prop := ∀ x1 x2, OkT I h n nr x1 → OkT I h n nr x2 → (E x1 x2 = 0 ∨ E x1 x2 = 1) ∧ (∀ Gx Ix Lx, GH h hs bl bs cl cs kc mk G I L Gx Ix Lx → ∃ G' I' L', mcal mT (d + 7) 135 [.ref 100, .int (jmin x1 x2), .int (jmax x1 x2), .int off] (Gx, Ix, Lx) = some (.inl (some (.int (E x1 x2))), (G', I', L')) ∧ GH h hs bl bs cl cs kc mk G I L G' I' L')
theorem fp_m (d : Nat) {x : Nat} (off : Int32) (hb : 103 ≤ h ∧ h + 14 ≤ 132) (s1 : I h 1 = Int32.ofNat nr) (s3 : nr ≤ 8) (s4 : I h 10 = Int32.ofNat n) (s6 : n ≤ 8) (q : ErC d off h hs bl bs cl cs kc mk G I L nr n E) (hx : x ≤ 46) (hT : ¬ thg I h n nr x = 0) {Gx : mG} {Ix : Nat → Nat → Int32} {Lx : Nat → Nat → Int64} (gh : GH h hs bl bs cl cs kc mk G I L Gx Ix Lx) : ∃ r G' I' L', mcal mT (d + 8) 134 [.ref 100, .int (Int32.ofNat x), .int (Int32.ofNat x), .int off] (Gx, Ix, Lx) = some (.inl (some (.int r)), (G', I', L')) ∧ GH h hs bl bs cl cs kc mk G I L G' I' L' ∧ Lea (fun y => ¬ thg I h n nr y = 0 ∧ E (Int32.ofNat x) (Int32.ofNat y) = 1) (x + 1) r := by
  have key := fp_c d (Int32.ofNat x) off (F := fun y => E (Int32.ofNat x) (Int32.ofNat y)) (y0 := x + 1) hb s1 s3 s4 s6 (fun y h1 h2 h3 => by
    obtain ⟨a1, a2⟩ := q (Int32.ofNat x) (Int32.ofNat y) (Or.inr ⟨x, by omega, rfl, hT⟩) (Or.inr ⟨y, by omega, rfl, h3⟩)
    obtain ⟨j1, j2⟩ := jm_lo (x := Int32.ofNat x) (y := Int32.ofNat y) (fun p => by
      have := (i_le (by omega) (by omega)).mp p
      omega)
    rw [j1, j2] at a2
    exact ⟨a1, a2⟩) (46 - x) (x + 1) (by omega) (Nat.le_refl _) Gx Ix Lx gh
  rw [q_X11_firstPartner_, e_X11_firstPartner_0, i_one]
  exact key
theorem fp_0 (d : Nat) (off : Int32) (hb : 103 ≤ h ∧ h + 14 ≤ 132) (s1 : I h 1 = Int32.ofNat nr) (s3 : nr ≤ 8) (s4 : I h 10 = Int32.ofNat n) (s6 : n ≤ 8) (q : ErC d off h hs bl bs cl cs kc mk G I L nr n E) {Gx : mG} {Ix : Nat → Nat → Int32} {Lx : Nat → Nat → Int64} (gh : GH h hs bl bs cl cs kc mk G I L Gx Ix Lx) : ∃ r G' I' L', mcal mT (d + 8) 134 [.ref 100, .int (-1), .int (-1), .int off] (Gx, Ix, Lx) = some (.inl (some (.int r)), (G', I', L')) ∧ GH h hs bl bs cl cs kc mk G I L G' I' L' ∧ Lea (fun y => ¬ thg I h n nr y = 0 ∧ E (Int32.ofNat y) (-1) = 1) 0 r := by
  have key := fp_c d (-1) off (F := fun y => E (Int32.ofNat y) (-1)) (y0 := 0) hb s1 s3 s4 s6 (fun y h1 h2 h3 => by
    obtain ⟨a1, a2⟩ := q (Int32.ofNat y) (-1) (Or.inr ⟨y, by omega, rfl, h3⟩) (Or.inl rfl)
    obtain ⟨j1, j2⟩ := jm_hi (x := Int32.ofNat y) (y := -1) (by
      rw [Int32.le_iff_toInt_le, i_of (by omega)]
      have : (-1 : Int32).toInt = -1 := by decide
      omega)
    rw [j1, j2] at a2
    exact ⟨a1, a2⟩) 47 0 (by omega) (Nat.le_refl _) Gx Ix Lx gh
  rw [q_X11_firstPartner_, e_X11_firstPartner_0, show (-1 : Int32) + 1 = Int32.ofNat 0 from by decide]
  exact key
theorem co_c (d : Nat) (off kd : Int32) (hb : 103 ≤ h ∧ h + 14 ≤ 132) (s1 : I h 1 = Int32.ofNat nr) (s3 : nr ≤ 8) (s4 : I h 10 = Int32.ofNat n) (s6 : n ≤ 8) (q : ErC d off h hs bl bs cl cs kc mk G I L nr n E) : ∀ k x, x + k = 46 → ∀ Gx Ix Lx, GH h hs bl bs cl cs kc mk G I L Gx Ix Lx → ∃ r G' I' L', f_X11_cause (d + 8) 56 [.ref 100, .int off, .int kd, mU, .int (Int32.ofNat x), mU] [] (Gx, Ix, Lx) = some (.inl (some (.int r)), (G', I', L')) ∧ GH h hs bl bs cl cs kc mk G I L G' I' L' ∧ LeP (fun x y => ¬ thg I h n nr x = 0 ∧ ¬ thg I h n nr y = 0 ∧ E (Int32.ofNat x) (Int32.ofNat y) = 1) kd x r := by
  intro k
  induction k with
  | zero =>
    intro x hx Gx Ix Lx gh
    have e : x = 46 := by omega
    refine ⟨-2, Gx, Ix, Lx, ?_, gh, Or.inr ⟨rfl, fun u v h1 h2 h3 => by omega⟩⟩
    rw [e, e_X11_cause_56, if_pos (by decide), e_X11_cause_117]
  | succ k ih =>
    intro x hx Gx Ix Lx gh
    obtain ⟨ly, -, -, -, qc⟩ := id gh
    obtain ⟨lB, -, lP, -, ⟨lH1, lH2⟩, -⟩ := id ly
    have hh := ly.2.2.2.2.2.2.2.2.2.2.2.2.2.2.1
    have lH : LayH Gx h := by
      rcases hh with ⟨a, -⟩ | ⟨a, -⟩
      · rw [a]; exact lH1
      · rw [a]; exact lH2
    have fr : ∀ x, h ≤ x → x < h + 14 → Ix x = I x := fun x h1 h2 => qc.1 x (by omega)
    have tg : thg Ix h n nr x = thg I h n nr x := by
      have : ∀ k, tap Ix h n k = tap I h n k := fun k => by unfold tap; rw [fr (h + 12) (by omega) (by omega)]
      unfold thg
      rw [this, this]
    have t := c_hasThing (d + 6) (G := Gx) (I := Ix) (L := Lx) (n := n) (r := nr) (w := x) lH (by rw [fr h (by omega) (by omega)]; exact s4) s6 (by rw [fr h (by omega) (by omega)]; exact s1) s3 (by omega)
    rw [tg] at t
    have c46 : ¬ (46 : Int32) ≤ Int32.ofNat x := fun p => by have := (i_le (a := 46) (by decide) (by omega)).mp p; omega
    have nxt : ∀ G1 I1 L1, GH h hs bl bs cl cs kc mk G I L G1 I1 L1 → (∀ v, x < v → v ≤ 46 → ¬ (¬ thg I h n nr x = 0 ∧ ¬ thg I h n nr v = 0 ∧ E (Int32.ofNat x) (Int32.ofNat v) = 1)) → f_X11_cause (d + 8) 56 [.ref 100, .int off, .int kd, mU, .int (Int32.ofNat x), mU] [] (Gx, Ix, Lx) = f_X11_cause (d + 8) 111 [.ref 100, .int off, .int kd, mU, .int (Int32.ofNat x), mU] [] (G1, I1, L1) → ∃ r G' I' L', f_X11_cause (d + 8) 56 [.ref 100, .int off, .int kd, mU, .int (Int32.ofNat x), mU] [] (Gx, Ix, Lx) = some (.inl (some (.int r)), (G', I', L')) ∧ GH h hs bl bs cl cs kc mk G I L G' I' L' ∧ LeP (fun x y => ¬ thg I h n nr x = 0 ∧ ¬ thg I h n nr y = 0 ∧ E (Int32.ofNat x) (Int32.ofNat y) = 1) kd x r := by
      intro G1 I1 L1 g1 no st
      obtain ⟨r, G', I', L', a1, a2, a3⟩ := ih (x + 1) (by omega) G1 I1 L1 g1
      refine ⟨r, G', I', L', ?_, a2, ?_⟩
      · rw [st, e_X11_cause_111, i_one]
        exact a1
      · rcases a3 with ⟨u, v, c1, c2, c3, c4, c5, c6, c7⟩ | ⟨c1, c2⟩
        · refine Or.inl ⟨u, v, by omega, c2, c3, c4, c5, fun u' h1 h2 v' h3 h4 => ?_, c7⟩
          by_cases eu : u' = x
          · rw [eu]; exact no v' (by omega) h4
          · exact c6 u' (by omega) h2 v' h3 h4
        · refine Or.inr ⟨c1, fun u' v' h1 h2 h3 => ?_⟩
          by_cases eu : u' = x
          · rw [eu]; exact no v' (by omega) h3
          · exact c2 u' v' (by omega) h2 h3
    by_cases c : thg I h n nr x = 0
    · refine nxt Gx Ix Lx gh (fun v _ _ p => p.1 c) ?_
      rw [e_X11_cause_56, if_neg c46]
      simp only [↓vB lB, ↓vP lP, ↓vH lH, ↓mcI_of t, if_pos c, e_X11_cause_90, e_X11_cause_91, if_true]
    · obtain ⟨r, G1, I1, L1, a1, a2, a3⟩ := fp_m d off hb s1 s3 s4 s6 q (by omega) c gh
      rcases a3 with ⟨w, w1, w2, rfl, w4, w5⟩ | ⟨rfl, w2⟩
      · have q1 : ¬ Int32.ofNat w = -1 := nm1 (by omega)
        refine ⟨if kd = 0 then Int32.ofNat x else Int32.ofNat w, G1, I1, L1, ?_, a2, Or.inl ⟨x, w, Nat.le_refl _, by omega, w2, ⟨c, w4⟩, fun v h1 h2 p => w5 v (by omega) h2 p.2, fun u h1 h2 => by omega, rfl⟩⟩
        rw [e_X11_cause_56, if_neg c46]
        simp only [↓vB lB, ↓vP lP, ↓vH lH, ↓mcI_of t, if_neg c, ↓mcI_of a1, e_X11_cause_91, if_neg q1]
        by_cases ck : kd = 0
        · rw [if_pos ck, if_pos ck, e_X11_cause_110]
        · rw [if_neg ck, if_neg ck, e_X11_cause_108, e_X11_cause_110]
      · refine nxt G1 I1 L1 a2 (fun v h1 h2 p => w2 v (by omega) h2 p.2) ?_
        rw [e_X11_cause_56, if_neg c46]
        simp only [↓vB lB, ↓vP lP, ↓vH lH, ↓mcI_of t, if_neg c, ↓mcI_of a1, e_X11_cause_91, if_true]
/-- the class's search -/
theorem cs_c (d : Nat) (off kd : Int32) {E' : Int32 → Int32 → Int32} (hb : 103 ≤ h ∧ h + 14 ≤ 132) (s1 : I h 1 = Int32.ofNat nr) (s3 : nr ≤ 8) (s4 : I h 10 = Int32.ofNat n) (s6 : n ≤ 8) (q : ErC d off h hs bl bs cl cs kc mk G I L nr n E) (q' : ErC (d + 1) off h hs bl bs cl cs kc mk G I L nr n E') (he : E' (-1) (-1) = E (-1) (-1)) (gh : GH h hs bl bs cl cs kc mk G I L G I L) : ∃ r G' I' L', (mcI (mcal mT (d + 8) 135 [.ref 100, .int (-1), .int (-1), .int off] (G, I, L)) (fun v5 h4 => (if v5 = 0 then f_X11_cause (d + 8) 30 [.ref 100, .int off, .int kd, mU, mU, mU] [] h4 else some (.inl (some (.int (-1))), h4))) mthr) = some (.inl (some (.int r)), (G', I', L')) ∧ GH h hs bl bs cl cs kc mk G I L G' I' L' ∧ Fnd (E (-1) (-1) = 1) (fun w => ¬ thg I h n nr w = 0 ∧ E (Int32.ofNat w) (-1) = 1) (fun x y => ¬ thg I h n nr x = 0 ∧ ¬ thg I h n nr y = 0 ∧ E (Int32.ofNat x) (Int32.ofNat y) = 1) kd r := by
  obtain ⟨f01, ex⟩ := q' (-1) (-1) (Or.inl rfl) (Or.inl rfl)
  obtain ⟨G1, I1, L1, e1, e2⟩ := ex G I L gh
  rw [he] at f01 e1
  have e1' : mcal mT (d + 8) 135 [.ref 100, .int (-1), .int (-1), .int off] (G, I, L) = some (.inl (some (.int (E (-1) (-1)))), (G1, I1, L1)) := e1
  rw [e1', mcI_v]
  have lB1 := e2.1.1
  by_cases cf : E (-1) (-1) = 0
  · have nf : ¬ E (-1) (-1) = 1 := by rw [cf]; decide
    obtain ⟨r, G2, I2, L2, a1, a2, a3⟩ := fp_0 d off hb s1 s3 s4 s6 q e2
    rw [if_pos cf, e_X11_cause_30]
    simp only [↓vB lB1, ↓mcI_of a1]
    rcases a3 with ⟨w, w1, w2, rfl, w4, w5⟩ | ⟨rfl, w2⟩
    · have q1 : ¬ Int32.ofNat w = -1 := nm1 (by omega)
      refine ⟨if kd = 0 then Int32.ofNat w else -1, G2, I2, L2, ?_, a2, Or.inr ⟨nf, Or.inl ⟨w, w2, w4, fun v hv => w5 v (by omega) hv, rfl⟩⟩⟩
      rw [if_neg q1]
      by_cases ck : kd = 0
      · rw [if_pos ck, if_pos ck, e_X11_cause_52]
      · rw [if_neg ck, if_neg ck, e_X11_cause_51, e_X11_cause_52]
    · obtain ⟨r, G3, I3, L3, b1, b2, b3⟩ := co_c d off kd hb s1 s3 s4 s6 q 46 0 (by decide) G2 I2 L2 a2
      refine ⟨r, G3, I3, L3, ?_, b2, Or.inr ⟨nf, Or.inr ⟨fun w hw => w2 w (by omega) hw, b3⟩⟩⟩
      rw [if_pos rfl, e_X11_cause_53]
      exact b1
  · refine ⟨-1, G1, I1, L1, by rw [if_neg cf], e2, Or.inl ⟨?_, rfl⟩⟩
    rcases f01 with p | p
    · exact absurd p cf
    · exact p
end
section
variable {z h hs bl bs cl cs nr n nh M hN w lc mc kc ta : Nat} {rm pi mk : Nat → Nat} {G : mG} {I : Nat → Nat → Int32} {L : Nat → Nat → Int64}
theorem ca_cause (d : Nat) (q : Rel z h hs bl bs cl cs nr n nh M hN w lc mc kc ta rm pi mk G I L) (g1 : G.1 ≤ 252 + z + 25 * kc) (g2 : G.2.1 ≤ 60000 + 6 * z + 4000 * kc) (hz : z + 1 ≤ 512) (x y : Int32) : Ste (d + 10) 310 250 [.int x, .int y] (z + 1) G I L := by
  obtain ⟨lB, lX, lP, -, ⟨lH1, lH2⟩, ⟨lS, -⟩, ⟨lT, -⟩, ⟨lU, -⟩, lD, -, -, lM, ⟨o1, o2⟩, -, hh, -⟩ := id q.1
  have ho := q.2.1
  obtain ⟨s1, s2, s3, s4, s5, s6⟩ := ho_sz ho
  have lH : LayH G h := by
    rcases hh with ⟨a, -⟩ | ⟨a, -⟩
    · rw [a]; exact lH1
    · rw [a]; exact lH2
  have hb : 103 ≤ h ∧ h + 14 ≤ 132 := by omega
  obtain ⟨-, -, ⟨hF, hHN⟩, hS, ⟨hT, hMz⟩, hU, hD, hTp, hEg, hLg, -, -, -, -⟩ := id q
  have z1 : ¬ (1 : Int32) = 0 := by decide
  have I00 : (va_up I 219 (va_up (I 219) 0 0)) 219 0 = 0 := by rw [up_eq, up_eq]
  have I01 : (va_up I 219 (va_up (I 219) 0 0)) 220 = I 220 := up_ne (by decide)
  have bad : mcal mT (d + 9) 132 [.ref 100, .int x, .int y] (G, I, L) = some (.inr "java/lang/IllegalArgumentException", (G, I, L)) → ((x < 0 ∨ 9999 < x) ∨ (y < 0 ∨ 1 < y)) → Ste (d + 10) 310 250 [.int x, .int y] (z + 1) G I L := by
    intro hc hx
    refine Ste_e (k := 1) q g1 g2 hz (by decide) (w_cause_A (d + 9) hc lB.1) fun lM => ?_
    have my := r_may0 (d + 8) 1 lM (I := va_up I 219 (va_up (I 219) 0 0)) (L := L) I00 (by decide)
    show mcal mT (d + 10) 250 [.ref 219, .int x, .int y] _ = _
    rw [q_X12_cause_, e_X12_cause_0]
    by_cases d1 : x < 0 ∨ 9999 < x
    · simp only [↓vM lM, up2_e, r_within, mcI_v, wi_0 d1, if_true, e_X12_cause_30, e_X12_cause_31, ↓mcI_of my, e_X12_cause_46, up_eq, up_up]
    · have d2 : y < 0 ∨ 1 < y := by
        rcases hx with p | p
        · exact absurd p d1
        · exact p
      simp only [↓vM lM, up2_e, r_within, mcI_v, wi_1 d1, wi_0 d2, if_neg z1, if_true, e_X12_cause_30, e_X12_cause_31, ↓mcI_of my, e_X12_cause_46, up_eq, up_up]
  by_cases c0 : x < 0 ∨ 9999 < x
  · refine bad ?_ (Or.inl c0)
    simp only [q_X11_cause_, e_X11_cause_0, nw_no (d + 7) c0 (G, I, L), mcV_e, mthr_e]
  by_cases c1 : y < 0 ∨ 1 < y
  · refine bad ?_ (Or.inr c1)
    simp only [q_X11_cause_, e_X11_cause_0, nw_ok (d + 7) c0 (G, I, L), mcV_v, nw_no (d + 7) c1 (G, I, L), mcV_e, mthr_e]
  have up : ∀ (G' : mG) (I' : Nat → Nat → Int32) (L' : Nat → Nat → Int64), LayM G' 219 → mcal mT (d + 10) 250 [.ref 219, .int x, .int y] (G', I', L') = f_X12_cause (d + 9) 31 [.ref 219, .int x, .int y] [.int 1, .ref 219] (G', va_up I' 219 (va_up (I' 219) 0 0), L') := by
    intro G' I' L' lM
    rw [q_X12_cause_, e_X12_cause_0]
    simp only [↓vM lM, up2_e, r_within, mcI_v, wi_1 c0, wi_1 c1, if_neg z1]
  by_cases c3 : nr = 0
  · have hc : mcal mT (d + 9) 132 [.ref 100, .int x, .int y] (G, I, L) = some (.inr "java/lang/IllegalStateException", (G, I, L)) := by
      simp only [q_X11_cause_, e_X11_cause_0, nw_ok (d + 7) c0 (G, I, L), nw_ok (d + 7) c1 (G, I, L), mcV_v, ↓vB lB, nh_no (d + 7) (L := L) lB lP lH s1 c3, mcV_e, mthr_e]
    refine Ste_e (k := 2) q g1 g2 hz (by decide) (w_cause_S (d + 9) hc lB.1) fun lM => ?_
    have my := r_may1 (d + 8) 1 lM (I := va_up I 219 (va_up (I 219) 0 0)) (L := L) I00
    have ih := rh_no (d + 7) (L := L) (I := va_up I 219 (va_up (I 219) 0 0)) 2 lM I00 (by decide) (by rw [I01]; exact s2) s3 c3
    refine (up _ _ _ lM).trans ?_
    simp only [e_X12_cause_31, ↓vM lM, ↓mcI_of my, if_neg z1, ↓mcI_of ih, if_true, e_X12_cause_46, up_eq, up_up]
  obtain ⟨-, hHs, -, -, -, hr2, -⟩ : 0 < nr ∧ HsR I I h 219 nr n rm pi ∧ I h 0 = I 220 165 ∧ I h 16 = I 220 160 ∧ irng (I 220 160) 1 999 ∧ (∀ r, r < nr → I (h + 2) r = I 220 (8 + r) ∧ irng (I 220 (8 + r)) 0 4000) ∧ (∀ k, k < n → irng (I 220 (144 + k)) 0 3) := by
    rcases ho with ⟨a, -⟩ | p
    · exact absurd a c3
    · exact p
  have hbs : BsR I I L L h nr n nh M rm pi := ⟨hHs, hF, hS, hT⟩
  have gh0 : GH h hs bl bs cl cs kc mk G I L G I L := ⟨q.1, rfl, rfl, rfl, fun _ _ => rfl, fun _ _ => rfl⟩
  -- class and reference at the beginning's heap: the truth function
  obtain ⟨E, hE⟩ := ca_E d (d + 1) (G2 := G) x q.1 lM hb hbs hr2 hLg hLg.1.2.1 rfl rfl rfl
  obtain ⟨E1, hE1⟩ := ca_E (d + 1) (d + 1) (G2 := G) x q.1 lM hb hbs hr2 hLg hLg.1.2.1 rfl rfl rfl
  have eqE : E1 (-1) (-1) = E (-1) (-1) := by
    obtain ⟨J1, K1, a1, -⟩ := (hE (-1) (-1) (Or.inl rfl) (Or.inl rfl)).2.2 I L QuR_i
    obtain ⟨J2, K2, a2, -⟩ := (hE1 (-1) (-1) (Or.inl rfl) (Or.inl rfl)).2.2 I L QuR_i
    exact (some_i a1 a2).1
  obtain ⟨r, G1, I1, L1, p1, p2, p3⟩ := cs_c d x y hb s1 s3 s4 s6 (fun x1 x2 o1 o2 => ⟨(hE x1 x2 o1 o2).1, (hE x1 x2 o1 o2).2.1⟩) (fun x1 x2 o1 o2 => ⟨(hE1 x1 x2 o1 o2).1, (hE1 x1 x2 o1 o2).2.1⟩) eqE gh0
  have hc : mcal mT (d + 9) 132 [.ref 100, .int x, .int y] (G, I, L) = some (.inl (some (.int r)), (G1, I1, L1)) := by
    rw [q_X11_cause_, e_X11_cause_0, nw_ok (d + 7) c0 (G, I, L), mcV_v, nw_ok (d + 7) c1 (G, I, L), mcV_v]
    simp only [↓vB lB, nh_ok (d + 7) (L := L) lB lP lH s1 s3 c3, mcV_v]
    exact p1
  obtain ⟨lyf, gf1, gf2, gf3, qc⟩ := p2
  have lMf : LayM G1 219 := lyf.2.2.2.2.2.2.2.2.2.2.2.1
  obtain ⟨w1, w2⟩ := lyf.2.2.2.2.2.2.2.2.2.2.2.2.1
  have b0 := BsR_w (v := Int32.toInt64 r) hbs qc
  have fr : ∀ a, a ≠ 219 → ¬ (171 ≤ a ∧ a < 195) → va_up I1 219 (va_up (I1 219) 0 0) a = I a := fun a h1 h2 => by rw [up_ne h1, qc.1 a h2]
  obtain ⟨E2, hE2⟩ := ca_E d (d + 1) (G2 := G1) x q.1 lMf hb b0 (by rw [fr 220 (by decide) (by decide)]; exact hr2) hLg (by rw [up_eq, up_ne (by decide), qc.1 219 (by decide)]; exact hLg.1.2.1) (fr 231 (by decide) (by decide)) (fr 232 (by decide) (by decide)) (fr 233 (by decide) (by decide))
  have eqE2 : ∀ x1 x2, OkT I h n nr x1 → OkT I h n nr x2 → E2 x1 x2 = E x1 x2 := by
    intro x1 x2 o1 o2
    obtain ⟨Ga, Ia, La, a1, -⟩ := (hE x1 x2 o1 o2).2.1 G I L gh0
    obtain ⟨Gb, Ib, Lb, a2, -⟩ := (hE2 x1 x2 o1 o2).2.1 G I L gh0
    exact (some_i a1 a2).1
  have J00 : va_up I1 219 (va_up (I1 219) 0 0) 219 0 = 0 := by rw [up_eq, up_eq]
  have i220 : va_up I1 219 (va_up (I1 219) 0 0) 220 = I 220 := fr 220 (by decide) (by decide)
  have er : ErR (d + 1) x G1 I (va_up I1 219 (va_up (I1 219) 0 0)) (up2 L1 251 0 (Int32.toInt64 r)) h nr n E := by
    refine ⟨lMf, ?_, fun x1 x2 o1 o2 => ?_⟩
    · rw [i220]
      exact ⟨s5, s6, s2, s3, ho_tp ho⟩
    · obtain ⟨b1, -, b3⟩ := hE2 x1 x2 o1 o2
      rw [eqE2 x1 x2 o1 o2] at b1 b3
      exact ⟨b1, b3⟩
  obtain ⟨b, J', K', f0, t4, t2, t3⟩ := fr_c (kd := y) er
  have ra := Fnd_u t3 p3
  have my := r_may1 (d + 8) 1 lMf (I := va_up I1 219 (va_up (I1 219) 0 0)) (L := up2 L1 251 0 (Int32.toInt64 r)) J00
  have ih := rh_ok (d + 7) (L := up2 L1 251 0 (Int32.toInt64 r)) (I := va_up I1 219 (va_up (I1 219) 0 0)) 2 lMf J00 (by decide) (by rw [i220]; exact s2) s3 c3
  have hr : mcal mT (d + 10) 250 [.ref 219, .int x, .int y] (G1, I1, up2 L1 251 0 (Int32.toInt64 r)) = some (.inl (some (.int r)), (G1, J', K')) := by
    refine (up _ _ _ lMf).trans ?_
    simp only [e_X12_cause_31, ↓vM lMf, ↓mcI_of my, if_neg z1, ↓mcI_of ih, e_X12_cause_48, ↓mcI_of t2]
    rcases f0 with rfl | rfl
    · have ra' : (-2 : Int32) = r := ra
      rw [if_pos rfl, ra']
    · have ra' : (if y = 0 then J' 219 32 else J' 219 33) = r := ra
      rw [if_neg z1, e_X12_cause_59]
      by_cases ck : y = 0
      · rw [if_pos ck] at ra'
        simp only [if_pos ck, ↓vM lMf, e_X12_cause_74, ra']
      · rw [if_neg ck] at ra'
        simp only [if_neg ck, e_X12_cause_70, ↓vM lMf, e_X12_cause_74, ra']
  have qq := Qui_T qc t4
  refine ⟨0, r, G1, I1, _, J', K', w_cause (d + 9) hc lB.1 w1 w2, qc.1 0 (by decide), gf3, hr, ?_, ?_, fun _ => ?_, h, hs, bl, bs, cl, cs, nr, n, nh, M, hN, w, lc, mc, kc, ta, rm, pi, mk, Rel_q q lyf (Nat.le_succ z) hz qq, by omega, by omega⟩
  · rw [qq.1 0 (by unfold Scr; omega)]
  · rw [t4.2.1 0 (by decide) (by decide) (by decide) (by decide) (by decide)]; exact J00
  · rw [t4.2.2.2.1 251 (by decide) (by decide), up2_e, up_eq, up_eq]
end
