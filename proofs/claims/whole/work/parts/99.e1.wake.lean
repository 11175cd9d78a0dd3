/-! trials from now -/
section
variable {G G2 : mG} {I I' J : Nat → Nat → Int32} {L K : Nat → Nat → Int64} {lv : Nat → Int64} {h hs bl bs cl cs nr n nh mm M kc : Nat} {rm pi mk : Nat → Nat}
theorem now_cor (hH : HsR I J h 219 nr n rm pi) (hS : SeR I 132 (J 223) n nh) (hT : StR I L 139 (J 220) (J 223) lv nr n M) (j15 : J 219 15 = -1) (j16 : J 219 16 = -1) (i1 : ∀ k, k < 8 → I' 172 k = I 133 k) (i3 : ∀ k, k < 24 → I' 174 k = I 135 k) (ip : I' 171 10 = I 132 10) (it : I' 178 0 = I 139 0 ∧ I' 178 1 = I 139 1 ∧ I' 178 2 = I 139 2) (i7 : ∀ k, k < 8 → I' 179 k = I 140 k) (i8 : ∀ k, k < 8 → I' 185 k = I 146 k) (iu : I' 192 0 = 0 ∧ ∀ k, k < 8 → I' 193 k = I (h + 9) k) (h9 : ∀ hr, hr < 24 → I' 173 hr = rou (J 219 20) (J 219 17) (J 223) hr) (h10 : I' 171 6 = Int32.ofNat mm ∧ mm ≤ 4 ∧ ∀ x, hof I' 171 x (if ngt I' 171 (hou x) = 0 then 0 else I' 171 5) mm = rof (J 219 21) (va_up (J 223) 71 x) nh) (h13 : ∀ k, k < n → I' 194 k = J 220 (152 + k) + (if J 219 18 = Int32.ofNat k then J 219 19 else 0)) : CoR I' J 171 178 192 219 nr n mm nh (fun k => k) rm M := by
  have hn8 := hH.1.2.2.2.2.2
  have hnr8 := hH.1.2.2.1
  obtain ⟨s1, s2, -, s4, -, ⟨-, s7, s8⟩, -⟩ := hS
  obtain ⟨⟨t1, t1'⟩, t2, ⟨-, t3⟩, ⟨-, t4⟩, -, -, t7, -⟩ := hT
  have w0 : ∀ k, k < 8 → rwr (-1) (-1) (10 * 0 + Int32.ofNat k) = 0 := fun k hk => rwr_n 0 (by decide) hk
  have w1 : ∀ k, k < 8 → rwr (-1) (-1) (10 * 1 + Int32.ofNat k) = 0 := fun k hk => rwr_n 1 (by decide) hk
  have w2 : ∀ k, k < 8 → rwr (-1) (-1) (10 * 2 + Int32.ofNat k) = 0 := fun k hk => rwr_n 2 (by decide) hk
  have w3 : ∀ k, k < 8 → rwr (-1) (-1) (10 * 3 + Int32.ofNat k) = 0 := fun k hk => rwr_n 3 (by decide) hk
  unfold CoR
  rw [j15, j16]
  refine ⟨⟨by rw [it.1]; exact t1, t1'⟩, fun r hr => ?_, fun k hk => ?_, fun k hk => ?_, ⟨by rw [ip]; exact s2.1, s2.2⟩, fun hr h24 => ?_, fun p hp => ?_, fun r hr => ?_, h9, ⟨h10.1, h10.2.1, s7, s8, h10.2.2⟩, fun k hk => ?_, fun k hk _ => ?_, h13⟩
  · show I' 179 r = _ ∧ _
    rw [i7 r (by omega)]
    exact t2 r hr
  · obtain ⟨a, b, c, -⟩ := t7 k hk
    show I' 185 k = _ ∧ irng (I' 185 k) 0 16
    rw [i8 k (by omega)]
    have a' : I 146 k = J 223 (8 + k) := a
    refine ⟨?_, by rw [a']; exact b⟩
    unfold rov
    rw [w1 k (by omega), w0 k (by omega), if_pos rfl, if_pos rfl, a']
    by_cases q : J (219 + 1) (144 + k) = 0
    · rw [if_pos q]; exact c q
    · rw [if_neg q]
  · show I' 172 k = _ ∧ _
    rw [i1 k (by omega)]
    exact s1 k hk
  · show I' 174 hr = _ ∧ _
    rw [i3 hr h24]
    exact s4 hr h24
  · rw [w2 p (by omega), it.2.2]
    show btv (I 139 2) p = 0 ↔ ¬ J 223 (40 + p) = 1 ∧ _
    rw [t4 p hp]
    rcases btv_0 (x := I 139 2) (k := p) with q | q
    · rw [q]; decide
    · rw [q]; decide
  · unfold raj
    rw [w3 r (by omega), it.2.1]
    show btv (I 139 1) r = 0 ↔ (if J 223 (32 + r) = 1 then (1 : Int32) else _) = 0
    rw [t3 r (by omega)]
    rcases btv_0 (x := I 139 1) (k := r) with q | q
    · rw [q]; decide
    · rw [q]; decide
  · obtain ⟨-, -, -, -, -, b6, -⟩ := hH
    obtain ⟨b1, b2, b3⟩ := b6 k hk
    show I' 193 k = _ ∧ _
    rw [iu.2 k (by omega)]
    refine ⟨b1, b3, ?_, show k < 8 by omega, b2⟩
    unfold rsb rex
    rw [if_pos (Int32.le_refl _), if_pos rfl, if_neg (by decide)]
  · rw [iu.1, w0 k (by omega), w1 k (by omega)]
    exact ⟨fun _ => ⟨rfl, rfl⟩, fun _ => bit0 (by omega)⟩
theorem r_areWarm (d : Nat) (want : Int32) (lM : LayM G2 219) (hn : J 220 164 = Int32.ofNat n) (hn8 : n ≤ 8) (hR : ∀ k, k < n → J 220 (120 + k) = Int32.ofNat (rm k) ∧ rm k < 8) : ∃ b : Int32, mcal mT (d + 2) 252 [.ref 219, .int want] (G2, J, K) = some (.inl (some (.int b)), (G2, J, K)) ∧ (b = 1 ∧ (∀ k, k < n → want ≤ J 223 (rm k)) ∨ b = 0 ∧ ¬ (∀ k, k < n → want ≤ J 223 (rm k))) := by
  have go : ∀ j k, j + k = n → (∀ i, i < k → want ≤ J 223 (rm i)) → ∃ b : Int32, f_X12_areWarm (d + 1) 2 [.ref 219, .int want, .int (Int32.ofNat k)] [] (G2, J, K) = some (.inl (some (.int b)), (G2, J, K)) ∧ (b = 1 ∧ (∀ k, k < n → want ≤ J 223 (rm k)) ∨ b = 0 ∧ ¬ (∀ k, k < n → want ≤ J 223 (rm k))) := by
    intro j
    induction j with
    | zero =>
      intro k hk hw
      have e : k = n := by omega
      refine ⟨1, ?_, Or.inl ⟨rfl, by rw [← e]; exact hw⟩⟩
      rw [e_X12_areWarm_2]
      simp only [↓vM lM, ↓mcI_of (r_radiators d lM), hn, e, if_pos i_rf, e_X12_areWarm_38, mb1]
    | succ j ih =>
      intro k hk hw
      obtain ⟨r1, r2⟩ := hR k (by omega)
      rw [e_X12_areWarm_2]
      by_cases c : want ≤ J 223 (rm k)
      · obtain ⟨b, p1, p2⟩ := ih (k + 1) (by omega) (fun i hi => by
          by_cases q : i = k
          · rw [q]; exact c
          · exact hw i (by omega))
        refine ⟨b, ?_, p2⟩
        simp (disch := omega) only [↓vM lM, ↓mcI_of (r_radiators d lM), hn, if_neg (i_ng (show k < n by omega) (by omega)), ixA, r1, ixZ, if_pos c, e_X12_areWarm_32, i_one]
        exact p1
      · refine ⟨0, ?_, Or.inr ⟨rfl, fun q => c (q k (by omega))⟩⟩
        simp (disch := omega) only [↓vM lM, ↓mcI_of (r_radiators d lM), hn, if_neg (i_ng (show k < n by omega) (by omega)), ixA, r1, ixZ, if_neg c, mb0]
  simp only [q_X12_areWarm_, e_X12_areWarm_0]
  exact go n 0 (by omega) (fun i hi => by omega)
/-- what a trial leaves -/
def QuC (I I' : Nat → Nat → Int32) (L L' : Nat → Nat → Int64) : Prop := (∀ a, ¬ (171 ≤ a ∧ a < 195) → I' a = I a) ∧ (∀ a, a ≠ 187 → L' a = L a)
def QuR (J J' : Nat → Nat → Int32) (K K' : Nat → Nat → Int64) : Prop := (∀ a, a ≠ 219 → a ≠ 223 → a ≠ 224 → a ≠ 227 → a ≠ 234 → J' a = J a) ∧ (∀ k, k ≠ 17 → k ≠ 19 → k ≠ 32 → k ≠ 33 → k ≠ 34 → J' 219 k = J 219 k) ∧ (∀ j, j < 173 → J' 223 j = J 223 j) ∧ (∀ a, a ≠ 225 → a ≠ 226 → K' a = K a) ∧ (∀ j, j < 16 → K' 225 j = K 225 j)
def BsR (I J : Nat → Nat → Int32) (L K : Nat → Nat → Int64) (h nr n nh M : Nat) (rm pi : Nat → Nat) : Prop := HsR I J h 219 nr n rm pi ∧ FlR J 219 ∧ SeR I 132 (J 223) n nh ∧ StR I L 139 (J 220) (J 223) (K 225) nr n M
theorem wk_loop (d e : Nat) (want : Int32) (lB : LayB G hs bl bs cl cs) (lP : LayP G 156 h 171 178 192) (lH : LayH G h) (lS : LayS G 171) (lT : LayT G 178) (lU : LayU G 192) (lM : LayM G2 219) (h1 : h + 14 ≤ 171) : ∀ (j i : Nat), j + i = 25 → ∀ (I J : Nat → Nat → Int32) (L K : Nat → Nat → Int64) (M : Nat), HsR I J h 219 nr n rm pi → CoR I J 171 178 192 219 nr n mm nh (fun k => k) rm M → M + 10 * j < 2147480000 → ¬ J 219 24 = 0 → ∃ v nn I' L' J' K', f_X11_minutesToWake (d + 5) 42 [.ref 100, mU, .int want, .int (Int32.ofNat (10 * i))] [] (G, I, L) = some (.inl (some (.int v)), (G, I', L')) ∧ f_X12_wakeOf (e + 6) 21 [.ref 219, mU, .int want, .int (Int32.ofNat (10 * i)), mU] [] (G2, J, K) = f_X12_wakeOf (e + 6) 50 [.ref 219, mU, mU, .int (Int32.ofNat nn), mU] [] (G2, J', K') ∧ v = (if nn ≤ 240 then Int32.ofNat nn else -1) ∧ nn ≤ 250 ∧ FrC I I' L L' 178 ∧ FrM J J' K K' 219 := by
  intro j
  induction j with
  | zero =>
    intro i hi I J L K M hH hC hM ht
    have e : i = 25 := by omega
    refine ⟨-1, 250, I, L, J, K, ?_, ?_, by rw [if_neg (by decide)], by decide, ⟨fun _ _ => rfl, fun _ _ => rfl⟩, ⟨fun _ _ _ => rfl, fun _ _ => rfl⟩⟩
    · rw [e, e_X11_minutesToWake_42, if_pos (by decide), e_X11_minutesToWake_78]
    · rw [e, e_X12_wakeOf_21, if_pos (by decide)]
  | succ j ih =>
    intro i hi I J L K M hH hC hM ht
    have c240 : ¬ (240 : Int32) < Int32.ofNat (10 * i) := fun q => by have := (i_lt (a := 240) (by decide) (by omega)).mp q; omega
    have hn8 := hH.1.2.2.2.2.2
    have hnr8 := hH.1.2.2.1
    obtain ⟨b, b1, b2⟩ := c_isWarm (d + 4) (G := G) (I := I) (L := L) (rm := rm) want lP lH lT hH.1.2.2.2.1 hn8 (fun k hk => ⟨(hH.2.2.2.2.2.1 k hk).1, by have := (hH.2.2.2.2.2.1 k hk).2.2; omega⟩)
    obtain ⟨b', b1', b2'⟩ := r_areWarm (e + 4) (G2 := G2) (J := J) (K := K) (rm := rm) want lM hH.1.2.2.2.2.1 hn8 (fun k hk => ⟨(hH.2.2.2.2.2.1 k hk).2.1, by have := (hH.2.2.2.2.2.1 k hk).2.2; omega⟩)
    have wm : wmn I 178 want rm n ↔ ∀ k, k < n → want ≤ J 223 (rm k) := by
      unfold wmn
      constructor
      · intro p k hk
        have := p k hk
        rw [(hC.2.1 (rm k) (hH.2.2.2.2.2.1 k hk).2.2).1] at this
        exact this
      · intro p k hk
        rw [(hC.2.1 (rm k) (hH.2.2.2.2.2.1 k hk).2.2).1]
        exact p k hk
    by_cases c : wmn I 178 want rm n
    · have e1 : b = 1 := by rcases b2 with ⟨p, -⟩ | ⟨-, p⟩; exact p; exact absurd c p
      have e2 : b' = 1 := by rcases b2' with ⟨p, -⟩ | ⟨-, p⟩; exact p; exact absurd (wm.mp c) p
      rw [e1] at b1
      rw [e2] at b1'
      have z1 : ¬ (1 : Int32) = 0 := by decide
      refine ⟨Int32.ofNat (10 * i), 10 * i, I, L, J, K, ?_, ?_, by rw [if_pos (by omega)], by omega, ⟨fun _ _ => rfl, fun _ _ => rfl⟩, ⟨fun _ _ _ => rfl, fun _ _ => rfl⟩⟩
      · rw [e_X11_minutesToWake_42, if_neg c240]
        simp only [↓vB lB, ↓vP lP, ↓mcI_of b1, if_neg z1]
      · rw [e_X12_wakeOf_21, if_neg c240]
        simp only [↓vM lM, ↓mcI_of b1', if_neg z1]
    · have e1 : b = 0 := by rcases b2 with ⟨-, p⟩ | ⟨p, -⟩; exact absurd p c; exact p
      have e2 : b' = 0 := by rcases b2' with ⟨-, p⟩ | ⟨p, -⟩; exact absurd (wm.mpr p) c; exact p
      rw [e1] at b1
      rw [e2] at b1'
      obtain ⟨v0, I1, L1, J1, K1, r1, r2, r3, r4, r5, r6⟩ := run_t (d := d) (e := e) (L := L) (K := K) lP lH lS lT lU lM h1 (by decide) (by decide) hH hC 10 (by omega) ht
      obtain ⟨v, nn, I2, L2, J2, K2, q1, q2, q3, q4, q5, q6⟩ := ih (i + 1) (by omega) I1 J1 L1 K1 (M + 10) r3 r4 (by omega) (by rw [r6.1 219 (by decide) (by decide)]; exact ht)
      have a10 : Int32.ofNat (10 * i) + 10 = Int32.ofNat (10 * (i + 1)) := by
        have : Int32.ofNat (10 * i) + 10 = Int32.ofNat (10 * i + 10) := i_add (10 * i) 10
        rw [this, Nat.mul_succ]
      have r1' : mcal mT (d + 5) 55 [.ref 156, .int 10] (G, I, L) = some (.inl (some (.int v0)), (G, I1, L1)) := r1
      have r2' : mcal mT (e + 6) 227 [.ref 219, .int 10] (G2, J, K) = some (.inl (some (.int v0)), (G2, J1, K1)) := r2
      refine ⟨v, nn, I2, L2, J2, K2, ?_, ?_, q3, q4, ⟨fun a ha => (q5.1 a ha).trans (r5.1 a ha), fun a ha => (q5.2 a ha).trans (r5.2 a ha)⟩, ⟨fun a ha hb => (q6.1 a ha hb).trans (r6.1 a ha hb), fun a ha => (q6.2 a ha).trans (r6.2 a ha)⟩⟩
      · rw [e_X11_minutesToWake_42, if_neg c240]
        simp only [↓vB lB, ↓vP lP, ↓mcI_of b1, if_true, e_X11_minutesToWake_62, ↓mcI_of r1', a10]
        exact q1
      · rw [e_X12_wakeOf_21, if_neg c240]
        simp only [↓vM lM, ↓mcI_of b1', if_true, ↓mcI_of r2', a10]
        exact q2
theorem wk_pair (d e : Nat) (out want : Int32) (q : LyR G h hs bl bs cl cs kc mk) (lM : LayM G2 219) (hB : BsR I J L K h nr n nh M rm pi) (hM : M < 2147470000) : ∃ v I' L' J' K', mcal mT (d + 6) 144 [.ref 100, .int out, .int want] (G, I, L) = some (.inl (some (.int v)), (gS G 156 0 (some h), I', L')) ∧ mcal mT (e + 7) 257 [.ref 219, .int out, .int want] (G2, J, K) = some (.inl (some (.int v)), (G2, J', K')) ∧ QuC I I' L L' ∧ QuR J J' K K' := by
  obtain ⟨hH, hF, hS, hT⟩ := hB
  have hn8 := hH.1.2.2.2.2.2
  have hnr8 := hH.1.2.2.1
  obtain ⟨q2, p2⟩ := LyR_T q h
  have hh := q.2.2.2.2.2.2.2.2.2.2.2.2.2.2.1
  obtain ⟨lB2, -, lP2, -, ⟨lH1, lH2⟩, ⟨lS, lS2⟩, ⟨lT, lT2⟩, ⟨lU, lU2⟩, -⟩ := id q2
  have lH : LayH (gS G 156 0 (some h)) h := by
    rcases hh with ⟨a, -⟩ | ⟨a, -⟩
    · rw [a] at lH1 ⊢; exact lH1
    · rw [a] at lH2 ⊢; exact lH2
  have tn := c_tryNow (d + 3) (I := I) (L := L) q
  obtain ⟨-, -, -, -, -, kk, nn', -⟩ := uS lS2
  have fl := c_fillI (d + 4) (G := gS G 156 0 (some h)) (I := tNw I h) (L := cpr L (139 + 9) (178 + 9) 8) (a := 171 + 2) (n := 24) out kk nn' (by decide)
  generalize hX : va_up (tNw I h) (171 + 2) (pre 24 (fun _ => out) (tNw I h (171 + 2))) = X at fl
  have xo : ∀ a, a ≠ 173 → X a = tNw I h a := fun a ha => by rw [← hX, up_ne ha]
  have x3 : ∀ k, k < 24 → X 173 k = out := fun k hk => by rw [← hX, up_eq, pre_lt hk]
  generalize hI2 : va_up X 171 (va_up (va_up (X 171) 5 0) 6 0) = I2
  have io : ∀ a, a ≠ 171 → a ≠ 173 → I2 a = tNw I h a := fun a h1 h2 => by rw [← hI2, up_ne h1, xo a h2]
  have tf : ∀ a, ¬ (171 ≤ a ∧ a < 195) → tNw I h a = I a := by
    intro a ha
    unfold tNw
    rw [tpB_fr (by omega), cpT_fr (by omega), cpS_fr (by omega)]
  have ts : ∀ a, 171 ≤ a → a < 178 → tNw I h a = cpS I 171 132 a := by
    intro a h1 h2
    unfold tNw
    rw [tpB_fr (by omega), cpT_fr (by omega)]
  have tt : ∀ a, 178 ≤ a → a < 192 → tNw I h a = cpT (cpS I 171 132) 178 139 a := by
    intro a h1 h2
    unfold tNw
    rw [tpB_fr (by omega)]
  obtain ⟨r1, r2, r3, r4, r5, r6⟩ := cpS_r (I := I) (s := 171) (o := 132) (by decide)
  obtain ⟨f3, f4, f5, f6, f10⟩ := cpS_f (I := I) (s := 171) (o := 132) (by decide)
  obtain ⟨y1, -, -, -, -, -, y7, -⟩ := cpT_r (I := cpS I 171 132) (t := 178) (o := 139) (by decide)
  obtain ⟨z0, z1', z2, -⟩ := cpT_f (I := cpS I 171 132) (t := 178) (o := 139) (by decide)
  obtain ⟨u1, u2, u3⟩ := tpB_r (I := cpT (cpS I 171 132) 178 139) (u := 192) (h := h) (by omega)
  have hh9 : ∀ a, a < 171 → cpT (cpS I 171 132) 178 139 a = I a := fun a ha => by rw [cpT_fr (by omega), cpS_fr (by omega)]
  have cS : ∀ a, a < 171 → cpS I 171 132 a = I a := fun a ha => cpS_fr (by omega)
  have kp := r_keep (e + 5) (G := G2) (J := J) (K := K) lM
  generalize hJ2 : va_up (rKp J) 219 (va_up (va_up (va_up (rKp J 219) 20 1) 17 out) 21 1) = J2
  have jo : ∀ a, a ≠ 219 → a ≠ 224 → J2 a = J a := fun a h1 h2 => by
    rw [← hJ2, up_ne h1]
    unfold rKp
    rw [up_ne h2, up_ne h1]
  have j9 : ∀ k, k ≠ 20 → k ≠ 17 → k ≠ 21 → k ≠ 24 → J2 219 k = J 219 k := fun k a b c d' => by
    rw [← hJ2, up_eq, up_ne c, up_ne b, up_ne a]
    unfold rKp
    rw [up_ne (by decide), up_eq, up_ne d']
  have j20 : J2 219 20 = 1 := by rw [← hJ2, up_eq, up_ne (by decide), up_ne (by decide), up_eq]
  have j17 : J2 219 17 = out := by rw [← hJ2, up_eq, up_ne (by decide), up_eq]
  have j21 : J2 219 21 = 1 := by rw [← hJ2, up_eq, up_eq]
  have j24 : J2 219 24 = 1 := by
    rw [← hJ2, up_eq, up_ne (by decide), up_ne (by decide), up_ne (by decide)]
    unfold rKp
    rw [up_ne (by decide), up_eq, up_eq]
  have j224 : J2 224 = pre 173 (J 223) (J 224) := by
    rw [← hJ2, up_ne (by decide)]
    unfold rKp
    rw [up_eq]
  have hH2 : HsR I2 J2 h 219 nr n rm pi := HsR_c (fun a h1 h2 => by rw [io a (by omega) (by omega), tf a (by omega)]) (jo 220 (by decide) (by decide)) hH
  have hHI : HsR I J2 h 219 nr n rm pi := HsR_c (fun _ _ _ => rfl) (jo 220 (by decide) (by decide)) hH
  have cor : CoR I2 J2 171 178 192 219 nr n 0 nh (fun k => k) rm M := by
    refine now_cor (I := I) (L := L) (lv := K 225) hHI (by rw [jo 223 (by decide) (by decide)]; exact hS) (by rw [jo 220 (by decide) (by decide), jo 223 (by decide) (by decide)]; exact hT) (by rw [j9 15 (by decide) (by decide) (by decide) (by decide)]; exact hF.1) (by rw [j9 16 (by decide) (by decide) (by decide) (by decide)]; exact hF.2.1) ?_ ?_ ?_ ?_ ?_ ?_ ?_ ?_ ?_ ?_
    · intro k hk; rw [io 172 (by decide) (by decide), ts 172 (by decide) (by decide), r1, pre_lt hk]
    · intro k hk; rw [io 174 (by decide) (by decide), ts 174 (by decide) (by decide), r3, pre_lt hk]
    · rw [← hI2, up_eq, up_ne (by decide), up_ne (by decide), xo 171 (by decide), ts 171 (by decide) (by decide), f10]
    · rw [io 178 (by decide) (by decide), tt 178 (by decide) (by decide), z0, z1', z2, cS 139 (by decide)]
      exact ⟨rfl, rfl, rfl⟩
    · intro k hk; rw [io 179 (by decide) (by decide), tt 179 (by decide) (by decide), y1, pre_lt hk, cS _ (by decide)]
    · intro k hk; rw [io 185 (by decide) (by decide), tt 185 (by decide) (by decide), y7, pre_lt hk, cS _ (by decide)]
    · refine ⟨by rw [io 192 (by decide) (by decide)]; exact u3, fun k hk => ?_⟩
      rw [io 193 (by decide) (by decide)]
      show tpB (cpT (cpS I 171 132) 178 139) 192 h (192 + 1) k = _
      rw [u1, pre_lt hk, hh9 _ (by omega)]
    · intro hr h24
      rw [← hI2, up_ne (by decide), x3 hr h24]
      unfold rou
      rw [j20, j17, if_neg (by decide)]
    · refine ⟨by rw [← hI2, up_eq, up_eq]; rfl, by decide, fun x => ?_⟩
      unfold rof
      rw [j21, if_neg (show ¬ (1 : Int32) = 0 by decide)]
      show (if ngt I2 171 (hou x) = 0 then 0 else I2 171 5) = 0
      rw [← hI2, up_eq, up_ne (by decide), up_eq, ite_self]
    · intro k hk
      have q18 : ¬ J2 219 18 = Int32.ofNat k := by
        rw [j9 18 (by decide) (by decide) (by decide) (by decide), hF.2.2.1]
        intro p
        exact nm1 (p := k) (by omega) p.symm
      rw [if_neg q18, Int32.add_zero, io 194 (by decide) (by decide), jo 220 (by decide) (by decide)]
      show tpB (cpT (cpS I 171 132) 178 139) 192 h (192 + 2) k = _
      rw [u2, pre_lt (by omega), hh9 _ (by omega)]
      exact (hH.2.2.2.2.2.2.2.1 k hk).2.2.2
  obtain ⟨v, nn, I3, L3, J3, K3, p1, p2', p3, p4, p5, p6⟩ := wk_loop (nr := nr) (n := n) (pi := pi) d e want lB2 p2 lH lS2 lT2 lU2 lM (by omega) 25 0 (by omega) I2 J2 (cpr L (139 + 9) (178 + 9) 8) (va_up K 226 (pre 16 (K 225) (K 226))) M hH2 cor (by omega) (by rw [j24]; decide)
  have g3 : ∀ a, a ≠ 223 → a ≠ 227 → J3 a = J2 a := p6.1
  have en := r_ends (e + 4) (G := G2) (J := va_up J3 219 (va_up (va_up (J3 219) 20 0) 21 0)) (K := K3) lM
  generalize hJ4 : va_up (va_up (va_up J3 219 (va_up (va_up (J3 219) 20 0) 21 0)) 223 (pre 173 (va_up J3 219 (va_up (va_up (J3 219) 20 0) 21 0) 224) (va_up J3 219 (va_up (va_up (J3 219) 20 0) 21 0) 223))) 219 (va_up (va_up J3 219 (va_up (va_up (J3 219) 20 0) 21 0) 219) 24 0) = J4 at en
  refine ⟨v, I3, L3, J4, va_up K3 225 (pre 16 (K3 226) (K3 225)), ?_, ?_, ⟨fun a ha => ?_, fun a ha => ?_⟩, ⟨fun a h1 h2 h3 h4 h5 => ?_, fun k h1 h2 _ _ _ => ?_, fun j hj => ?_, fun a h1 h2 => ?_, fun j hj => ?_⟩⟩
  · rw [q_X11_minutesToWake_, e_X11_minutesToWake_0]
    have lB := q.1
    simp (disch := omega) only [↓vB lB, ↓mcV_of tn, ↓vB lB2, ↓vP p2, ↓vS lS2, ↓mcV_of fl, up2_e, up_eq, up_up]
    rw [hI2]
    exact p1
  · rw [q_X12_wakeOf_, e_X12_wakeOf_0]
    simp (disch := omega) only [↓vM lM, ↓mcV_of kp, mb1, up2_e, up_eq, up_up]
    rw [hJ2]
    refine Eq.trans p2' ?_
    rw [e_X12_wakeOf_50]
    simp (disch := omega) only [↓vM lM, mb0, up2_e, up_eq, up_up, ↓mcV_of en]
    by_cases c : nn ≤ 240
    · rw [if_pos (show Int32.ofNat nn ≤ 240 from (i_le (b := 240) (by omega) (by decide)).mpr c), e_X12_wakeOf_75, e_X12_wakeOf_76, p3, if_pos c]
    · rw [if_neg (show ¬ Int32.ofNat nn ≤ 240 from fun q => c ((i_le (b := 240) (by omega) (by decide)).mp q)), e_X12_wakeOf_76, p3, if_neg c]
  · rw [p5.1 a (by omega), io a (by omega) (by omega), tf a ha]
  · rw [p5.2 a (by omega), cpr_ne ha]
  · rw [← hJ4, up_ne h1, up_ne h2, up_ne h1, g3 a h2 h4, jo a h1 h3]
  · rw [← hJ4, up_eq]
    by_cases c : k = 24
    · rw [c, up_eq]; exact hF.2.2.2.2.2.symm
    · rw [up_ne c, up_eq]
      by_cases c2 : k = 21
      · rw [c2, up_eq]; exact hF.2.2.2.2.1.symm
      · rw [up_ne c2]
        by_cases c3 : k = 20
        · rw [c3, up_eq]; exact hF.2.2.2.1.symm
        · rw [up_ne c3, g3 219 (by decide) (by decide), j9 k c3 h1 c2 c]
  · rw [← hJ4, up_ne (by decide), up_eq, pre_lt hj, up_ne (by decide), g3 224 (by decide) (by decide), j224, pre_lt hj]
  · rw [up_ne h1, p6.2 a h1, up_ne h2]
  · rw [up_eq, pre_lt hj, p6.2 226 (by decide), up_eq, pre_lt hj]
end
