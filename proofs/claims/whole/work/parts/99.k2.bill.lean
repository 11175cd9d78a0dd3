/-! calls: part, pays -/
theorem l_of {n : Nat} (h : n < 9223372036854775808) : (Int64.ofNat n).toInt = (n : Int) := Int64.toInt_ofNat_of_lt (by omega)
theorem l_add (a b : Nat) : Int64.ofNat a + Int64.ofNat b = Int64.ofNat (a + b) := (Int64.ofNat_add a b).symm
theorem l_mul (a b : Nat) : Int64.ofNat a * Int64.ofNat b = Int64.ofNat (a * b) := (Int64.ofNat_mul a b).symm
theorem l_div {a b : Nat} (ha : a < 9223372036854775808) (hb : b < 9223372036854775808) : Int64.ofNat a / Int64.ofNat b = Int64.ofNat (a / b) := by
  have hq : a / b < 9223372036854775808 := Nat.lt_of_le_of_lt (Nat.div_le_self a b) ha
  apply Int64.toInt_inj.mp
  rw [Int64.toInt_div, l_of ha, l_of hb, l_of hq, ← Int.ofNat_tdiv, Int.bmod_def]
  generalize a / b = q at hq
  split <;> omega
theorem l_sub {a b : Nat} (h : b ≤ a) (ha : a < 9223372036854775808) : Int64.ofNat a - Int64.ofNat b = Int64.ofNat (a - b) := by
  apply Int64.toInt_inj.mp
  rw [Int64.toInt_sub, l_of ha, l_of (by omega), l_of (by omega), Int.bmod_def]
  split <;> omega
theorem l_rem {a b : Nat} (ha : a < 9223372036854775808) (hb : b < 9223372036854775808) : Int64.ofNat a - Int64.ofNat a / Int64.ofNat b * Int64.ofNat b = Int64.ofNat (a % b) := by
  have hl : a / b * b ≤ a := Nat.div_mul_le_self a b
  rw [l_div ha hb, l_mul, l_sub hl ha]
  congr 1
  have := Nat.div_add_mod a b
  rw [Nat.mul_comm] at this
  omega
theorem l_t {a : Nat} (h : a < 2147483648) : Int32.toInt64 (Int32.ofNat a) = Int64.ofNat a := by
  apply l_inj
  rw [t64, i_of h, l_of (by omega)]
theorem l_32 {a : Nat} (h : a < 2147483648) : Int64.toInt32 (Int64.ofNat a) = Int32.ofNat a := by
  apply i_inj
  have e := l_of (n := a) (by omega)
  rw [s_32 (by rw [e]; omega) (by rw [e]; omega), e, i_of h]
theorem l_lt {a b : Nat} (ha : a < 9223372036854775808) (hb : b < 9223372036854775808) : (Int64.ofNat a < Int64.ofNat b) ↔ a < b := by
  rw [Int64.lt_iff_toInt_lt, l_of ha, l_of hb]
  omega
theorem l_le {a b : Nat} (ha : a < 9223372036854775808) (hb : b < 9223372036854775808) : (Int64.ofNat a ≤ Int64.ofNat b) ↔ a ≤ b := by
  rw [Int64.le_iff_toInt_le, l_of ha, l_of hb]
  omega
theorem l_eq {a b : Nat} (ha : a < 9223372036854775808) (hb : b < 9223372036854775808) : (Int64.ofNat a = Int64.ofNat b) ↔ a = b := by
  constructor
  · intro h
    have := congrArg Int64.toInt h
    rw [l_of ha, l_of hb] at this
    omega
  · exact congrArg _
/-- sums of numbers -/
def sN (f : Nat → Nat) : Nat → Nat
  | 0 => 0
  | k + 1 => sN f k + f k
theorem sN_mul {f : Nat → Nat} {b : Nat} : ∀ n, sN (fun k => b * f k) n = b * sN f n := by
  intro n
  induction n with
  | zero => rfl
  | succ n ih =>
    show sN (fun k => b * f k) n + b * f n = b * (sN f n + f n)
    rw [ih, Nat.mul_add]
theorem sN_qr {f : Nat → Nat} {a : Nat} : ∀ n, sN f n = a * sN (fun k => f k / a) n + sN (fun k => f k % a) n := by
  intro n
  induction n with
  | zero => rfl
  | succ n ih =>
    show sN f n + f n = a * (sN (fun k => f k / a) n + f n / a) + (sN (fun k => f k % a) n + f n % a)
    have := Nat.div_add_mod (f n) a
    rw [Nat.mul_add]
    omega
theorem sN_le {f : Nat → Nat} {b : Nat} : ∀ n, (∀ k, k < n → f k ≤ b) → sN f n ≤ b * n := by
  intro n
  induction n with
  | zero => intro _; exact Nat.zero_le _
  | succ n ih =>
    intro h
    have a := ih (fun k hk => h k (by omega))
    have c := h n (by omega)
    show sN f n + f n ≤ b * (n + 1)
    rw [Nat.mul_add]
    omega
theorem sN_m {f : Nat → Nat} {k n : Nat} (h : k ≤ n) : sN f k ≤ sN f n := by
  induction n with
  | zero => rw [show k = 0 by omega]; exact Nat.le_refl _
  | succ n ih =>
    by_cases c : k = n + 1
    · rw [c]; exact Nat.le_refl _
    · exact Nat.le_trans (ih (by omega)) (Nat.le_add_right _ _)
def QuQ (J J' : Nat → Nat → Int32) : Prop := ∀ a, a ≠ 239 → J' a = J a
section
variable {z h hs bl bs cl cs nr n nh M hN w lc mc kc ta : Nat} {rm pi mk : Nat → Nat} {G : mG} {I : Nat → Nat → Int32} {L : Nat → Nat → Int64}
/-- every radiator's part, to class and reference -/
theorem pt_E (d e : Nat) (q : Rel z h hs bl bs cl cs nr n nh M hN w lc mc kc ta rm pi mk G I L) (hn0 : 0 < n) : ∃ P : Nat → Nat, (∀ k, k < n → P k ≤ 1000000) ∧ (∀ k, k < n → ∀ Ix, QuP bl I Ix → ∃ I', mcal mT (d + 4) 154 [.ref 100, .int (Int32.ofNat k), .int (sm n (fun k => shw (I 151 k) (I 215 k)))] (G, Ix, L) = some (.inl (some (.int (Int32.ofNat (P k)))), (G, I', L)) ∧ QuP bl I I' ∧ I' 216 = Ix 216) ∧ (∀ J K, J 219 36 = I 219 36 → J 220 = I 220 → J 230 = I 230 → J 235 = I 235 → J 236 = I 236 → K 225 = L 225 → ∀ k, k < n → ∀ Jx, QuQ J Jx → ∃ J', mcal mT (e + 3) 266 [.ref 219, .int (Int32.ofNat k)] (G, Jx, K) = some (.inl (some (.int (Int32.ofNat (P k)))), (G, J', K)) ∧ QuQ J J') := by
  obtain ⟨lB, lX, lP, -, ⟨lH1, lH2⟩, ⟨lS, -⟩, ⟨lT, -⟩, ⟨lU, -⟩, lD, -, -, lM, ⟨o1, o2⟩, -, hh, -⟩ := id q.1
  have ho := q.2.1
  obtain ⟨s1, s2, s3, s4, s5, s6⟩ := ho_sz ho
  have lH : LayH G h := by
    rcases hh with ⟨a, -⟩ | ⟨a, -⟩
    · rw [a]; exact lH1
    · rw [a]; exact lH2
  have hb : 103 ≤ h ∧ h + 14 ≤ 132 := by omega
  obtain ⟨-, -, ⟨hF, hHN⟩, hS, ⟨hT, hMz⟩, hU, hD, hTp, hEg, hLg, -, -, -, -⟩ := id q
  have z1 : ¬ (1 : Int32) = 0 := by decide
  have I00 : (va_up I 219 (va_up (I 219) 0 0)) 219 0 = 0 := by rw [up_eq, up_eq]
  have I01 : (va_up I 219 (va_up (I 219) 0 0)) 220 = I 220 := up_ne (by decide)
  have hBi : BiR I bl := q.2.2.2.2.2.2.2.2.2.2.1
  obtain ⟨c, W, b1, b2, b3, b4, b5, b6⟩ := hBi
  obtain ⟨-, -, -, -, -, -, -, -, -, ⟨lW1, lW2⟩, -, -, -, -, -, hbl, -⟩ := id q.1
  have lW : LayW G 1 bl := by
    rcases hbl with ⟨a, -⟩ | ⟨a, -⟩
    · rw [a]; exact lW1
    · rw [a]; exact lW2
  have hbl9 : 199 ≤ bl ∧ bl + 4 ≤ 207 := by omega
  have hHs : HsR I I h 219 nr n rm pi := by
    rcases ho with ⟨-, a, -⟩ | ⟨-, b, -⟩
    · omega
    · exact b
  have h8 := hHs.2.2.2.2.2.2.2.1
  have t8 := hT.2.2.2.2.2.2.2.1
  have hE := hEg.1
  have hpos : ∀ j, j < c → 0 ≤ I 236 j := fun j hj => by
    have := (b4 j hj).2.2.1.1
    rw [Int32.le_iff_toInt_le]
    exact this
  generalize hV : (fun k => clp (if c = 0 then 0 else ev W (fun j => if W j = 0 then I 236 j else nmv (fun k => shw (I 151 k) (I 215 k)) n k (I (h + 11) k) (I (h + 13) k) (W j)) c 0)) = V
  have hVk : ∀ k, V k = clp (if c = 0 then 0 else ev W (fun j => if W j = 0 then I 236 j else nmv (fun k => shw (I 151 k) (I 215 k)) n k (I (h + 11) k) (I (h + 13) k) (W j)) c 0) := fun k => by rw [← hV]
  have hP : ∀ k, ∃ j, j ≤ 1000000 ∧ V k = Int32.ofNat j := fun k => by
    obtain ⟨j, j1, j2⟩ := rng_n (x := V k) (b := 1000000) (by rw [hVk]; exact clp_b _)
    exact ⟨j, by omega, j2⟩
  refine ⟨fun k => Classical.choose (hP k), fun k _ => (Classical.choose_spec (hP k)).1, fun k hk Ix qp => ?_, fun J K j36 j220 j230 j235 j236 k225 k hk Jx qq => ?_⟩
  · rw [← (Classical.choose_spec (hP k)).2, hVk k]
    have o : ∀ a, a ≠ bl → a ≠ bl + 1 → a ≠ bl + 3 → a ≠ 216 → Ix a = I a := qp.1
    obtain ⟨I', p1, p2, p3⟩ := c_partOf d (G := G) (I := Ix) (L := L) (n := n) (k := k) (c := c) (W := W) (N := I 236) (sh := fun k => shw (I 151 k) (I 215 k)) lB lP lH lT lW hb hbl9 (by rw [o h (by omega) (by omega) (by omega) (by omega)]; exact s4) hk s6 (fun k hk => by rw [o 151 (by omega) (by omega) (by omega) (by omega), o 215 (by omega) (by omega) (by omega) (by omega)]) (by rw [qp.2]; exact b1) b3 (fun j hj => by
      rw [o (bl + 2) (by omega) (by omega) (by omega) (by omega)]
      exact ⟨(b4 j hj).2.1, hpos j hj, (b4 j hj).2.2.2⟩) b5 b6
    rw [o (h + 11) (by omega) (by omega) (by omega) (by omega), o (h + 13) (by omega) (by omega) (by omega) (by omega)] at p1
    exact ⟨I', p1, QuP_t qp p2, p3⟩
  · rw [← (Classical.choose_spec (hP k)).2, hVk k]
    have sh : ∀ T i, i < n → mcal mT (e + 1) 235 [.ref 219, .int (Int32.ofNat i)] (G, va_up Jx 239 T, K) = some (.inl (some (.int (shw (I 151 i) (I 215 i)))), (G, va_up Jx 239 T, K)) := fun T i hi => r_shw e lM (by omega) (by rw [k225]; exact (t8 i hi).1.symm) (by rw [up_ne (by decide), qq 230 (by decide), j230]; exact (hE i (by omega)).1.symm)
    obtain ⟨T, p1⟩ := r_partOf e (G := G) (J := Jx) (K := K) (k := k) (c := c) (W := W) (N := I 236) (NM := nmv (fun k => shw (I 151 k) (I 215 k)) n k (I (h + 11) k) (I (h + 13) k)) lM (by rw [qq 219 (by decide), j36]; exact b2) b3 (fun j hj => by
      rw [qq 235 (by decide), j235, qq 236 (by decide), j236]
      exact ⟨(b4 j hj).2.1, (b4 j hj).1, rfl⟩) b5 b6 (fun T w h1 h5 => by
      have := r_nameOf e (G := G) (J := va_up Jx 239 T) (K := K) (n := n) (k := k) (w := w) (sh := fun k => shw (I 151 k) (I 215 k)) lM (by rw [up_ne (by decide), qq 220 (by decide), j220]; exact s5) s6 hk (fun i hi => sh T i hi) h1 h5
      rw [up_ne (show (220 : Nat) ≠ 239 by decide), qq 220 (by decide), j220] at this
      have e1 : I (h + 11) k = I 220 (136 + k) := (h8 k hk).1
      have e2 : I (h + 13) k = I 220 (152 + k) := (h8 k hk).2.2.2
      rw [e1, e2]
      exact this)
    exact ⟨_, p1, fun a ha => by rw [up_ne ha]; exact qq a ha⟩
theorem Qui_P {I1 J' : Nat → Nat → Int32} {L' : Nat → Nat → Int64} (hbl : bl = 199 ∨ bl = 203) (qp : QuP bl I I1) (h1 : ∀ a, a ≠ 219 → a ≠ 239 → J' a = I1 a) (h2 : ∀ k, k ≠ 0 → J' 219 k = I1 219 k) (h3 : ∀ a, a ≠ 251 → L' a = L a) : Qui I J' L L' := by
  have o : ∀ a, a ≠ 219 → a ≠ 239 → a ≠ bl → a ≠ bl + 1 → a ≠ bl + 3 → a ≠ 216 → J' a = I a := fun a x1 x2 x3 x4 x5 x6 => by rw [h1 a x1 x2, qp.1 a x3 x4 x5 x6]
  refine ⟨fun a ha => ?_, fun k k0 _ _ _ _ _ => ?_, fun j hj => ?_, ?_, fun a x1 _ _ _ => h3 a x1, fun j hj => by rw [h3 225 (by decide)]⟩
  · unfold Scr at ha
    exact o a (by omega) (by omega) (by omega) (by omega) (by omega) (by omega)
  · rw [h2 k k0, qp.1 219 (by omega) (by omega) (by omega) (by omega)]
  · rw [o 223 (by decide) (by decide) (by omega) (by omega) (by omega) (by decide)]
  · have p2 := qp.2
    have o8 := o 208 (by decide) (by decide) (by omega) (by omega) (by omega) (by decide)
    have o12 := o 212 (by decide) (by decide) (by omega) (by omega) (by omega) (by decide)
    rw [o8, o12]
    rcases hbl with rfl | rfl
    · have a1 : J' 200 1 = I 200 1 := by rw [h1 200 (by decide) (by decide)]; exact p2
      have a2 := o 204 (by decide) (by decide) (by decide) (by decide) (by decide) (by decide)
      rw [a1, a2]
      exact ⟨rfl, rfl, rfl, rfl⟩
    · have a1 : J' 204 1 = I 204 1 := by rw [h1 204 (by decide) (by decide)]; exact p2
      have a2 := o 200 (by decide) (by decide) (by decide) (by decide) (by decide) (by decide)
      rw [a1, a2]
      exact ⟨rfl, rfl, rfl, rfl⟩
/-- the end of such a call -/
theorem pt_fin {d W R : Nat} {args : List Value} {r : Int32} {I1 J' : Nat → Nat → Int32} (q : Rel z h hs bl bs cl cs nr n nh M hN w lc mc kc ta rm pi mk G I L) (g1 : G.1 ≤ 252 + z + 25 * kc) (g2 : G.2.1 ≤ 60000 + 6 * z + 4000 * kc) (hz : z + 1 ≤ 512) (p2 : QuP bl I I1) (hw : gK G 251 = 21 → gN G 251 = 1 → mcal mT d W (.ref 100 :: (args ++ [.ref 251])) (G, I, L) = some (.inl (some (.int 0)), (G, I1, up2 L 251 0 (Int32.toInt64 r)))) (hr : mcal mT d R (.ref 219 :: args) (G, I1, up2 L 251 0 (Int32.toInt64 r)) = some (.inl (some (.int r)), (G, J', up2 L 251 0 (Int32.toInt64 r)))) (t4 : QuQ (va_up I1 219 (va_up (I1 219) 0 0)) J') : Ste d W R args (z + 1) G I L := by
  obtain ⟨-, -, -, -, -, -, -, -, -, -, -, -, ⟨o1, o2⟩, -, -, hbl, -⟩ := id q.1
  have hbl' : bl = 199 ∨ bl = 203 := by omega
  have qq : Qui I J' L (up2 L 251 0 (Int32.toInt64 r)) := Qui_P hbl' p2 (fun a x1 x2 => by rw [t4 a x2, up_ne x1]) (fun k hk => by rw [t4 219 (by decide), up_eq, up_ne hk]) (fun a ha => by rw [up2_e, up_ne ha])
  refine ⟨0, r, G, I1, _, J', _, hw o1 o2, p2.1 0 (by omega) (by omega) (by omega) (by decide), rfl, hr, ?_, ?_, fun _ => ?_, h, hs, bl, bs, cl, cs, nr, n, nh, M, hN, w, lc, mc, kc, ta, rm, pi, mk, Rel_q q q.1 (Nat.le_succ z) hz qq, by omega, by omega⟩
  · rw [qq.1 0 (by unfold Scr; omega)]
  · rw [t4 219 (by decide), up_eq, up_eq]
  · rw [up2_e, up_eq, up_eq]
theorem ca_part (d : Nat) (q : Rel z h hs bl bs cl cs nr n nh M hN w lc mc kc ta rm pi mk G I L) (g1 : G.1 ≤ 252 + z + 25 * kc) (g2 : G.2.1 ≤ 60000 + 6 * z + 4000 * kc) (hz : z + 1 ≤ 512) (x : Int32) : Ste (d + 10) 316 267 [.int x] (z + 1) G I L := by
  obtain ⟨lB, lX, lP, -, ⟨lH1, lH2⟩, ⟨lS, -⟩, ⟨lT, -⟩, ⟨lU, -⟩, lD, -, -, lM, ⟨o1, o2⟩, -, hh, -⟩ := id q.1
  have ho := q.2.1
  obtain ⟨s1, s2, s3, s4, s5, s6⟩ := ho_sz ho
  have lH : LayH G h := by
    rcases hh with ⟨a, -⟩ | ⟨a, -⟩
    · rw [a]; exact lH1
    · rw [a]; exact lH2
  have hb : 103 ≤ h ∧ h + 14 ≤ 132 := by omega
  obtain ⟨-, -, ⟨hF, hHN⟩, hS, ⟨hT, hMz⟩, hU, hD, hTp, hEg, hLg, -, -, -, -⟩ := id q
  have z1 : ¬ (1 : Int32) = 0 := by decide
  have I00 : (va_up I 219 (va_up (I 219) 0 0)) 219 0 = 0 := by rw [up_eq, up_eq]
  have I01 : (va_up I 219 (va_up (I 219) 0 0)) 220 = I 220 := up_ne (by decide)
  by_cases c9 : x < 0 ∨ ¬ x < Int32.ofNat n
  · have hc : mcal mT (d + 9) 150 [.ref 100, .int x] (G, I, L) = some (.inr "java/util/NoSuchElementException", (G, I, L)) := by
      simp only [q_X11_part_, e_X11_part_0, ↓vB lB, nk_no (d + 7) (L := L) lB lP lH s4 c9, mcV_e, mthr_e]
    refine Ste_e (k := 1) q g1 g2 hz (by decide) (w_part_N (d + 9) hc lB.1) fun lM => ?_
    simp only [q_X12_part_, e_X12_part_0, ↓vM lM, up2_e, ↓mcI_of (rk_no (d + 7) (L := L) (I := (va_up I 219 (va_up (I 219) 0 0))) lM I00 (by rw [I01]; exact s5) s6 c9), if_true, up_eq, up_up]
  obtain ⟨k0, hk0, rfl⟩ := i_rm (by omega) c9
  obtain ⟨P, p1, p2, p3⟩ := pt_E (d + 4) (d + 6) q (by omega)
  obtain ⟨I1, a1, a2, -⟩ := p2 k0 hk0 I ⟨fun _ _ _ _ _ => rfl, rfl⟩
  have al := c_allM (d + 6) (L := L) (I := I) lB lP lH lT s4 s6
  have o : ∀ a, a ≠ bl → a ≠ bl + 1 → a ≠ bl + 3 → a ≠ 216 → I1 a = I a := a2.1
  have hbl : 199 ≤ bl ∧ bl + 4 ≤ 207 := by
    obtain ⟨-, -, -, -, -, -, -, -, -, -, -, -, -, -, -, hbl, -⟩ := id q.1
    omega
  have f : ∀ a, a ≠ 219 → a ≠ bl → a ≠ bl + 1 → a ≠ bl + 3 → a ≠ 216 → va_up I1 219 (va_up (I1 219) 0 0) a = I a := fun a h0 h1 h2 h3 h4 => by rw [up_ne h0, o a h1 h2 h3 h4]
  obtain ⟨J', r1, r2⟩ := p3 (va_up I1 219 (va_up (I1 219) 0 0)) (up2 L 251 0 (Int32.toInt64 (Int32.ofNat (P k0)))) (by rw [up_eq, up_ne (by decide), o 219 (by omega) (by omega) (by omega) (by omega)]) (f 220 (by decide) (by omega) (by omega) (by omega) (by decide)) (f 230 (by decide) (by omega) (by omega) (by omega) (by decide)) (f 235 (by decide) (by omega) (by omega) (by omega) (by decide)) (f 236 (by decide) (by omega) (by omega) (by omega) (by decide)) (by rw [up2_e, up_ne (by decide)]) k0 hk0 _ (fun _ _ => rfl)
  have J00 : va_up I1 219 (va_up (I1 219) 0 0) 219 0 = 0 := by rw [up_eq, up_eq]
  have rk := rk_ok (d + 7) (L := up2 L 251 0 (Int32.toInt64 (Int32.ofNat (P k0)))) (I := va_up I1 219 (va_up (I1 219) 0 0)) lM J00 (by rw [f 220 (by decide) (by omega) (by omega) (by omega) (by decide)]; exact s5) s6 c9
  refine pt_fin (r := Int32.ofNat (P k0)) (I1 := I1) (J' := J') q g1 g2 hz a2 (fun w1 w2 => w_part (d + 9) ?_ lB.1 w1 w2) ?_ r2
  · rw [q_X11_part_, e_X11_part_0]
    simp only [↓vB lB, nk_ok (d + 7) (L := L) lB lP lH s4 c9, mcV_v, ↓mcI_of al, ↓mcI_of a1]
  · show mcal mT (d + 10) 267 [.ref 219, .int (Int32.ofNat k0)] _ = _
    rw [q_X12_part_, e_X12_part_0]
    simp only [↓vM lM, show ∀ v, up2 I1 219 0 v = va_up I1 219 (va_up (I1 219) 0 v) from fun _ => rfl, ↓mcI_of rk, if_neg z1, e_X12_part_15, ↓mcI_of r1]
end
