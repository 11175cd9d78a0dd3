/-! call: words, the call -/
/-- the class begins to read -/
def bgT (I : Nat → Nat → Int32) (m : Nat) : Nat → Nat → Int32 := va_up I 101 (va_up (va_up (va_up (va_up (va_up (va_up (va_up (I 101) 2 (Int32.ofNat m)) 1 0) 3 0) 4 0) 5 0) 6 0) 7 (-1))
/-- the reference begins to read -/
def rbT (J : Nat → Nat → Int32) (m : Nat) : Nat → Nat → Int32 := va_up J 219 (va_up (va_up (va_up (va_up (va_up (va_up (J 219) 3 0) 9 (-1)) 4 (Int32.ofNat m)) 5 0) 6 (-1)) 8 0)
section
variable {G : mG} {I J : Nat → Nat → Int32} {L K : Nat → Nat → Int64} {B : Nat → Nat} {m : Nat}
theorem jm_n (h : m ≤ 500) : jmax 0 (jmin (Int32.ofNat m) 500) = Int32.ofNat m := by
  have e0 : (0 : Int32).toInt = 0 := by decide
  have e5 : (500 : Int32).toInt = 500 := by decide
  apply i_inj
  rw [jmax_t, jmin_t, e0, e5, i_of (by omega)]
  omega
theorem c_begin (d : Nat) (lX : LayX G 101) (h : m ≤ 500) : mcal mT (d + 1) 86 [.ref 101, .int (Int32.ofNat m)] (G, I, L) = some (.inl none, (G, bgT I m, L)) := by
  rw [q_X10_begin_, e_X10_begin_0]
  simp only [↓vX lX, jm_n h, up2_e, up_eq, up_up]
  rfl
theorem bgT_o {x : Nat} (h : x ≠ 101) : bgT I m x = I x := up_ne h
theorem bgT_x (h : m ≤ 500) (hB : ∀ j, j < m → I 102 j = Int32.ofNat (B j) ∧ B j < 256) : TxR B m 0 (bgT I m) ∧ bgT I m 101 7 = -1 ∧ bgT I m 101 1 = 0 := by
  refine ⟨⟨?_, ?_, Nat.zero_le _, h, ?_⟩, ?_, ?_⟩
  · unfold bgT
    rw [up_eq, up_ne (by decide), up_ne (by decide), up_ne (by decide), up_ne (by decide), up_ne (by decide), up_ne (by decide), up_eq]
  · unfold bgT
    rw [up_eq, up_ne (by decide), up_ne (by decide), up_ne (by decide), up_ne (by decide), up_eq]
    rfl
  · rw [bgT_o (by decide)]; exact hB
  · unfold bgT
    rw [up_eq, up_eq]
  · unfold bgT
    rw [up_eq, up_ne (by decide), up_ne (by decide), up_ne (by decide), up_ne (by decide), up_ne (by decide), up_eq]
theorem r_begin (d : Nat) (lM : LayM G 219) : mcal mT (d + 1) 189 [.ref 219, .int (Int32.ofNat m)] (G, J, K) = some (.inl none, (G, rbT J m, K)) := by
  rw [q_X12_beginsReading_, e_X12_beginsReading_0]
  simp only [↓vM lM, up2_e, up_eq, up_up]
  rfl
theorem rbT_o {x : Nat} (h : x ≠ 219) : rbT J m x = J x := up_ne h
theorem rbT_k {k : Nat} (h : 10 ≤ k ∨ k = 0 ∨ k = 7) : rbT J m 219 k = J 219 k := by
  unfold rbT
  rw [up_eq, up_ne (by omega), up_ne (by omega), up_ne (by omega), up_ne (by omega), up_ne (by omega), up_ne (by omega)]
theorem rbT_x (h : m ≤ 500) (hB : ∀ j, j < m → J 222 j = Int32.ofNat (B j) ∧ B j < 256) : RdR B m 0 (rbT J m) ∧ rbT J m 219 8 = 0 ∧ rbT J m 219 3 = 0 := by
  refine ⟨⟨?_, ?_, Nat.zero_le _, h, ?_, ?_⟩, ?_, ?_⟩
  · unfold rbT
    rw [up_eq, up_ne (by decide), up_ne (by decide), up_ne (by decide), up_eq]
  · unfold rbT
    rw [up_eq, up_ne (by decide), up_ne (by decide), up_eq]
    rfl
  · unfold rbT
    rw [up_eq, up_ne (by decide), up_eq]
  · rw [rbT_o (by decide)]; exact hB
  · unfold rbT
    rw [up_eq, up_eq]
  · unfold rbT
    rw [up_eq, up_ne (by decide), up_ne (by decide), up_ne (by decide), up_ne (by decide), up_ne (by decide), up_eq]
/-- a field beside the reader's -/
theorem RdR_k {e a k : Nat} {v : Int32} (q : RdR B e a J) (h : ¬ k = 4 ∧ ¬ k = 5 ∧ ¬ k = 6) : RdR B e a (va_up J 219 (va_up (J 219) k v)) := by
  obtain ⟨x1, x2, x3, x4, x5, x6⟩ := q
  exact ⟨by rw [up_eq, up_ne (by omega)]; exact x1, by rw [up_eq, up_ne (by omega)]; exact x2, x3, x4, by rw [up_eq, up_ne (by omega)]; exact x5, by rw [up_ne (by decide)]; exact x6⟩
/-- the read codes become the words in use -/
theorem wd_copy (r : Nat) {s : Nat} (lM : LayM G 219) (h6 : J 219 6 = -1) (h37 : J 219 37 = Int32.ofNat s) (hs : s ≤ 200) : f_X12_words (r + 1) 76 [.ref 219, mU, mU] [] (G, J, K) = some (.inl (some (.int 0)), (G, va_up (va_up (va_up J 219 (va_up (va_up (J 219) 9 (-1)) 36 (Int32.ofNat s))) 235 (pre s (J 237) (J 235))) 236 (pre s (J 238) (J 236)), K)) := by
  have fi := r_fine r (G := G) (J := va_up J 219 (va_up (J 219) 9 (-1))) (K := K) lM (by rw [up_eq, up_ne (by decide)]; exact h6)
  rw [e_X12_words_76]
  simp only [↓vM lM, h6, up2_e, ↓mcI_of fi, if_neg (show ¬ (1 : Int32) = 0 by decide), e_X12_words_99]
  generalize hJ1 : va_up J 219 (va_up (va_up (J 219) 9 (-1)) 36 (Int32.ofNat s)) = J1
  have e1 : va_up (va_up J 219 (va_up (J 219) 9 (-1))) 219 (va_up (va_up J 219 (va_up (J 219) 9 (-1)) 219) 36 (va_up J 219 (va_up (J 219) 9 (-1)) 219 37)) = J1 := by
    rw [up_eq, up_up, up_ne (show (37 : Nat) ≠ 9 by decide), h37]
    exact hJ1
  rw [e1]
  have o1 : ∀ x, x ≠ 219 → J1 x = J x := fun x hx => by rw [← hJ1, up_ne hx]
  have e36 : J1 219 36 = Int32.ofNat s := by rw [← hJ1, up_eq, up_eq]
  have z9 : ∀ R S, va_up (va_up J1 235 R) 236 S 219 = J1 219 := fun R S => by rw [up_ne (by decide), up_ne (by decide)]
  have z7 : ∀ R S, va_up (va_up J1 235 R) 236 S 237 = J 237 := fun R S => by rw [up_ne (by decide), up_ne (by decide), o1 237 (by decide)]
  have z5 : ∀ R S, va_up (va_up J1 235 R) 236 S 235 = R := fun R S => by rw [up_ne (by decide), up_eq]
  have lp := loopy (fun k (st : mH) => f_X12_words (r + 1) 109 [.ref 219, mU, .int k] [] st) (fun k => (G, va_up (va_up J1 235 (pre k (J 237) (J 235))) 236 (pre k (J 238) (J 236)), K)) s (G, J1, K) (by rw [pre_0, pre_0, ← o1 235 (by decide), ← o1 236 (by decide), up_id, up_id]) (fun k hk => by
    have nn : ¬ Int32.ofNat s ≤ Int32.ofNat k := fun p => by have := (i_le (by omega) (by omega)).mp p; omega
    show f_X12_words (r + 1) 109 _ _ _ = f_X12_words (r + 1) 109 _ _ _
    rw [e_X12_words_109]
    have z8 : ∀ R S T, va_up (va_up (va_up J1 235 R) 236 S) 235 T 238 = J 238 := fun R S T => by rw [up_ne (by decide), up_ne (by decide), up_ne (by decide), o1 238 (by decide)]
    have z6 : ∀ R S T, va_up (va_up (va_up J1 235 R) 236 S) 235 T 236 = S := fun R S T => by rw [up_ne (by decide), up_eq]
    have cm : ∀ R S T U, va_up (va_up (va_up (va_up J1 235 R) 236 S) 235 T) 236 U = va_up (va_up J1 235 T) 236 U := fun R S T U => by
      funext x
      by_cases c : x = 236
      · rw [c, up_eq, up_eq]
      · rw [up_ne c, up_ne c]
        by_cases c2 : x = 235
        · rw [c2, up_eq, up_eq]
        · rw [up_ne c2, up_ne c, up_ne c2, up_ne c2]
    simp (disch := omega) only [↓vM lM, z9, e36, if_neg nn, z7, z5, up2_e, z8, z6, cm, i_one]
    rw [pre_s rfl, pre_s rfl])
  refine Eq.trans lp ?_
  show f_X12_words (r + 1) 109 _ _ _ = _
  rw [e_X12_words_109]
  simp only [↓vM lM, z9, e36, if_pos i_rf, e_X12_words_147]
theorem wd_bad (r : Nat) (lM : LayM G 219) (h6 : ¬ J 219 6 = -1) : f_X12_words (r + 1) 76 [.ref 219, mU, mU] [] (G, J, K) = some (.inl (some (.int (J 219 7 - 10))), (G, va_up J 219 (va_up (J 219) 9 (J 219 6)), K)) := by
  have fi := r_fineN r (G := G) (J := va_up J 219 (va_up (J 219) 9 (J 219 6))) (K := K) lM (by rw [up_eq, up_ne (by decide)]; exact h6)
  rw [e_X12_words_76]
  simp only [↓vM lM, up2_e, ↓mcI_of fi, if_true, up_eq, up_ne (show (7 : Nat) ≠ 9 by decide)]
end
section
variable {z h hs bl bs cl cs nr n nh M hN w lc mc kc ta : Nat} {rm pi mk : Nat → Nat} {G : mG} {I : Nat → Nat → Int32} {L : Nat → Nat → Int64}
theorem byts (q : Rel z h hs bl bs cl cs nr n nh M hN w lc mc kc ta rm pi mk G I L) : ∃ B : Nat → Nat, ∀ j, j < ta → (I 102 j = Int32.ofNat (B j) ∧ B j < 256) ∧ I 222 j = I 102 j := by
  obtain ⟨-, -, -, t4, -⟩ := (q.2.2.2.2.2.2.2.1 : TpR I ta)
  refine ⟨fun j => (I 102 j).toNatClampNeg, fun j hj => ?_⟩
  obtain ⟨x1, x2⟩ := t4 j hj
  rw [← x1] at x2
  obtain ⟨v, v1, v2⟩ := rng_n (x := I 102 j) (b := 255) x2
  refine ⟨⟨?_, ?_⟩, x1.symm⟩
  · show I 102 j = Int32.ofNat (I 102 j).toNatClampNeg
    rw [v2, i_nat (by omega)]
  · show (I 102 j).toNatClampNeg < 256
    rw [v2, i_nat (by omega)]
    omega
theorem ca_words (d : Nat) (q : Rel z h hs bl bs cl cs nr n nh M hN w lc mc kc ta rm pi mk G I L) (g1 : G.1 ≤ 252 + z + 25 * kc) (g2 : G.2.1 ≤ 60000 + 6 * z + 4000 * kc) (hz : z + 1 ≤ 512) (x : Int32) : Ste (d + 29) 295 264 [.int x] (z + 1) G I L := by
  obtain ⟨lB, lX, lP, -, ⟨lH1, lH2⟩, ⟨lS, -⟩, ⟨lT, -⟩, ⟨lU, -⟩, lD, -, -, lM, ⟨o1, o2⟩, -, hh, -⟩ := id q.1
  have ho := q.2.1
  obtain ⟨s1, s2, s3, s4, s5, s6⟩ := ho_sz ho
  have lH : LayH G h := by
    rcases hh with ⟨a, -⟩ | ⟨a, -⟩
    · rw [a]; exact lH1
    · rw [a]; exact lH2
  have hb : 103 ≤ h ∧ h + 14 ≤ 132 := by omega
  obtain ⟨-, -, ⟨hF, hHN⟩, hS, ⟨hT, hMz⟩, hU, hD, hTp, hEg, hLg, -, -, -, -⟩ := id q
  have z1 : ¬ (1 : Int32) = 0 := by decide
  have I00 : (va_up I 219 (va_up (I 219) 0 0)) 219 0 = 0 := by rw [up_eq, up_eq]
  have I01 : (va_up I 219 (va_up (I 219) 0 0)) 220 = I 220 := up_ne (by decide)
  obtain ⟨t1, t2, t3, t4, t5⟩ := id hTp
  have jm : jmin (Int32.ofNat ta) 200 = Int32.ofNat (if ta ≤ 200 then ta else 200) := jmin_n (b := 200) (by omega) (by decide)
  by_cases c0 : x < 0 ∨ Int32.ofNat (if ta ≤ 200 then ta else 200) < x
  · have hc : mcal mT (d + 28) 102 [.ref 100, .int x] (G, I, L) = some (.inr "java/lang/IllegalArgumentException", (G, I, L)) := by
      simp only [q_X11_words_, e_X11_words_0, ↓vB lB, ↓vX lX, t1, jm, nw_no (d + 26) c0 (G, I, L), mcV_e, mthr_e]
    refine Ste_e (k := 1) q g1 g2 hz (by decide) (w_words_A (d + 28) hc lB.1) fun lM => ?_
    have my := r_may0 (d + 27) 1 lM (I := va_up I 219 (va_up (I 219) 0 0)) (L := L) I00 (by decide)
    have e3 : va_up I 219 (va_up (I 219) 0 0) 219 3 = Int32.ofNat ta := by rw [up_eq, up_ne (by decide)]; exact t2
    show mcal mT (d + 29) 264 [.ref 219, .int x] _ = _
    rw [q_X12_words_, e_X12_words_0]
    simp only [up2_e, e3]
    have fin : f_X12_words (d + 28) 29 [.ref 219, .int x, mU] [.ref 219] (gC G, va_up I 219 (va_up (I 219) 0 0), L) = some (.inl (some (.int 0)), (gC G, va_up I 219 (va_up (I 219) 0 1), L)) := by
      simp only [e_X12_words_29, e_X12_words_30, ↓vM lM, ↓mcI_of my, if_true, up_eq, up_up]
    simp only [↓vM lM]
    by_cases c1 : x < 0
    · rw [if_pos c1]; exact fin
    rw [if_neg c1]
    by_cases c2 : Int32.ofNat ta < x
    · rw [if_pos c2]; exact fin
    rw [if_neg c2]
    have c3 : (200 : Int32) < x := by
      have c4 := c0.resolve_left c1
      by_cases c5 : ta ≤ 200
      · rw [if_pos c5] at c4; exact absurd c4 c2
      · rw [if_neg c5] at c4; exact c4
    rw [if_pos c3]
    exact fin
  obtain ⟨m, hm, rfl⟩ := i_rng (x := x) (n := if ta ≤ 200 then ta else 200) c0 (by split <;> omega)
  have hm2 : m ≤ ta ∧ m ≤ 200 := by split at hm <;> omega
  obtain ⟨B, hB⟩ := byts q
  obtain ⟨-, -, -, -, -, -, -, -, -, ⟨lW1, lW2⟩, -, -, -, -, -, hbl, -⟩ := id q.1
  have hbs : bs = 199 ∨ bs = 203 := by omega
  have lW : LayW G 1 bs := by
    rcases hbl with ⟨-, a⟩ | ⟨-, a⟩
    · rw [a]; exact lW2
    · rw [a]; exact lW1
  obtain ⟨x1, x2, x3⟩ := bgT_x (I := I) (B := B) (m := m) (by omega) (fun j hj => (hB j (by omega)).1)
  have bg := c_begin (d + 26) (I := I) (L := L) (m := m) lX (by omega)
  -- the reference from any heap
  have rf : ∀ (Gx : mG) (Ix : Nat → Nat → Int32) (Lx : Nat → Nat → Int64), LayM Gx 219 → Ix 222 = I 222 → (∀ v : Int32, RdR B m 0 (va_up (rbT (va_up Ix 219 (va_up (Ix 219) 0 v)) m) 219 (va_up (rbT (va_up Ix 219 (va_up (Ix 219) 0 v)) m 219) 37 0)) ∧ va_up (rbT (va_up Ix 219 (va_up (Ix 219) 0 v)) m) 219 (va_up (rbT (va_up Ix 219 (va_up (Ix 219) 0 v)) m 219) 37 0) 219 8 = 0 ∧ va_up (rbT (va_up Ix 219 (va_up (Ix 219) 0 v)) m) 219 (va_up (rbT (va_up Ix 219 (va_up (Ix 219) 0 v)) m 219) 37 0) 219 37 = 0 ∧ va_up (rbT (va_up Ix 219 (va_up (Ix 219) 0 v)) m) 219 (va_up (rbT (va_up Ix 219 (va_up (Ix 219) 0 v)) m 219) 37 0) 219 3 = 0) := by
    intro Gx Ix Lx lMx e222 v
    obtain ⟨y1, y2, y3⟩ := rbT_x (J := va_up Ix 219 (va_up (Ix 219) 0 v)) (B := B) (m := m) (by omega) (fun j hj => by rw [up_ne (by decide), e222, (hB j (by omega)).2]; exact (hB j (by omega)).1)
    refine ⟨RdR_k y1 (by decide), by rw [up_eq, up_ne (by decide)]; exact y2, by rw [up_eq, up_eq], by rw [up_eq, up_ne (by decide)]; exact y3⟩
  obtain ⟨f1, f2, f3, -⟩ := rf G I L lM rfl 0
  -- the end of a call
  have ends : ∀ (bl' bs' : Nat) (v : Int32) (If : Nat → Nat → Int32) (Gf : mG), LyR Gf h hs bl' bs' cl cs kc mk → Gf.1 = G.1 → Gf.2.1 = G.2.1 → gN Gf 0 = gN G 0 → BlC bs (bgT I m) If → mcal mT (d + 28) 102 [.ref 100, .int (Int32.ofNat m)] (G, I, L) = some (.inl (some (.int v)), (Gf, If, L)) → (∀ K : Nat → Nat → Int64, ∃ F, (mcV (mcal mT (d + 28) 263 [.ref 219] (Gf, va_up (rbT (va_up If 219 (va_up (If 219) 0 0)) m) 219 (va_up (rbT (va_up If 219 (va_up (If 219) 0 0)) m 219) 37 0), K)) (fun h4 => gk h4.1 219 13 (mcI (mcal mT (d + 28) 179 [.ref 219] h4) (fun v6 h5 => (if v6 = 0 then f_X12_words (d + 28) 76 [.ref 219, mU, mU] [] h5 else gk h5.1 219 13 (mcI (mcal mT (d + 28) 190 [.ref 219] h5) (fun v8 h7 => (if v8 = 0 then f_X12_words (d + 28) 76 [.ref 219, mU, mU] [] h7 else gk h7.1 219 13 (gk h7.1 219 13 (mcV (mcal mT (d + 28) 180 [.ref 219, .int 1, .int (h7.2.1 219 5)] h7) (fun h9 => f_X12_words (d + 28) 76 [.ref 219, mU, mU] [] h9) mthr)))) mthr))) mthr)) mthr) = some (.inl (some (.int v)), (Gf, F, K)) ∧ (∀ a, ¬ RdX hs a → F a = If a) ∧ (∀ k, 10 ≤ k → k ≠ 36 → k ≠ 37 → k ≠ 44 → k ≠ 45 → F 219 k = If 219 k) ∧ F 219 0 = 0 ∧ TpR F 0 ∧ BiR F bl' ∧ ClR F cl) → Ste (d + 29) 295 264 [.int (Int32.ofNat m)] (z + 1) G I L := by
    intro bl' bs' v If Gf lyf gf1 gf2 gf3 bc hc hF
    have lMf : LayM Gf 219 := lyf.2.2.2.2.2.2.2.2.2.2.2.1
    obtain ⟨w1, w2⟩ := lyf.2.2.2.2.2.2.2.2.2.2.2.2.1
    obtain ⟨F, h1, h2, h3, h4, h5, h6, h7⟩ := hF (up2 L 251 0 (Int32.toInt64 v))
    have oI : ∀ a, ¬ RdX hs a → If a = I a := fun a ha => by
      unfold RdX at ha
      rw [bc.1 a (by omega) (by omega) (by omega), bgT_o (by omega)]
    have i9 : If 219 = I 219 := by rw [bc.1 219 (by decide) (by omega) (by omega), bgT_o (by decide)]
    have J00 : va_up If 219 (va_up (If 219) 0 0) 219 0 = 0 := by rw [up_eq, up_eq]
    have my := r_may1 (d + 27) 1 lMf (I := va_up If 219 (va_up (If 219) 0 0)) (L := up2 L 251 0 (Int32.toInt64 v)) J00
    have rb := r_begin (d + 27) (J := va_up If 219 (va_up (If 219) 0 0)) (K := up2 L 251 0 (Int32.toInt64 v)) (m := m) lMf
    have e3 : va_up If 219 (va_up (If 219) 0 0) 219 3 = Int32.ofNat ta := by rw [up_eq, up_ne (by decide), i9]; exact t2
    have n1 : ¬ Int32.ofNat m < 0 := i_neg (by omega)
    have n2 : ¬ Int32.ofNat ta < Int32.ofNat m := fun t => by have := (i_lt (by omega) (by omega)).mp t; omega
    have n3 : ¬ (200 : Int32) < Int32.ofNat m := fun t => by have := (i_lt (a := 200) (by decide) (by omega)).mp t; omega
    refine ⟨0, v, Gf, If, _, F, up2 L 251 0 (Int32.toInt64 v), w_words (d + 28) hc lB.1 w1 w2, ?_, gf3, ?_, ?_, h4, fun _ => ?_, h, hs, bl', bs', cl, cs, nr, n, nh, M, hN, w, lc, mc, kc, 0, rm, pi, mk, Rel_rd q lyf hz (fun a ha => by rw [h2 a ha, oI a ha]) (fun k k1 k2 k3 k4 k5 => by rw [h3 k k1 k2 k3 k4 k5, i9]) h5 h6 h7 (fun a ha => by rw [up2_e, up_ne ha]), by omega, by omega⟩
    · exact oI 0 (by unfold RdX; omega)
    · show mcal mT (d + 29) 264 [.ref 219, .int (Int32.ofNat m)] _ = _
      rw [q_X12_words_, e_X12_words_0]
      simp only [show ∀ v, up2 If 219 0 v = va_up If 219 (va_up (If 219) 0 v) from fun _ => rfl, e3, ↓vM lMf, if_neg n1, if_neg n2, if_neg n3, e_X12_words_30, ↓mcI_of my, if_neg z1, e_X12_words_39, ↓mcV_of rb, show ∀ (J : Nat → Nat → Int32) (v : Int32), up2 J 219 37 v = va_up J 219 (va_up (J 219) 37 v) from fun _ _ => rfl]
      exact h1
    · rw [h2 0 (by unfold RdX; omega), oI 0 (by unfold RdX; omega)]
    · rw [up2_e, up_eq, up_eq]
  have e500 : m ≤ 500 := by omega
  have cl0 : ∀ X, mcal mT (d + 27) 1 [.ref bs, .ref 101] (G, bgT I m, L) = X → mcal mT (d + 28) 102 [.ref 100, .int (Int32.ofNat m)] (G, I, L) = mcI X (fun v8 h7 => (if v8 = 0 then gk h7.1 100 12 (gr h7.1 100 0 (fun b9 => gk h7.1 b9 11 (some (.inl (some (.int ((h7.2.1 b9 6) - 10))), h7)))) else f_X11_words (d + 27) 53 [.ref 100, mU, .ref bs] [] h7)) mthr := by
    intro X hX
    have k1 := lW.1
    rw [q_X11_words_, e_X11_words_0]
    simp only [↓vB lB, ↓vX lX, t1, jm, nw_ok (d + 26) c0 (G, I, L), mcV_v, ↓mcV_of bg, ↓gk_t k1, hX]
  rcases wd_pair d (d + 2) (G2 := G) (I := bgT I m) (L := L) (K := L) (B := B) lX lW lM hbs hm2.2 x1 x2 f1 f2 f3 with ⟨If, Ja, sa, a1, -, a3, a4, -⟩ | ⟨If, Ja, ka, pa, a1, -, a3, -, a5, a6, -⟩
  · -- both have read it
    have lyf := LyR_B q.1
    have hc : mcal mT (d + 28) 102 [.ref 100, .int (Int32.ofNat m)] (G, I, L) = some (.inl (some (.int 0)), (gS (gS G 100 8 (some bl)) 100 7 (some bs), If, L)) := by
      have k8 : gK (gS G 100 8 (some bl)) 100 = 12 := lB.1
      rw [cl0 _ a1, mcI_v]
      simp only [if_neg z1, e_X11_words_53, ↓vB lB, ↓gk_t k8]
    refine ends bs bl 0 If _ lyf rfl rfl rfl a3 hc (fun K => ?_)
    generalize gS (gS G 100 8 (some bl)) 100 7 (some bs) = Gf at lyf
    have lMf : LayM Gf 219 := lyf.2.2.2.2.2.2.2.2.2.2.2.1
    obtain ⟨f1, f2, f3, f4⟩ := rf Gf If L lMf (by rw [a3.1 222 (by decide) (by omega) (by omega), bgT_o (by decide)]) 0
    rcases wd_pair d (d + 2) (G2 := Gf) (I := bgT I m) (L := L) (K := K) (B := B) lX lW lMf hbs hm2.2 x1 x2 f1 f2 f3 with ⟨If', Jb, sb, b1, b2, b3, b4, b5, b6, ⟨b7, b8, b9⟩, b10, b11, b12⟩ | ⟨If', Jb, kb, pb, b1, -⟩
    · obtain ⟨-, -, rfl, -⟩ := some_i a1 b1
      have cp := wd_copy (d + 27) (G := Gf) (J := Jb) (K := K) (s := sb) lMf b6 b8 b12
      refine ⟨_, b2.trans cp, fun a ha => ?_, fun k k1 k2 k3 k4 k5 => ?_, ?_, ?_, ?_, ?_⟩
      · unfold RdX at ha
        rw [up_ne (by omega), up_ne (by omega), up_ne (by omega), b5.1 a (by omega) (by omega) (by omega), up_ne (by omega), rbT_o (by omega), up_ne (by omega)]
      · rw [up_ne (by decide), up_ne (by decide), up_eq, up_ne k2, up_ne (by omega), b5.2 k (by omega) (by omega) (by omega) (by omega) k3, up_eq, up_ne k3, rbT_k (by omega), up_eq, up_ne (by omega)]
      · rw [up_ne (by decide), up_ne (by decide), up_eq, up_ne (by decide), up_ne (by decide), b5.2 0 (by decide) (by decide) (by decide) (by decide) (by decide), up_eq, up_ne (by decide), rbT_k (by omega), up_eq, up_eq]
      · have r101 : ∀ k, va_up (va_up (va_up Jb 219 (va_up (va_up (Jb 219) 9 (-1)) 36 (Int32.ofNat sb))) 235 (pre sb (Jb 237) (Jb 235))) 236 (pre sb (Jb 238) (Jb 236)) 101 k = If' 101 k := fun k => by rw [up_ne (by decide), up_ne (by decide), up_ne (by decide), b5.1 101 (by decide) (by decide) (by decide), up_ne (by decide), rbT_o (by decide), up_ne (by decide)]
        refine ⟨?_, ?_, by decide, fun j hj => absurd hj (Nat.not_lt_zero _), ?_⟩
        · rw [r101, b3.2.1 1 (by omega), x3]; rfl
        · rw [up_ne (by decide), up_ne (by decide), up_eq, up_ne (by decide), up_ne (by decide), b5.2 3 (by decide) (by decide) (by decide) (by decide) (by decide), f4]; rfl
        · rw [r101, b4, up_ne (by decide), up_ne (by decide), up_eq, up_ne (by decide), up_eq]
      · have rx : ∀ a, a = bs + 1 ∨ a = bs + 2 → va_up (va_up (va_up Jb 219 (va_up (va_up (Jb 219) 9 (-1)) 36 (Int32.ofNat sb))) 235 (pre sb (Jb 237) (Jb 235))) 236 (pre sb (Jb 238) (Jb 236)) a = If' a := fun a ha => by rw [up_ne (by omega), up_ne (by omega), up_ne (by omega), b5.1 a (by omega) (by omega) (by omega), up_ne (by omega), rbT_o (by omega), up_ne (by omega)]
        refine ⟨sb, wJ Jb, by rw [rx _ (Or.inl rfl)]; exact b7, by rw [up_ne (by decide), up_ne (by decide), up_eq, up_eq], b12, fun j hj => ?_, fun j hj => ?_, Or.inr (by have := b10.2; rw [this]; rfl)⟩
        · obtain ⟨wv, v1, v2, v3, v4⟩ := b9 j hj
          have ew : wJ Jb j = wv := by unfold wJ; rw [v2, i_nat (by omega)]
          rw [ew, rx _ (Or.inr rfl), up_eq, pre_lt hj, up_ne (by decide), up_eq, pre_lt hj]
          exact ⟨v2, v1, v3, v4⟩
        · obtain ⟨u1, u2⟩ := b10.1 j (Nat.zero_le _) hj
          have h0 : hgt (wJ Jb) 0 = 0 := rfl
          exact ⟨fun p => by have := u1 p; omega, fun p => by have := u2 p; omega⟩
      · have ry : ∀ a, ¬ (a = 219 ∨ a = 235 ∨ a = 236 ∨ a = 237 ∨ a = 238 ∨ a = 101 ∨ a = bs + 1 ∨ a = bs + 2) → va_up (va_up (va_up Jb 219 (va_up (va_up (Jb 219) 9 (-1)) 36 (Int32.ofNat sb))) 235 (pre sb (Jb 237) (Jb 235))) 236 (pre sb (Jb 238) (Jb 236)) a = I a := fun a ha => by rw [up_ne (by omega), up_ne (by omega), up_ne (by omega), b5.1 a (by omega) (by omega) (by omega), up_ne (by omega), rbT_o (by omega), up_ne (by omega), b3.1 a (by omega) (by omega) (by omega), bgT_o (by omega)]
        have hcl : cl = 207 ∨ cl = 211 := by
          obtain ⟨-, -, -, -, -, -, -, -, -, -, -, -, -, -, -, -, hcl, -⟩ := id q.1
          omega
        refine ClR_c (q.2.2.2.2.2.2.2.2.2.2.2.1) (by rw [ry (cl + 1) (by omega)]) ?_ (ry (cl + 2) (by omega)) (ry 241 (by omega)) (ry 242 (by omega))
        rw [up_ne (by decide), up_ne (by decide), up_eq, up_ne (by decide), up_ne (by decide), b5.2 44 (by decide) (by decide) (by decide) (by decide) (by decide), up_eq, up_ne (by decide), rbT_k (by omega), up_eq, up_ne (by decide), b3.1 219 (by decide) (by omega) (by omega), bgT_o (by decide)]
    · obtain ⟨e, -⟩ := some_i a1 b1
      exact absurd e (by decide)
  · -- both have found a fault
    have hc : mcal mT (d + 28) 102 [.ref 100, .int (Int32.ofNat m)] (G, I, L) = some (.inl (some (.int (ka - 10))), (G, If, L)) := by
      rw [cl0 _ a1, mcI_v]
      simp only [if_true, ↓vB lB, ↓vX lX, a5]
    refine ends bl bs (ka - 10) If G q.1 rfl rfl rfl a3 hc (fun K => ?_)
    obtain ⟨f1, f2, f3, f4⟩ := rf G If L lM (by rw [a3.1 222 (by decide) (by omega) (by omega), bgT_o (by decide)]) 0
    rcases wd_pair d (d + 2) (G2 := G) (I := bgT I m) (L := L) (K := K) (B := B) lX lW lM hbs hm2.2 x1 x2 f1 f2 f3 with ⟨If', Jb, sb, b1, -⟩ | ⟨If', Jb, kb, pb, b1, b2, b3, b4, b5, b6, b7, b8, b9⟩
    · obtain ⟨e, -⟩ := some_i a1 b1
      exact absurd e (by decide)
    · obtain ⟨-, -, rfl, -⟩ := some_i a1 b1
      have ek : ka = kb := by rw [← a5, ← b5]
      have nf : ¬ Jb 219 6 = -1 := by rw [b7]; exact nm1 (by omega)
      have bad := wd_bad (d + 27) (G := G) (J := Jb) (K := K) lM nf
      rw [b8, ← ek] at bad
      have ry : ∀ a, ¬ (a = 219 ∨ a = 237 ∨ a = 238) → va_up Jb 219 (va_up (Jb 219) 9 (Jb 219 6)) a = If' a := fun a ha => by rw [up_ne (by omega), b4.1 a (by omega) (by omega) (by omega), up_ne (by omega), rbT_o (by omega), up_ne (by omega)]
      have r9 : ∀ k, 10 ≤ k → k ≠ 37 → va_up Jb 219 (va_up (Jb 219) 9 (Jb 219 6)) 219 k = If' 219 k := fun k k1 k3 => by rw [up_eq, up_ne (by omega), b4.2 k (by omega) (by omega) (by omega) (by omega) k3, up_eq, up_ne k3, rbT_k (by omega), up_eq, up_ne (by omega)]
      have i9 : If' 219 = I 219 := by rw [b3.1 219 (by decide) (by omega) (by omega), bgT_o (by decide)]
      refine ⟨_, b2.trans bad, fun a ha => ?_, fun k k1 k2 k3 k4 k5 => r9 k k1 k3, ?_, ⟨?_, ?_, by decide, fun j hj => absurd hj (Nat.not_lt_zero _), ?_⟩, ?_, ?_⟩
      · unfold RdX at ha
        exact ry a (by omega)
      · rw [up_eq, up_ne (by decide), b4.2 0 (by decide) (by decide) (by decide) (by decide) (by decide), up_eq, up_ne (by decide), rbT_k (by omega), up_eq, up_eq]
      · rw [ry 101 (by omega), b3.2.1 1 (by omega), x3]; rfl
      · rw [up_eq, up_ne (by decide), b4.2 3 (by decide) (by decide) (by decide) (by decide) (by decide), f4]; rfl
      · rw [ry 101 (by omega), b6, up_eq, up_eq, b7]
      · have rz : ∀ a, a = bl + 1 ∨ a = bl + 2 ∨ a = 235 ∨ a = 236 → va_up Jb 219 (va_up (Jb 219) 9 (Jb 219 6)) a = I a := fun a ha => by rw [ry a (by omega), b3.1 a (by omega) (by omega) (by omega), bgT_o (by omega)]
        refine BiR_c (q.2.2.2.2.2.2.2.2.2.2.1) (by rw [rz (bl + 1) (by omega)]) ?_ (rz (bl + 2) (by omega)) (rz 235 (by omega)) (rz 236 (by omega))
        rw [r9 36 (by decide) (by decide), i9]
      · have hcl : cl = 207 ∨ cl = 211 := by
          obtain ⟨-, -, -, -, -, -, -, -, -, -, -, -, -, -, -, -, hcl, -⟩ := id q.1
          omega
        have rz : ∀ a, a = cl + 1 ∨ a = cl + 2 ∨ a = 241 ∨ a = 242 → va_up Jb 219 (va_up (Jb 219) 9 (Jb 219 6)) a = I a := fun a ha => by rw [ry a (by omega), b3.1 a (by omega) (by omega) (by omega), bgT_o (by omega)]
        refine ClR_c (q.2.2.2.2.2.2.2.2.2.2.2.1) (by rw [rz (cl + 1) (by omega)]) ?_ (rz (cl + 2) (by omega)) (rz 241 (by omega)) (rz 242 (by omega))
        rw [r9 44 (by decide) (by decide), i9]
end
