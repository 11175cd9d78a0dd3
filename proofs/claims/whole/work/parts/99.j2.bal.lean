/-! balancing: the reference's search -/
section
variable {G2 : mG} {J : Nat → Nat → Int32} {K : Nat → Nat → Int64} {n : Nat} {sk : Nat → Nat} {E : Nat → Int32}
/-- the row of screws, put from k on -/
def wrow (m c k : Nat) (R : Nat → Int32) : Nat → Int32 := fun j => if 24 + k ≤ j ∧ j < 24 + m then Int32.ofNat (dgt m c (j - 24)) else R j
theorem wrow_s {m c k : Nat} {R : Nat → Int32} (hk : k < m) : va_up (wrow m c (k + 1) R) (24 + k) (Int32.ofNat (dgt m c k)) = wrow m c k R := by
  funext j
  unfold wrow
  by_cases e : j = 24 + k
  · rw [e, up_eq, if_pos (by omega), Nat.add_sub_cancel_left]
  · rw [up_ne e]
    by_cases p : 24 + (k + 1) ≤ j ∧ j < 24 + m
    · rw [if_pos p, if_pos (by omega)]
    · rw [if_neg p, if_neg (by omega)]
theorem wrow_m {m c : Nat} {R : Nat → Int32} : wrow m c m R = R := by
  funext j
  unfold wrow
  rw [if_neg (by omega)]
theorem lp_76 (e : Nat) {c m : Nat} {out want x3 x4 : Int32} {J1 : Nat → Nat → Int32} {K1 : Nat → Nat → Int64} (lM : LayM G2 219) (hm : m ≤ 4) (hc : c < 256) (hsk : ∀ k, k < m → J1 224 (24 + k) = Int32.ofNat (sk k) ∧ 1 ≤ sk k ∧ sk k ≤ 16) : ∀ k A, k ≤ m → A + tsm m c sk k = tsm m c sk m → f_X12_findBalanced (e + 6) 76 [.ref 219, .int out, .int want, .int x3, .int x4, .int (Int32.ofNat c), .int (Int32.ofNat A), .int (Int32.ofNat (c / 4 ^ (m - k))), .int (Int32.ofNat k - 1), mU] [] (G2, va_up J1 223 (wrow m c k (J1 223)), K1) = f_X12_findBalanced (e + 6) 152 [.ref 219, .int out, .int want, .int x3, .int x4, .int (Int32.ofNat c), .int (Int32.ofNat (tsm m c sk m)), mU, mU, mU] [] (G2, va_up J1 223 (wrow m c 0 (J1 223)), K1) := by
  intro k
  induction k with
  | zero =>
    intro A _ hA
    have : A = tsm m c sk m := by simpa [tsm] using hA
    rw [e_X12_findBalanced_76, if_pos (by decide), this]
  | succ k ih =>
    intro A hk hA
    obtain ⟨s1, s2, s3⟩ := hsk k (by omega)
    have db := dgt_b m c k
    have nx : ¬ Int32.ofNat k < 0 := i_neg (by omega)
    have hq : c / 4 ^ (m - (k + 1)) < 256 := Nat.lt_of_le_of_lt (Nat.div_le_self _ _) hc
    have z4 : ¬ (4 : Nat) = 0 := by decide
    have eD : Int32.ofNat (c / 4 ^ (m - (k + 1))) / 4 = Int32.ofNat (c / 4 ^ (m - k)) := by
      rw [show (4 : Int32) = Int32.ofNat 4 from rfl, i_div (by omega) (by decide), Nat.div_div_eq_div_mul]
      rw [show m - k = m - (k + 1) + 1 by omega, Nat.pow_succ]
    have eR : Int32.ofNat (c / 4 ^ (m - (k + 1))) - Int32.ofNat (c / 4 ^ (m - k)) * 4 = Int32.ofNat (c / 4 ^ (m - (k + 1)) % 4) := by
      have := i_rem (a := c / 4 ^ (m - (k + 1))) (b := 4) (by omega) (by decide)
      rw [show Int32.ofNat 4 = (4 : Int32) from rfl, eD] at this
      exact this
    have eV : (4 : Int32) * (Int32.ofNat (c / 4 ^ (m - (k + 1)) % 4) + 1) = Int32.ofNat (dgt m c k) := by
      rw [i_one, show (4 : Int32) = Int32.ofNat 4 from rfl, i_mul]
      unfold dgt
      rw [show m - 1 - k = m - (k + 1) by omega]
      rfl
    have e24 : (24 : Int32) + Int32.ofNat k = Int32.ofNat (24 + k) := i_add 24 k
    have u4 : ∀ R, va_up J1 223 R 224 = J1 224 := fun R => up_ne (by decide)
    have fin : f_X12_findBalanced (e + 6) 143 [.ref 219, .int out, .int want, .int x3, .int x4, .int (Int32.ofNat c), mU, .int (Int32.ofNat (c / 4 ^ (m - k))), .int (Int32.ofNat k), mU] [.int (Int32.ofNat ((dgt m c k - sk k) + (sk k - dgt m c k))), .int (Int32.ofNat A)] (G2, va_up J1 223 (wrow m c k (J1 223)), K1) = f_X12_findBalanced (e + 6) 152 [.ref 219, .int out, .int want, .int x3, .int x4, .int (Int32.ofNat c), .int (Int32.ofNat (tsm m c sk m)), mU, mU, mU] [] (G2, va_up J1 223 (wrow m c 0 (J1 223)), K1) := by
      rw [e_X12_findBalanced_143, i_add, i_m1]
      refine ih _ (by omega) ?_
      have : tsm m c sk (k + 1) = tsm m c sk k + ((dgt m c k - sk k) + (sk k - dgt m c k)) := rfl
      omega
    have rr := scr_r (dgt m c k) (by omega) (sk k) (by omega)
    rw [i_pred, e_X12_findBalanced_76, if_neg nx]
    simp (disch := omega) only [↓vM lM, if_neg z4, eD, eR, eV, e24, up2_e, up_eq, up_up, u4, s1, wrow_s hk]
    by_cases p : (0 : Int32) ≤ Int32.ofNat (dgt m c k) - Int32.ofNat (sk k)
    · rw [if_pos p] at rr
      rw [if_pos p, e_X12_findBalanced_141, rr]
      exact fin
    · rw [if_neg p] at rr
      rw [if_neg p, rr]
      exact fin
/-- the screws written down -/
theorem lp_220 (e : Nat) {out want x3 x4 x5 : Int32} {J1 : Nat → Nat → Int32} {K1 : Nat → Nat → Int64} (lM : LayM G2 219) : f_X12_findBalanced (e + 6) 220 [.ref 219, .int out, .int want, .int x3, .int x4, .int x5, mU, mU, mU, .int 0] [] (G2, J1, K1) = f_X12_findBalanced (e + 6) 250 [.ref 219, .int out, .int want, .int x3, .int x4, .int x5, mU, mU, mU, mU] [] (G2, va_up J1 234 (pre 8 (fun k => J1 223 (24 + k)) (J1 234)), K1) := by
  have lp := loopy (fun k (s : mH) => f_X12_findBalanced (e + 6) 220 [.ref 219, .int out, .int want, .int x3, .int x4, .int x5, mU, mU, mU, .int k] [] s) (fun k => (G2, va_up J1 234 (pre k (fun k => J1 223 (24 + k)) (J1 234)), K1)) 8 (G2, J1, K1) (by rw [pre_0, up_id]) (fun k hk => by
    have nn : ¬ (8 : Int32) ≤ Int32.ofNat k := fun p => by have := (i_le (a := 8) (by decide) (by omega)).mp p; omega
    have u4 : ∀ R, va_up J1 234 R 223 = J1 223 := fun R => up_ne (by decide)
    have e24 : (24 : Int32) + Int32.ofNat k = Int32.ofNat (24 + k) := i_add 24 k
    show f_X12_findBalanced (e + 6) 220 _ _ _ = f_X12_findBalanced (e + 6) 220 _ _ _
    rw [e_X12_findBalanced_220, if_neg nn]
    simp (disch := omega) only [↓vM lM, e24, up2_e, up_eq, up_up, u4, i_one]
    rw [pre_s]
    rfl)
  refine Eq.trans lp ?_
  show f_X12_findBalanced (e + 6) 220 _ _ _ = _
  rw [e_X12_findBalanced_220, if_pos (by decide)]
/-- what stands after the ways below c -/
def Ivw (c m n : Nat) (sk : Nat → Nat) (E : Nat → Int32) (J Jx : Nat → Nat → Int32) : Prop := (Jx 219 34 = -1 ∧ ∀ u, u < c → ¬ E u = 1) ∨ ∃ v, Bst c (fun u => tsm m u sk m) E v ∧ Jx 219 34 = Int32.ofNat (tsm m v sk m) ∧ ∀ k, k < n → Jx 234 k = if k < m then Int32.ofNat (dgt m v k) else J 223 (24 + k)
theorem lp_53 (e : Nat) {out want : Int32} (lM : LayM G2 219) (hn8 : n ≤ 8) (hsk : ∀ k, k < n → J 223 (24 + k) = Int32.ofNat (sk k) ∧ 1 ≤ sk k ∧ sk k ≤ 16) (q : WrR e out want G2 J n E) : ∀ k c, c + k = 4 ^ mq n → ∀ Jx Kx, QuB J Jx K Kx → Ivw c (mq n) n sk E J Jx → ∃ J' K', f_X12_findBalanced (e + 6) 53 [.ref 219, .int out, .int want, .int (Int32.ofNat (mq n)), .int (Int32.ofNat (4 ^ mq n)), .int (Int32.ofNat c), mU, mU, mU, mU] [] (G2, Jx, Kx) = f_X12_findBalanced (e + 6) 256 [.ref 219, mU, mU, mU, mU, mU, mU, mU, mU, mU] [] (G2, J', K') ∧ QuB J J' K K' ∧ Ivw (4 ^ mq n) (mq n) n sk E J J' := by
  have m4 := mq_le n
  have p44 := p4 m4.1
  intro k
  induction k with
  | zero =>
    intro c hc Jx Kx qb iv
    refine ⟨Jx, Kx, ?_, qb, by rw [show 4 ^ mq n = c by omega]; exact iv⟩
    rw [show c = 4 ^ mq n by omega, e_X12_findBalanced_53, if_pos i_rf]
  | succ k ih =>
    intro c hc Jx Kx qb iv
    have nn : ¬ Int32.ofNat (4 ^ mq n) ≤ Int32.ofNat c := fun p => by have := (i_le (by omega) (by omega)).mp p; omega
    obtain ⟨b1, b2, b3, b4, b5, b6⟩ := id qb
    have gv := r_give (e + 5) (J := Jx) (K := Kx) lM
    generalize hJ1 : va_up Jx 223 (pre 173 (Jx 224) (Jx 223)) = J1 at gv
    generalize hK1 : va_up Kx 225 (pre 16 (Kx 226) (Kx 225)) = K1 at gv
    have o1 : ∀ a, a ≠ 223 → J1 a = Jx a := fun a ha => by rw [← hJ1, up_ne ha]
    have o3 : ∀ j, j < 173 → J1 223 j = J 223 j := fun j hj => by rw [← hJ1, up_eq, pre_lt hj, b4 j hj]
    have k1 : ∀ a, a ≠ 225 → K1 a = Kx a := fun a ha => by rw [← hK1, up_ne ha]
    have tb : ∀ u, tsm (mq n) u sk (mq n) ≤ 15 * mq n := fun u => tsm_b (m := mq n) (c := u) (sk := sk) (mq n) (fun j hj => (hsk j (by omega)).2)
    have lp := lp_76 (sk := sk) e (c := c) (m := mq n) (out := out) (want := want) (x3 := Int32.ofNat (mq n)) (x4 := Int32.ofNat (4 ^ mq n)) (J1 := J1) (K1 := K1) lM m4.1 (by omega) (fun k hk => by rw [o1 224 (by decide), b4 (24 + k) (by omega)]; exact hsk k (by omega)) (mq n) 0 (Nat.le_refl _) (Nat.zero_add _)
    rw [wrow_m, up_id, Nat.sub_self, Nat.pow_zero, Nat.div_one] at lp
    generalize hJ2 : va_up J1 223 (wrow (mq n) c 0 (J1 223)) = J2 at lp
    have o2 : ∀ a, a ≠ 223 → J2 a = Jx a := fun a ha => by rw [← hJ2, up_ne ha, o1 a ha]
    have st : f_X12_findBalanced (e + 6) 53 [.ref 219, .int out, .int want, .int (Int32.ofNat (mq n)), .int (Int32.ofNat (4 ^ mq n)), .int (Int32.ofNat c), mU, mU, mU, mU] [] (G2, Jx, Kx) = f_X12_findBalanced (e + 6) 152 [.ref 219, .int out, .int want, .int (Int32.ofNat (mq n)), .int (Int32.ofNat (4 ^ mq n)), .int (Int32.ofNat c), .int (Int32.ofNat (tsm (mq n) c sk (mq n))), mU, mU, mU] [] (G2, J2, K1) := by
      rw [e_X12_findBalanced_53, if_neg nn]
      simp only [↓vM lM, ↓mcV_of gv]
      exact lp
    -- on to the next way
    have nxt : ∀ Ja Ka, QuB J Ja K Ka → Ivw (c + 1) (mq n) n sk E J Ja → f_X12_findBalanced (e + 6) 53 [.ref 219, .int out, .int want, .int (Int32.ofNat (mq n)), .int (Int32.ofNat (4 ^ mq n)), .int (Int32.ofNat c), mU, mU, mU, mU] [] (G2, Jx, Kx) = f_X12_findBalanced (e + 6) 250 [.ref 219, .int out, .int want, .int (Int32.ofNat (mq n)), .int (Int32.ofNat (4 ^ mq n)), .int (Int32.ofNat c), mU, mU, mU, mU] [] (G2, Ja, Ka) → ∃ J' K', f_X12_findBalanced (e + 6) 53 [.ref 219, .int out, .int want, .int (Int32.ofNat (mq n)), .int (Int32.ofNat (4 ^ mq n)), .int (Int32.ofNat c), mU, mU, mU, mU] [] (G2, Jx, Kx) = f_X12_findBalanced (e + 6) 256 [.ref 219, mU, mU, mU, mU, mU, mU, mU, mU, mU] [] (G2, J', K') ∧ QuB J J' K K' ∧ Ivw (4 ^ mq n) (mq n) n sk E J J' := by
      intro Ja Ka qa ia ea
      obtain ⟨J', K', c1, c2, c3⟩ := ih (c + 1) (by omega) Ja Ka qa ia
      refine ⟨J', K', ?_, c2, c3⟩
      rw [ea, e_X12_findBalanced_250, i_one]
      exact c1
    have q2 : QuB J J2 K K1 := by
      refine ⟨fun a h1 h2 h3 h4 h5 => by rw [o2 a h2, b1 a h1 h2 h3 h4 h5], fun k h1 h2 h3 => by rw [o2 219 (by decide), b2 k h1 h2 h3], by rw [o2 219 (by decide)]; exact b3, fun j hj => by rw [o2 224 (by decide)]; exact b4 j hj, fun a h1 h2 => by rw [k1 a h1]; exact b5 a h1 h2, fun j hj => by rw [k1 226 (by decide)]; exact b6 j hj⟩
    obtain ⟨e01, wr⟩ := q c (by omega)
    obtain ⟨J3, K3, w1, w2, w3, w4, w5⟩ := wr J2 K1 (Int32.ofNat (mq n)) (Int32.ofNat (4 ^ mq n)) (Int32.ofNat (tsm (mq n) c sk (mq n))) (by rw [o2 220 (by decide), b1 220 (by decide) (by decide) (by decide) (by decide) (by decide)]) (fun k h1 h2 h3 => by rw [o2 219 (by decide), b2 k h1 h2 h3]) (by rw [o2 219 (by decide)]; exact b3) (fun j hj => by
      rw [← hJ2, up_eq]
      unfold wrow
      rw [Nat.add_zero, o3 j hj])
    have q3 : QuB J J3 K K3 := by
      obtain ⟨c1, c2, c3, c4, c5, c6⟩ := q2
      refine ⟨fun a h1 h2 h3 h4 h5 => by rw [w2 a h1 h2 h4, c1 a h1 h2 h3 h4 h5], fun k h1 h2 h3 => by rw [w3 k h1, c2 k h1 h2 h3], by rw [w3 24 (by decide)]; exact c3, fun j hj => by rw [w2 224 (by decide) (by decide) (by decide)]; exact c4 j hj, fun a h1 h2 => by rw [w4 a h1]; exact c5 a h1 h2, fun j hj => by rw [w4 226 (by decide)]; exact c6 j hj⟩
    have j34 : J2 219 34 = Jx 219 34 := by rw [o2 219 (by decide)]
    -- when the way is tried
    have try_ : (∀ v, Bst c (fun u => tsm (mq n) u sk (mq n)) E v → tsm (mq n) c sk (mq n) < tsm (mq n) v sk (mq n)) → f_X12_findBalanced (e + 6) 152 [.ref 219, .int out, .int want, .int (Int32.ofNat (mq n)), .int (Int32.ofNat (4 ^ mq n)), .int (Int32.ofNat c), .int (Int32.ofNat (tsm (mq n) c sk (mq n))), mU, mU, mU] [] (G2, J2, K1) = f_X12_findBalanced (e + 6) 172 [.ref 219, .int out, .int want, .int (Int32.ofNat (mq n)), .int (Int32.ofNat (4 ^ mq n)), .int (Int32.ofNat c), .int (Int32.ofNat (tsm (mq n) c sk (mq n))), mU, mU, mU] [] (G2, J2, K1) → ∃ J' K', f_X12_findBalanced (e + 6) 53 [.ref 219, .int out, .int want, .int (Int32.ofNat (mq n)), .int (Int32.ofNat (4 ^ mq n)), .int (Int32.ofNat c), mU, mU, mU, mU] [] (G2, Jx, Kx) = f_X12_findBalanced (e + 6) 256 [.ref 219, mU, mU, mU, mU, mU, mU, mU, mU, mU] [] (G2, J', K') ∧ QuB J J' K K' ∧ Ivw (4 ^ mq n) (mq n) n sk E J J' := by
      intro better s152
      by_cases ce : E c = 0
      · have n1 : ¬ E c = 1 := by rw [ce]; decide
        rw [if_pos ce] at w1
        refine nxt J3 K3 q3 ?_ (st.trans (s152.trans w1))
        have a34 : J3 219 34 = Jx 219 34 := by rw [w3 34 (by decide), j34]
        have a234 : J3 234 = Jx 234 := by rw [w2 234 (by decide) (by decide) (by decide), o2 234 (by decide)]
        unfold Ivw
        rw [a34, a234]
        rcases iv with ⟨i1, i2⟩ | ⟨v, ⟨v1, v2, v3⟩, v4⟩
        · refine Or.inl ⟨i1, fun u hu => ?_⟩
          by_cases eu : u = c
          · rw [eu]; exact n1
          · exact i2 u (by omega)
        · refine Or.inr ⟨v, ⟨by omega, v2, fun u hu eu => ?_⟩, v4⟩
          by_cases ec : u = c
          · rw [ec] at eu; exact absurd eu n1
          · exact v3 u (by omega) eu
      · have c1 : E c = 1 := by
          rcases e01 with p | p
          · exact absurd p ce
          · exact p
        rw [if_neg ce, e_X12_findBalanced_211] at w1
        simp only [↓vM lM, up2_e] at w1
        rw [lp_220 e lM] at w1
        refine nxt _ K3 ?_ ?_ (st.trans (s152.trans w1))
        · obtain ⟨c1, c2, c3, c4, c5, c6⟩ := q3
          refine ⟨fun a h1 h2 h3 h4 h5 => ?_, fun k h1 h2 h3 => ?_, ?_, fun j hj => ?_, c5, c6⟩
          · rw [up_ne h5, up_ne h1]; exact c1 a h1 h2 h3 h4 h5
          · rw [up_ne (by decide), up_eq, up_ne h3]; exact c2 k h1 h2 h3
          · rw [up_ne (by decide), up_eq, up_ne (by decide)]; exact c3
          · rw [up_ne (by decide), up_ne (by decide)]; exact c4 j hj
        · refine Or.inr ⟨c, ⟨by omega, c1, fun u hu eu => ?_⟩, ?_, fun k hk => ?_⟩
          · show tsm (mq n) c sk (mq n) < tsm (mq n) u sk (mq n) ∨ (tsm (mq n) c sk (mq n) = tsm (mq n) u sk (mq n) ∧ c ≤ u)
            by_cases ec : u = c
            · rw [ec]; right; exact ⟨rfl, Nat.le_refl _⟩
            · left
              rcases iv with ⟨-, i2⟩ | ⟨v, bv, -⟩
              · exact absurd eu (i2 u (by omega))
              · have x := better v bv
                have y : tsm (mq n) v sk (mq n) < tsm (mq n) u sk (mq n) ∨ (tsm (mq n) v sk (mq n) = tsm (mq n) u sk (mq n) ∧ v ≤ u) := bv.2.2 u (by omega) eu
                omega
          · rw [up_ne (by decide), up_eq, up_eq]
          · rw [up_eq, pre_lt (by omega), up_ne (by decide)]
            exact w5 k hk
    rcases id iv with ⟨i1, i2⟩ | ⟨v, bv, v4, v5⟩
    · refine try_ (fun v bv => absurd bv.2.1 (i2 v bv.1)) ?_
      rw [e_X12_findBalanced_152]
      simp only [↓vM lM, j34, i1, if_true]
    · have t1 := tb c
      have t2 := tb v
      have n1 : ¬ Int32.ofNat (tsm (mq n) v sk (mq n)) = -1 := nm1 (by omega)
      by_cases lt : tsm (mq n) c sk (mq n) < tsm (mq n) v sk (mq n)
      · have lt' : Int32.ofNat (tsm (mq n) c sk (mq n)) < Int32.ofNat (tsm (mq n) v sk (mq n)) := (i_lt (by omega) (by omega)).mpr lt
        refine try_ (fun v' bv' => by rw [Bst_u bv' bv]; exact lt) ?_
        rw [e_X12_findBalanced_152]
        simp only [↓vM lM, j34, v4, if_neg n1, if_pos lt']
      · have lt' : ¬ Int32.ofNat (tsm (mq n) c sk (mq n)) < Int32.ofNat (tsm (mq n) v sk (mq n)) := fun p => lt ((i_lt (by omega) (by omega)).mp p)
        refine nxt J2 K1 q2 ?_ ?_
        · unfold Ivw
          rw [j34, o2 234 (by decide)]
          refine Or.inr ⟨v, ⟨by have := bv.1; omega, bv.2.1, fun u hu eu => ?_⟩, v4, v5⟩
          show tsm (mq n) v sk (mq n) < tsm (mq n) u sk (mq n) ∨ (tsm (mq n) v sk (mq n) = tsm (mq n) u sk (mq n) ∧ v ≤ u)
          by_cases ec : u = c
          · rw [ec]
            have := bv.1
            omega
          · exact bv.2.2 u (by omega) eu
        · refine st.trans ?_
          rw [e_X12_findBalanced_152]
          simp only [↓vM lM, j34, v4, if_neg n1, if_neg lt']
theorem WrR_c {e : Nat} {out want : Int32} {J0 : Nat → Nat → Int32} (q : WrR e out want G2 J n E) (h0 : J0 220 = J 220) (h3 : J0 223 = J 223) (h9 : ∀ k, k ≠ 17 → k ≠ 24 → k ≠ 34 → J0 219 k = J 219 k) : WrR e out want G2 J0 n E := by
  intro c hc
  obtain ⟨a, b⟩ := q c hc
  refine ⟨a, fun J1 K1 x3 x4 t e0 e9 e24 e3 => ?_⟩
  rw [h3]
  exact b J1 K1 x3 x4 t (e0.trans h0) (fun k h1 h2 h4 => (e9 k h1 h2 h4).trans (h9 k h1 h2 h4)) e24 (fun j hj => by rw [e3 j hj, h3])
/-- the reference's search -/
theorem fb_r (e : Nat) {out want : Int32} (lM : LayM G2 219) (s5 : J 220 164 = Int32.ofNat n) (hn8 : n ≤ 8) (f24 : J 219 24 = 0) (hsk : ∀ k, k < n → J 223 (24 + k) = Int32.ofNat (sk k) ∧ 1 ≤ sk k ∧ sk k ≤ 16) (q0 : WrR e out want G2 J n E) : ∃ b J' K', mcal mT (e + 7) 253 [.ref 219, .int out, .int want] (G2, J, K) = some (.inl (some (.int b)), (G2, J', K')) ∧ QuR J J' K K' ∧ ((b = 0 ∧ ∀ u, u < 4 ^ mq n → ¬ E u = 1) ∨ (b = 1 ∧ ∃ v, Bst (4 ^ mq n) (fun u => tsm (mq n) u sk (mq n)) E v ∧ J' 219 34 = Int32.ofNat (tsm (mq n) v sk (mq n)) ∧ ∀ k, k < n → J' 234 k = if k < mq n then Int32.ofNat (dgt (mq n) v k) else J 223 (24 + k))) := by
  have m4 := mq_le n
  have p44 := p4 m4.1
  -- up to the ways
  have a16 : mcal mT (e + 7) 253 [.ref 219, .int out, .int want] (G2, J, K) = f_X12_findBalanced (e + 6) 23 [.ref 219, .int out, .int want, .int (Int32.ofNat (mq n)), .int (Int32.ofNat (4 ^ 0)), .int 0, mU, mU, mU, mU] [] (G2, J, K) := by
    have rd := r_radiators (e + 5) (I := J) (L := K) lM
    have rd' : mcal mT (e + 6) 200 [.ref 219] (G2, J, K) = some (.inl (some (.int (Int32.ofNat n))), (G2, J, K)) := by rw [← s5]; exact rd
    rw [q_X12_findBalanced_, e_X12_findBalanced_0]
    by_cases c : 4 ≤ n
    · have c' : (4 : Int32) ≤ Int32.ofNat n := (i_le (a := 4) (by decide) (by omega)).mpr c
      simp only [↓vM lM, ↓mcI_of rd', if_pos c', e_X12_findBalanced_15, e_X12_findBalanced_16]
      have : mq n = 4 := by unfold mq; rw [if_pos c]
      rw [this]
      rfl
    · have c' : ¬ (4 : Int32) ≤ Int32.ofNat n := fun p => c ((i_le (a := 4) (by decide) (by omega)).mp p)
      simp only [↓vM lM, ↓mcI_of rd', if_neg c', e_X12_findBalanced_16]
      have : mq n = n := by unfold mq; rw [if_neg c]
      rw [this]
      rfl
  have a41 : f_X12_findBalanced (e + 6) 23 [.ref 219, .int out, .int want, .int (Int32.ofNat (mq n)), .int (Int32.ofNat (4 ^ 0)), .int 0, mU, mU, mU, mU] [] (G2, J, K) = f_X12_findBalanced (e + 6) 41 [.ref 219, .int out, .int want, .int (Int32.ofNat (mq n)), .int (Int32.ofNat (4 ^ mq n)), mU, mU, mU, mU, mU] [] (G2, J, K) := by
    have lp := loopx (fun k (s : Int32) => f_X12_findBalanced (e + 6) 23 [.ref 219, .int out, .int want, .int (Int32.ofNat (mq n)), .int s, .int k, mU, mU, mU, mU] [] (G2, J, K)) (fun k => Int32.ofNat (4 ^ k)) (mq n) (fun k hk => by
      have nn : ¬ Int32.ofNat (mq n) ≤ Int32.ofNat k := fun p => by have := (i_le (by omega) (by omega)).mp p; omega
      have e4 : Int32.ofNat (4 ^ k) * 4 = Int32.ofNat (4 ^ (k + 1)) := by
        rw [show (4 : Int32) = Int32.ofNat 4 from rfl, i_mul, Nat.pow_succ]
      show f_X12_findBalanced (e + 6) 23 _ _ _ = f_X12_findBalanced (e + 6) 23 _ _ _
      rw [e_X12_findBalanced_23, if_neg nn, e4, i_one])
    refine Eq.trans lp ?_
    show f_X12_findBalanced (e + 6) 23 _ _ _ = _
    rw [e_X12_findBalanced_23, if_pos i_rf]
  generalize hJ0 : va_up J 219 (va_up (J 219) 34 (-1)) = J0
  have kp := r_keep (e + 5) (J := J0) (K := K) lM
  have z0 : ∀ a, a ≠ 219 → J0 a = J a := fun a ha => by rw [← hJ0, up_ne ha]
  have z9 : ∀ k, k ≠ 34 → J0 219 k = J 219 k := fun k hk => by rw [← hJ0, up_eq, up_ne hk]
  have q : WrR e out want G2 J0 n E := WrR_c q0 (z0 220 (by decide)) (z0 223 (by decide)) (fun k _ _ h => z9 k h)
  have k9 : ∀ k, k ≠ 24 → rKp J0 219 k = J0 219 k := fun k hk => by unfold rKp; rw [up_ne (by decide), up_eq, up_ne hk]
  have k24 : rKp J0 219 24 = 1 := by unfold rKp; rw [up_ne (by decide), up_eq, up_eq]
  have ko : ∀ a, a ≠ 219 → a ≠ 224 → rKp J0 a = J0 a := fun a h1 h2 => by unfold rKp; rw [up_ne h2, up_ne h1]
  have k4 : rKp J0 224 = pre 173 (J0 223) (J0 224) := by unfold rKp; rw [up_eq]
  have qb : QuB J0 (rKp J0) K (va_up K 226 (pre 16 (K 225) (K 226))) := by
    refine ⟨fun a h1 h2 h3 h4 h5 => ko a h1 h3, fun k h1 h2 h3 => k9 k h2, k24, fun j hj => by rw [k4, pre_lt hj], fun a h1 h2 => up_ne h2, fun j hj => by rw [up_eq, pre_lt hj]⟩
  obtain ⟨J1, K1, c1, c2, c3⟩ := lp_53 (K := K) (sk := sk) e (out := out) (want := want) lM hn8 (fun k hk => by rw [z0 223 (by decide)]; exact hsk k hk) q (4 ^ mq n) 0 (Nat.zero_add _) _ _ qb (Or.inl ⟨by rw [k9 34 (by decide), ← hJ0, up_eq, up_eq], fun u hu => by omega⟩)
  have en := r_ends (e + 4) (J := J1) (K := K1) lM
  generalize hJ2 : va_up (va_up J1 223 (pre 173 (J1 224) (J1 223))) 219 (va_up (J1 219) 24 0) = J2 at en
  have g9 : ∀ k, k ≠ 24 → J2 219 k = J1 219 k := fun k hk => by rw [← hJ2, up_eq, up_ne hk]
  have go : ∀ a, a ≠ 219 → a ≠ 223 → J2 a = J1 a := fun a h1 h2 => by rw [← hJ2, up_ne h1, up_ne h2]
  obtain ⟨d1, d2, d3, d4, d5, d6⟩ := c2
  have qr : QuR J J2 K (va_up K1 225 (pre 16 (K1 226) (K1 225))) := by
    refine ⟨fun a h1 h2 h3 h4 h5 => ?_, fun k h1 h2 h3 h4 h5 => ?_, fun j hj => ?_, fun a h1 h2 => ?_, fun j hj => ?_⟩
    · rw [go a h1 h2, d1 a h1 h2 h3 h4 h5, z0 a h1]
    · by_cases c : k = 24
      · rw [c, ← hJ2, up_eq, up_eq, f24]
      · rw [g9 k c, d2 k h1 c h5, z9 k h5]
    · rw [← hJ2, up_ne (by decide), up_eq, pre_lt hj, d4 j hj, z0 223 (by decide)]
    · rw [up_ne h1, d5 a h1 h2]
    · rw [up_eq, pre_lt hj, d6 j hj]
  have run : mcal mT (e + 7) 253 [.ref 219, .int out, .int want] (G2, J, K) = (if J2 219 34 = -1 then f_X12_findBalanced (e + 6) 272 [mU, mU, mU, mU, mU, mU, mU, mU, mU, mU] [] (G2, J2, va_up K1 225 (pre 16 (K1 226) (K1 225))) else f_X12_findBalanced (e + 6) 273 [mU, mU, mU, mU, mU, mU, mU, mU, mU, mU] [.int 1] (G2, J2, va_up K1 225 (pre 16 (K1 226) (K1 225)))) := by
    rw [a16, a41, e_X12_findBalanced_41]
    simp only [↓vM lM, up2_e, hJ0, ↓mcV_of kp]
    refine Eq.trans c1 ?_
    rw [e_X12_findBalanced_256]
    simp only [↓vM lM, ↓mcV_of en]
  rcases c3 with ⟨i1, i2⟩ | ⟨v, v1, v2, v3⟩
  · refine ⟨0, J2, _, ?_, qr, Or.inl ⟨rfl, i2⟩⟩
    rw [run, if_pos (by rw [g9 34 (by decide)]; exact i1), e_X12_findBalanced_272, e_X12_findBalanced_273, mb0]
  · have tb := tsm_b (m := mq n) (c := v) (sk := sk) (mq n) (fun j hj => (hsk j (by omega)).2)
    have e34 : J2 219 34 = Int32.ofNat (tsm (mq n) v sk (mq n)) := by rw [g9 34 (by decide)]; exact v2
    refine ⟨1, J2, _, ?_, qr, Or.inr ⟨rfl, v, v1, e34, fun k hk => ?_⟩⟩
    · rw [run, e34, if_neg (nm1 (by omega)), e_X12_findBalanced_273, mb1]
    · rw [go 234 (by decide) (by decide), v3 k hk, z0 223 (by decide)]
end
