/-! call: pays -/
/-- one who is ahead in rests -/
def ahd (R : Nat → Nat) (r k : Nat) : Nat := if R r < R k ∨ (R k = R r ∧ k < r) then 1 else 0
/-- what one pays -/
def pay (P : Nat → Nat) (n B r : Nat) : Nat := B * P r / sN P n + (if sN (ahd (fun k => B * P k % sN P n) r) n < sN (fun k => B * P k % sN P n) n / sN P n then 1 else 0)
theorem pay_l {P : Nat → Nat} {n B : Nat} (hA : 0 < sN P n) : sN (fun k => B * P k % sN P n) n / sN P n = B - sN (fun k => B * P k / sN P n) n ∧ sN (fun k => B * P k / sN P n) n ≤ B := by
  have a := sN_mul (f := P) (b := B) n
  have b := sN_qr (f := fun k => B * P k) (a := sN P n) n
  rw [a] at b
  have c : sN P n * sN (fun k => B * P k / sN P n) n ≤ sN P n * B := by
    rw [Nat.mul_comm (sN P n) B, b]
    exact Nat.le_add_right _ _
  have d := Nat.le_of_mul_le_mul_left c hA
  refine ⟨?_, d⟩
  have e : sN (fun k => B * P k % sN P n) n = sN P n * (B - sN (fun k => B * P k / sN P n) n) := by
    rw [Nat.mul_sub]
    rw [Nat.mul_comm B] at b
    omega
  rw [e, Nat.mul_div_cancel_left _ hA]
theorem ahd_b {R : Nat → Nat} {r : Nat} : ∀ n, sN (ahd R r) n ≤ n := by
  intro n
  have := sN_le (f := ahd R r) (b := 1) n (fun k _ => by unfold ahd; split <;> omega)
  omega
section
variable {G : mG} {I : Nat → Nat → Int32} {L : Nat → Nat → Int64} {h hs bl bs cl cs n r B : Nat} {P : Nat → Nat}
/-- what is needed of the numbers -/
def PyN (P : Nat → Nat) (n B r : Nat) : Prop := n ≤ 8 ∧ r < n ∧ B ≤ 1000000 ∧ (∀ k, k < n → P k ≤ 1000000)
theorem py_b (q : PyN P n B r) : sN P n ≤ 8000000 ∧ (∀ k, k < n → B * P k ≤ 1000000000000) := by
  obtain ⟨q1, q2, q3, q4⟩ := q
  have := sN_le n q4
  refine ⟨by omega, fun k hk => ?_⟩
  exact Nat.le_trans (Nat.mul_le_mul q3 (q4 k hk)) (by decide)
theorem sN_rb (q : PyN P n B r) : sN (fun k => B * P k % sN P n) n ≤ 1000000000000 * n := sN_le n (fun k hk => Nat.le_trans (Nat.mod_le _ _) ((py_b q).2 k hk))
/-- the class's rests -/
theorem c_ahead (d : Nat) (q : PyN P n B r) (hA : 0 < sN P n) (lB : LayB G hs bl bs cl cs) (lP : LayP G 117 h 132 139 153) (lH : LayH G h) (s4 : I h 10 = Int32.ofNat n) (hp : ∀ k, k < n → I 216 k = Int32.ofNat (P k)) : mcal mT (d + 1) 153 [.ref 100, .int (Int32.ofNat r), .int (Int32.ofNat B), .long (Int64.ofNat (sN P n))] (G, I, L) = some (.inl (some (.int (if sN (ahd (fun k => B * P k % sN P n) r) n < sN (fun k => B * P k % sN P n) n / sN P n then 1 else 0))), (G, I, L)) := by
  obtain ⟨q1, q2, q3, q4⟩ := id q
  obtain ⟨bA, bP⟩ := py_b q
  have lBB : Int32.toInt64 (Int32.ofNat B) = Int64.ofNat B := l_t (by omega)
  have lPP : ∀ k, k < n → Int32.toInt64 (Int32.ofNat (P k)) = Int64.ofNat (P k) := fun k hk => l_t (by have := q4 k hk; omega)
  have nz : ¬ Int64.ofNat (sN P n) = 0 := fun p => by have := (l_eq (b := 0) (by omega) (by decide)).mp p; omega
  have gt0 : 0 < lg_cmp (Int64.ofNat (sN P n)) 0 := lc_gt.mpr ((l_lt (a := 0) (by decide) (by omega)).mpr hA)
  have rem : ∀ k, k < n → Int64.ofNat (B * P k) - Int64.ofNat (B * P k) / Int64.ofNat (sN P n) * Int64.ofNat (sN P n) = Int64.ofNat (B * P k % sN P n) := fun k hk => l_rem (by have := bP k hk; omega) (by omega)
  have rb : ∀ k, k < n → B * P k % sN P n < 9223372036854775808 := fun k hk => by have := bP k hk; have := Nat.mod_le (B * P k) (sN P n); omega
  rw [q_X11_isAheadInRests_, e_X11_isAheadInRests_0, if_pos gt0, e_X11_isAheadInRests_8]
  simp (disch := omega) only [↓vB lB, hp r q2, if_neg nz, lBB, lPP r q2, l_mul, rem r q2]
  have lp := loopx (fun k (s : Int64 × Int32) => f_X11_isAheadInRests d 31 [.ref 100, .int (Int32.ofNat r), .int (Int32.ofNat B), .long (Int64.ofNat (sN P n)), mU, .long (Int64.ofNat (B * P r % sN P n)), mU, .long s.1, mU, .int s.2, .int k, mU, mU] [] (G, I, L)) (fun k => (Int64.ofNat (sN (fun k => B * P k % sN P n) k), Int32.ofNat (sN (ahd (fun k => B * P k % sN P n) r) k))) n (fun k hk => by
    have nn : ¬ Int32.ofNat n ≤ Int32.ofNat k := fun p => by have := (i_le (by omega) (by omega)).mp p; omega
    show f_X11_isAheadInRests d 31 [_, _, _, _, _, _, _, _, _, _, _, _, _] _ _ = f_X11_isAheadInRests d 31 [_, _, _, _, _, _, _, _, _, _, _, _, _] _ _
    rw [e_X11_isAheadInRests_31]
    simp (disch := omega) only [↓vB lB, ↓vP lP, ↓vH lH, s4, if_neg nn, hp k hk, if_neg nz, lBB, lPP k hk, l_mul, rem k hk]
    have fin1 : sN (fun k => B * P k % sN P n) (k + 1) = sN (fun k => B * P k % sN P n) k + B * P k % sN P n := rfl
    have fin2 : sN (ahd (fun k => B * P k % sN P n) r) (k + 1) = sN (ahd (fun k => B * P k % sN P n) r) k + ahd (fun k => B * P k % sN P n) r k := rfl
    rw [fin1]
    have z0 : ahd (fun k => B * P k % sN P n) r k = 0 → sN (ahd (fun k => B * P k % sN P n) r) (k + 1) = sN (ahd (fun k => B * P k % sN P n) r) k := fun e => by rw [fin2, e]; rfl
    have z1 : ahd (fun k => B * P k % sN P n) r k = 1 → sN (ahd (fun k => B * P k % sN P n) r) (k + 1) = sN (ahd (fun k => B * P k % sN P n) r) k + 1 := fun e => by rw [fin2, e]
    by_cases c1 : B * P r % sN P n < B * P k % sN P n
    · rw [if_pos (lc_gt.mpr ((l_lt (rb r q2) (rb k hk)).mpr c1)), e_X11_isAheadInRests_90, e_X11_isAheadInRests_93, z1 (if_pos (Or.inl c1)), l_add, i_one, i_one]
    · rw [if_neg (fun p => c1 ((l_lt (rb r q2) (rb k hk)).mp (lc_gt.mp p)))]
      by_cases c2 : B * P k % sN P n = B * P r % sN P n
      · rw [if_pos (lc_0.mpr ((l_eq (rb k hk) (rb r q2)).mpr c2))]
        by_cases c3 : k < r
        · rw [if_neg (fun p => by have := (i_le (by omega) (by omega)).mp p; omega), e_X11_isAheadInRests_90, e_X11_isAheadInRests_93, z1 (if_pos (Or.inr ⟨c2, c3⟩)), l_add, i_one, i_one]
        · rw [if_pos ((i_le (by omega) (by omega)).mpr (by omega)), e_X11_isAheadInRests_93, z0 (if_neg (fun p => by rcases p with p | p; exact c1 p; exact c3 p.2)), l_add, i_one]
      · rw [if_neg (fun p => c2 ((l_eq (rb k hk) (rb r q2)).mp (lc_0.mp p))), e_X11_isAheadInRests_93, z0 (if_neg (fun p => by rcases p with p | p; exact c1 p; exact c2 p.1)), l_add, i_one])
  refine Eq.trans lp ?_
  have ab := ahd_b (R := fun k => B * P k % sN P n) (r := r) n
  have sb := sN_rb q
  have sb2 : sN (fun k => B * P k % sN P n) n / sN P n ≤ sN (fun k => B * P k % sN P n) n := Nat.div_le_self _ _
  have big : 1000000000000 * n ≤ 8000000000000 := by omega
  have la : Int32.toInt64 (Int32.ofNat (sN (ahd (fun k => B * P k % sN P n) r) n)) = Int64.ofNat (sN (ahd (fun k => B * P k % sN P n) r) n) := l_t (by omega)
  show f_X11_isAheadInRests d 31 [_, _, _, _, _, _, _, _, _, _, _, _, _] _ _ = _
  rw [e_X11_isAheadInRests_31]
  simp only [↓vB lB, ↓vP lP, ↓vH lH, s4, if_pos i_rf, e_X11_isAheadInRests_99, if_neg nz]
  rw [la, l_div (by omega) (by omega)]
  by_cases c : sN (ahd (fun k => B * P k % sN P n) r) n < sN (fun k => B * P k % sN P n) n / sN P n
  · rw [if_pos c, if_neg (fun p => by have := (l_le (by omega) (by omega)).mp (lc_ge.mp p); omega), e_X11_isAheadInRests_115, mb1]
  · rw [if_neg c, if_pos (lc_ge.mpr ((l_le (by omega) (by omega)).mpr (by omega))), e_X11_isAheadInRests_114, e_X11_isAheadInRests_115, mb0]
end
section
variable {G : mG} {J : Nat → Nat → Int32} {K : Nat → Nat → Int64} {n r B : Nat} {P : Nat → Nat}
/-- the reference's sum -/
theorem r_pays (e : Nat) (q : PyN P n B r) (lM : LayM G 219) (s5 : J 220 164 = Int32.ofNat n) (hp : ∀ k, k < n → ∀ Jx, QuQ J Jx → ∃ J', mcal mT (e + 3) 266 [.ref 219, .int (Int32.ofNat k)] (G, Jx, K) = some (.inl (some (.int (Int32.ofNat (P k)))), (G, J', K)) ∧ QuQ J J') : ∃ J', f_X12_pays (e + 3) 31 [.ref 219, .int (Int32.ofNat r), .int (Int32.ofNat B), mU, mU, mU, mU, mU, mU, mU, mU, mU] [] (G, J, K) = some (.inl (some (.int (if sN P n = 0 then 0 else Int32.ofNat (pay P n B r)))), (G, J', K)) ∧ QuQ J J' := by
  obtain ⟨q1, q2, q3, q4⟩ := id q
  obtain ⟨bA, bP⟩ := py_b q
  have lBB : Int32.toInt64 (Int32.ofNat B) = Int64.ofNat B := l_t (by omega)
  have lPP : ∀ k, k < n → Int32.toInt64 (Int32.ofNat (P k)) = Int64.ofNat (P k) := fun k hk => l_t (by have := q4 k hk; omega)
  have rd : ∀ Jx, QuQ J Jx → mcal mT (e + 3) 200 [.ref 219] (G, Jx, K) = some (.inl (some (.int (Int32.ofNat n))), (G, Jx, K)) := fun Jx qj => by
    rw [← s5, ← qj 220 (by decide)]; exact r_radiators (e + 2) lM
  have nk : ∀ k, k < n → ¬ Int32.ofNat n ≤ Int32.ofNat k := fun k hk p => by have := (i_le (by omega) (by omega)).mp p; omega
  have l36 : ∀ m k, k + m = n → ∀ Jx, QuQ J Jx → ∃ J', QuQ J J' ∧ f_X12_pays (e + 3) 36 [.ref 219, .int (Int32.ofNat r), .int (Int32.ofNat B), .long (Int64.ofNat (sN P k)), mU, .int (Int32.ofNat k), mU, mU, mU, mU, mU, mU] [] (G, Jx, K) = f_X12_pays (e + 3) 61 [.ref 219, .int (Int32.ofNat r), .int (Int32.ofNat B), .long (Int64.ofNat (sN P n)), mU, mU, mU, mU, mU, mU, mU, mU] [] (G, J', K) := by
    intro m
    induction m with
    | zero =>
      intro k hk Jx qj
      rw [show k = n by omega]
      refine ⟨Jx, qj, ?_⟩
      rw [e_X12_pays_36]
      simp only [↓vM lM, ↓mcI_of (rd Jx qj), if_pos i_rf]
    | succ m ih =>
      intro k hk Jx qj
      obtain ⟨J1, a1, a2⟩ := hp k (by omega) Jx qj
      obtain ⟨J', b1, b2⟩ := ih (k + 1) (by omega) J1 a2
      refine ⟨J', b1, ?_⟩
      rw [e_X12_pays_36]
      simp only [↓vM lM, ↓mcI_of (rd Jx qj), if_neg (nk k (by omega)), ↓mcI_of a1, lPP k (by omega), l_add, i_one]
      exact b2
  obtain ⟨J1, c1, c2⟩ := l36 n 0 (Nat.zero_add _) J (fun _ _ => rfl)
  have st : f_X12_pays (e + 3) 31 [.ref 219, .int (Int32.ofNat r), .int (Int32.ofNat B), mU, mU, mU, mU, mU, mU, mU, mU, mU] [] (G, J, K) = f_X12_pays (e + 3) 61 [.ref 219, .int (Int32.ofNat r), .int (Int32.ofNat B), .long (Int64.ofNat (sN P n)), mU, mU, mU, mU, mU, mU, mU, mU] [] (G, J1, K) := by
    rw [e_X12_pays_31]
    exact c2
  by_cases z : sN P n = 0
  · refine ⟨J1, ?_, c1⟩
    rw [st, e_X12_pays_61, if_pos (lc_0.mpr (by rw [z]; rfl)), if_pos z]
  have hA : 0 < sN P n := by omega
  have nz : ¬ Int64.ofNat (sN P n) = 0 := fun p => by have := (l_eq (b := 0) (by omega) (by decide)).mp p; omega
  have rem : ∀ k, k < n → Int64.ofNat (B * P k) - Int64.ofNat (B * P k) / Int64.ofNat (sN P n) * Int64.ofNat (sN P n) = Int64.ofNat (B * P k % sN P n) := fun k hk => l_rem (by have := bP k hk; omega) (by omega)
  have rb : ∀ k, k < n → B * P k % sN P n < 9223372036854775808 := fun k hk => by have := bP k hk; have := Nat.mod_le (B * P k) (sN P n); omega
  obtain ⟨pl1, pl2⟩ := pay_l (B := B) hA
  have qm : ∀ k, k ≤ n → sN (fun k => B * P k / sN P n) k ≤ B := fun k hk => Nat.le_trans (sN_m hk) pl2
  have qk : ∀ k, k < n → B * P k / sN P n ≤ B := fun k hk => by
    have a := qm (k + 1) (by omega)
    have b : sN (fun k => B * P k / sN P n) (k + 1) = sN (fun k => B * P k / sN P n) k + B * P k / sN P n := rfl
    omega
  have dv : ∀ k, k < n → Int64.toInt32 (Int64.ofNat (B * P k) / Int64.ofNat (sN P n)) = Int32.ofNat (B * P k / sN P n) := fun k hk => by
    rw [l_div (by have := bP k hk; omega) (by omega), l_32 (by have := qk k hk; omega)]
  have l75 : ∀ m k, k + m = n → ∀ Jx, QuQ J Jx → ∃ J', QuQ J J' ∧ f_X12_pays (e + 3) 75 [.ref 219, .int (Int32.ofNat r), .int (Int32.ofNat B), .long (Int64.ofNat (sN P n)), mU, .int (Int32.ofNat (B - sN (fun k => B * P k / sN P n) k)), .int (Int32.ofNat k), mU, mU, mU, mU, mU] [] (G, Jx, K) = f_X12_pays (e + 3) 108 [.ref 219, .int (Int32.ofNat r), .int (Int32.ofNat B), .long (Int64.ofNat (sN P n)), mU, .int (Int32.ofNat (B - sN (fun k => B * P k / sN P n) n)), mU, mU, mU, mU, mU, mU] [] (G, J', K) := by
    intro m
    induction m with
    | zero =>
      intro k hk Jx qj
      rw [show k = n by omega]
      refine ⟨Jx, qj, ?_⟩
      rw [e_X12_pays_75]
      simp only [↓vM lM, ↓mcI_of (rd Jx qj), if_pos i_rf]
    | succ m ih =>
      intro k hk Jx qj
      obtain ⟨J1, a1, a2⟩ := hp k (by omega) Jx qj
      obtain ⟨J', b1, b2⟩ := ih (k + 1) (by omega) J1 a2
      refine ⟨J', b1, ?_⟩
      have m1 := qm (k + 1) (by omega)
      have m2 : sN (fun k => B * P k / sN P n) (k + 1) = sN (fun k => B * P k / sN P n) k + B * P k / sN P n := rfl
      rw [e_X12_pays_75]
      simp only [↓vM lM, ↓mcI_of (rd Jx qj), if_neg (nk k (by omega)), ↓mcI_of a1, if_neg nz, lBB, lPP k (by omega), l_mul, dv k (by omega), i_one]
      rw [i_sub (by omega) (by omega), show B - sN (fun k => B * P k / sN P n) k - B * P k / sN P n = B - sN (fun k => B * P k / sN P n) (k + 1) by omega]
      exact b2
  obtain ⟨J2, d1, d2⟩ := l75 n 0 (Nat.zero_add _) J1 c1
  obtain ⟨J3, e1, e2⟩ := hp r q2 J2 d1
  have l127 : ∀ m k, k + m = n → ∀ Jx, QuQ J Jx → ∃ J', QuQ J J' ∧ f_X12_pays (e + 3) 127 [.ref 219, .int (Int32.ofNat r), .int (Int32.ofNat B), .long (Int64.ofNat (sN P n)), mU, .int (Int32.ofNat (B - sN (fun k => B * P k / sN P n) n)), .long (Int64.ofNat (B * P r % sN P n)), mU, .int (Int32.ofNat (sN (ahd (fun k => B * P k % sN P n) r) k)), .int (Int32.ofNat k), mU, mU] [] (G, Jx, K) = f_X12_pays (e + 3) 188 [.ref 219, .int (Int32.ofNat r), .int (Int32.ofNat B), .long (Int64.ofNat (sN P n)), mU, .int (Int32.ofNat (B - sN (fun k => B * P k / sN P n) n)), mU, mU, .int (Int32.ofNat (sN (ahd (fun k => B * P k % sN P n) r) n)), mU, mU, mU] [] (G, J', K) := by
    intro m
    induction m with
    | zero =>
      intro k hk Jx qj
      rw [show k = n by omega]
      refine ⟨Jx, qj, ?_⟩
      rw [e_X12_pays_127]
      simp only [↓vM lM, ↓mcI_of (rd Jx qj), if_pos i_rf]
    | succ m ih =>
      intro k hk' Jx qj
      have hk : k < n := by omega
      obtain ⟨J1, a1, a2⟩ := hp k hk Jx qj
      obtain ⟨J', b1, b2⟩ := ih (k + 1) (by omega) J1 a2
      refine ⟨J', b1, ?_⟩
      rw [e_X12_pays_127]
      simp only [↓vM lM, ↓mcI_of (rd Jx qj), if_neg (nk k hk), ↓mcI_of a1, if_neg nz, lBB, lPP k hk, l_mul, rem k hk]
      refine Eq.trans ?_ b2
      have fin2 : sN (ahd (fun k => B * P k % sN P n) r) (k + 1) = sN (ahd (fun k => B * P k % sN P n) r) k + ahd (fun k => B * P k % sN P n) r k := rfl
      have z0 : ahd (fun k => B * P k % sN P n) r k = 0 → sN (ahd (fun k => B * P k % sN P n) r) (k + 1) = sN (ahd (fun k => B * P k % sN P n) r) k := fun e => by rw [fin2, e]; rfl
      have z1 : ahd (fun k => B * P k % sN P n) r k = 1 → sN (ahd (fun k => B * P k % sN P n) r) (k + 1) = sN (ahd (fun k => B * P k % sN P n) r) k + 1 := fun e => by rw [fin2, e]
      by_cases c1 : B * P r % sN P n < B * P k % sN P n
      · rw [if_pos (lc_gt.mpr ((l_lt (rb r q2) (rb k hk)).mpr c1)), e_X12_pays_174, e_X12_pays_179, z1 (if_pos (Or.inl c1)), i_one, i_one]
      · rw [if_neg (fun p => c1 ((l_lt (rb r q2) (rb k hk)).mp (lc_gt.mp p)))]
        by_cases c2 : B * P k % sN P n = B * P r % sN P n
        · rw [if_pos (lc_0.mpr ((l_eq (rb k hk) (rb r q2)).mpr c2))]
          by_cases c3 : k < r
          · rw [if_neg (fun p => by have := (i_le (by omega) (by omega)).mp p; omega), e_X12_pays_174, e_X12_pays_179, z1 (if_pos (Or.inr ⟨c2, c3⟩)), i_one, i_one]
          · rw [if_pos ((i_le (by omega) (by omega)).mpr (by omega)), e_X12_pays_178, e_X12_pays_179, z0 (if_neg (fun p => by rcases p with p | p; exact c1 p; exact c3 p.2)), Int32.add_zero, i_one]
        · rw [if_neg (fun p => c2 ((l_eq (rb k hk) (rb r q2)).mp (lc_0.mp p))), e_X12_pays_178, e_X12_pays_179, z0 (if_neg (fun p => by rcases p with p | p; exact c1 p; exact c2 p.1)), Int32.add_zero, i_one]
  obtain ⟨J4, f1, f2⟩ := l127 n 0 (Nat.zero_add _) J3 e2
  obtain ⟨J5, h1, h2⟩ := hp r q2 J4 f1
  refine ⟨J5, ?_, h2⟩
  have ab := ahd_b (R := fun k => B * P k % sN P n) (r := r) n
  rw [st, e_X12_pays_61, if_neg (fun p => nz (lc_0.mp p)), if_neg z, e_X12_pays_69]
  refine Eq.trans d2 ?_
  rw [e_X12_pays_108]
  simp only [↓vM lM, ↓mcI_of e1, if_neg nz, lBB, lPP r q2, l_mul, rem r q2]
  refine Eq.trans f2 ?_
  rw [e_X12_pays_188]
  simp only [↓vM lM, ↓mcI_of h1, if_neg nz, lBB, lPP r q2, l_mul, dv r q2]
  unfold pay
  rw [pl1]
  by_cases c : sN (ahd (fun k => B * P k % sN P n) r) n < B - sN (fun k => B * P k / sN P n) n
  · rw [if_pos c, if_neg (fun p => by have := (i_le (by omega) (by omega)).mp p; omega), e_X12_pays_212, i_one]
  · rw [if_neg c, if_pos ((i_le (by omega) (by omega)).mpr (by omega)), e_X12_pays_211, e_X12_pays_212, Int32.add_zero, Nat.add_zero]
end
section
variable {z h hs bl bs cl cs nr n nh M hN w lc mc kc ta : Nat} {rm pi mk : Nat → Nat} {G : mG} {I : Nat → Nat → Int32} {L : Nat → Nat → Int64}
theorem c_count (d : Nat) {P : Nat → Nat} (q : Rel z h hs bl bs cl cs nr n nh M hN w lc mc kc ta rm pi mk G I L) (hP : ∀ k, k < n → P k ≤ 1000000) (p2 : ∀ k, k < n → ∀ Ix, QuP bl I Ix → ∃ I', mcal mT (d + 4) 154 [.ref 100, .int (Int32.ofNat k), .int (sm n (fun k => shw (I 151 k) (I 215 k)))] (G, Ix, L) = some (.inl (some (.int (Int32.ofNat (P k)))), (G, I', L)) ∧ QuP bl I I' ∧ I' 216 = Ix 216) : ∃ I', mcal mT (d + 5) 152 [.ref 100] (G, I, L) = some (.inl (some (.long (Int64.ofNat (sN P n)))), (G, I', L)) ∧ QuP bl I I' ∧ ∀ k, k < n → I' 216 k = Int32.ofNat (P k) := by
  obtain ⟨lB, lX, lP, -, ⟨lH1, lH2⟩, ⟨lS, -⟩, ⟨lT, -⟩, ⟨lU, -⟩, lD, -, -, lM, ⟨o1, o2⟩, -, hh, -⟩ := id q.1
  have ho := q.2.1
  obtain ⟨s1, s2, s3, s4, s5, s6⟩ := ho_sz ho
  have lH : LayH G h := by
    rcases hh with ⟨a, -⟩ | ⟨a, -⟩
    · rw [a]; exact lH1
    · rw [a]; exact lH2
  have hb : 103 ≤ h ∧ h + 14 ≤ 132 := by omega
  obtain ⟨-, -, ⟨hF, hHN⟩, hS, ⟨hT, hMz⟩, hU, hD, hTp, hEg, hLg, -, -, -, -⟩ := id q
  have z1 : ¬ (1 : Int32) = 0 := by decide
  have I00 : (va_up I 219 (va_up (I 219) 0 0)) 219 0 = 0 := by rw [up_eq, up_eq]
  have I01 : (va_up I 219 (va_up (I 219) 0 0)) 220 = I 220 := up_ne (by decide)
  have al := c_allM (d + 2) (L := L) (I := I) lB lP lH lT s4 s6
  have hbl : 199 ≤ bl ∧ bl + 4 ≤ 207 := by
    obtain ⟨-, -, -, -, -, -, -, -, -, -, -, -, -, -, -, hbl, -⟩ := id q.1
    omega
  have lp : ∀ m k, k + m = n → ∀ Ix, QuP bl I Ix → (∀ j, j < k → Ix 216 j = Int32.ofNat (P j)) → ∃ I', QuP bl I I' ∧ (∀ j, j < n → I' 216 j = Int32.ofNat (P j)) ∧ f_X11_countParts (d + 4) 10 [.ref 100, .int (sm n (fun k => shw (I 151 k) (I 215 k))), .long (Int64.ofNat (sN P k)), mU, .int (Int32.ofNat k)] [] (G, Ix, L) = some (.inl (some (.long (Int64.ofNat (sN P n)))), (G, I', L)) := by
    intro m
    induction m with
    | zero =>
      intro k hk Ix qp hj
      have e4 : Ix h 10 = Int32.ofNat n := by rw [qp.1 h (by omega) (by omega) (by omega) (by omega)]; exact s4
      rw [show k = n by omega] at hj ⊢
      refine ⟨Ix, qp, hj, ?_⟩
      rw [e_X11_countParts_10]
      simp only [↓vB lB, ↓vP lP, ↓vH lH, e4, if_pos i_rf, e_X11_countParts_56]
    | succ m ih =>
      intro k hk Ix qp hj
      have e4 : Ix h 10 = Int32.ofNat n := by rw [qp.1 h (by omega) (by omega) (by omega) (by omega)]; exact s4
      have nn : ¬ Int32.ofNat n ≤ Int32.ofNat k := fun p => by have := (i_le (by omega) (by omega)).mp p; omega
      obtain ⟨I1, a1, a2, a3⟩ := p2 k (by omega) Ix qp
      obtain ⟨I', b1, b2, b3⟩ := ih (k + 1) (by omega) (va_up I1 216 (va_up (I1 216) k (Int32.ofNat (P k)))) ⟨fun a h1 h2 h3 h4 => by rw [up_ne h4]; exact a2.1 a h1 h2 h3 h4, by rw [up_ne (by omega)]; exact a2.2⟩ (fun j hj' => by
        rw [up_eq]
        by_cases c : j = k
        · rw [c, up_eq]
        · rw [up_ne c, a3]; exact hj j (by omega))
      refine ⟨I', b1, b2, ?_⟩
      have lk : Int32.toInt64 (Int32.ofNat (P k)) = Int64.ofNat (P k) := l_t (by have := hP k (by omega); omega)
      rw [e_X11_countParts_10]
      simp (disch := omega) only [↓vB lB, ↓vP lP, ↓vH lH, e4, if_neg nn, ↓mcI_of a1, up2_e, up_eq, lk, l_add, i_one]
      exact b3
  obtain ⟨I', x1, x2, x3⟩ := lp n 0 (Nat.zero_add _) I ⟨fun _ _ _ _ _ => rfl, rfl⟩ (fun j hj => by omega)
  refine ⟨I', ?_, x1, x2⟩
  rw [q_X11_countParts_, e_X11_countParts_0]
  simp only [↓vB lB, ↓mcI_of al]
  exact x3
theorem ca_pays (d : Nat) (q : Rel z h hs bl bs cl cs nr n nh M hN w lc mc kc ta rm pi mk G I L) (g1 : G.1 ≤ 252 + z + 25 * kc) (g2 : G.2.1 ≤ 60000 + 6 * z + 4000 * kc) (hz : z + 1 ≤ 512) (x y : Int32) : Ste (d + 10) 317 268 [.int x, .int y] (z + 1) G I L := by
  obtain ⟨lB, lX, lP, -, ⟨lH1, lH2⟩, ⟨lS, -⟩, ⟨lT, -⟩, ⟨lU, -⟩, lD, -, -, lM, ⟨o1, o2⟩, -, hh, -⟩ := id q.1
  have ho := q.2.1
  obtain ⟨s1, s2, s3, s4, s5, s6⟩ := ho_sz ho
  have lH : LayH G h := by
    rcases hh with ⟨a, -⟩ | ⟨a, -⟩
    · rw [a]; exact lH1
    · rw [a]; exact lH2
  have hb : 103 ≤ h ∧ h + 14 ≤ 132 := by omega
  obtain ⟨-, -, ⟨hF, hHN⟩, hS, ⟨hT, hMz⟩, hU, hD, hTp, hEg, hLg, -, -, -, -⟩ := id q
  have z1 : ¬ (1 : Int32) = 0 := by decide
  have I00 : (va_up I 219 (va_up (I 219) 0 0)) 219 0 = 0 := by rw [up_eq, up_eq]
  have I01 : (va_up I 219 (va_up (I 219) 0 0)) 220 = I 220 := up_ne (by decide)
  by_cases c9 : x < 0 ∨ ¬ x < Int32.ofNat n
  · have hc : mcal mT (d + 9) 151 [.ref 100, .int x, .int y] (G, I, L) = some (.inr "java/util/NoSuchElementException", (G, I, L)) := by
      simp only [q_X11_pays_, e_X11_pays_0, ↓vB lB, nk_no (d + 7) (L := L) lB lP lH s4 c9, mcV_e, mthr_e]
    refine Ste_e (k := 1) q g1 g2 hz (by decide) (w_pays_N (d + 9) hc lB.1) fun lM => ?_
    simp only [q_X12_pays_, e_X12_pays_0, ↓vM lM, up2_e, ↓mcI_of (rk_no (d + 7) (L := L) (I := (va_up I 219 (va_up (I 219) 0 0))) lM I00 (by rw [I01]; exact s5) s6 c9), if_true, e_X12_pays_29, up_eq, up_up]
  obtain ⟨k0, hk0, rfl⟩ := i_rm (by omega) c9
  by_cases c0 : y < 0 ∨ 1000000 < y
  · have hc : mcal mT (d + 9) 151 [.ref 100, .int (Int32.ofNat k0), .int y] (G, I, L) = some (.inr "java/lang/IllegalArgumentException", (G, I, L)) := by
      simp only [q_X11_pays_, e_X11_pays_0, ↓vB lB, nk_ok (d + 7) (L := L) lB lP lH s4 c9, nw_no (d + 7) c0 (G, I, L), mcV_v, mcV_e, mthr_e]
    refine Ste_e (k := 2) q g1 g2 hz (by decide) (w_pays_A (d + 9) hc lB.1) fun lM => ?_
    have my := r_may0 (d + 8) 2 lM (I := va_up I 219 (va_up (I 219) 0 0)) (L := L) I00 (by decide)
    simp only [q_X12_pays_, e_X12_pays_0, ↓vM lM, up2_e, ↓mcI_of (rk_ok (d + 7) (L := L) (I := (va_up I 219 (va_up (I 219) 0 0))) lM I00 (by rw [I01]; exact s5) s6 c9), if_neg z1, r_within, mcI_v, wi_0 c0, ↓mcI_of my, if_true, e_X12_pays_29, up_eq, up_up]
  obtain ⟨B, hB, rfl⟩ := i_rng (x := y) (n := 1000000) c0 (by decide)
  obtain ⟨P, p1, p2, p3⟩ := pt_E (d + 3) (d + 6) q (by omega)
  obtain ⟨I1, a1, a2, a3⟩ := c_count (d + 3) q p1 p2
  have py : PyN P n B k0 := ⟨s6, hk0, by omega, p1⟩
  obtain ⟨bA, bP⟩ := py_b py
  have o : ∀ a, a ≠ bl → a ≠ bl + 1 → a ≠ bl + 3 → a ≠ 216 → I1 a = I a := a2.1
  have hbl : 199 ≤ bl ∧ bl + 4 ≤ 207 := by
    obtain ⟨-, -, -, -, -, -, -, -, -, -, -, -, -, -, -, hbl, -⟩ := id q.1
    omega
  have f : ∀ a, a ≠ 219 → a ≠ bl → a ≠ bl + 1 → a ≠ bl + 3 → a ≠ 216 → va_up I1 219 (va_up (I1 219) 0 0) a = I a := fun a h0 h1 h2 h3 h4 => by rw [up_ne h0, o a h1 h2 h3 h4]
  have J00 : va_up I1 219 (va_up (I1 219) 0 0) 219 0 = 0 := by rw [up_eq, up_eq]
  have i220 := f 220 (by decide) (by omega) (by omega) (by omega) (by decide)
  have rr : ∀ v : Int64, ∃ J', mcal mT (d + 10) 268 [.ref 219, .int (Int32.ofNat k0), .int (Int32.ofNat B)] (G, I1, up2 L 251 0 v) = some (.inl (some (.int (if sN P n = 0 then 0 else Int32.ofNat (pay P n B k0)))), (G, J', up2 L 251 0 v)) ∧ QuQ (va_up I1 219 (va_up (I1 219) 0 0)) J' := by
    intro v
    have rk := rk_ok (d + 7) (L := up2 L 251 0 v) (I := va_up I1 219 (va_up (I1 219) 0 0)) lM J00 (by rw [i220]; exact s5) s6 c9
    have my := r_may1 (d + 8) 2 lM (I := va_up I1 219 (va_up (I1 219) 0 0)) (L := up2 L 251 0 v) J00
    obtain ⟨J', r1, r2⟩ := r_pays (d + 6) (G := G) (J := va_up I1 219 (va_up (I1 219) 0 0)) (K := up2 L 251 0 v) py lM (by rw [i220]; exact s5) (p3 _ _ (by rw [up_eq, up_ne (by decide), o 219 (by omega) (by omega) (by omega) (by omega)]) i220 (f 230 (by decide) (by omega) (by omega) (by omega) (by decide)) (f 235 (by decide) (by omega) (by omega) (by omega) (by decide)) (f 236 (by decide) (by omega) (by omega) (by omega) (by decide)) (by rw [up2_e, up_ne (by decide)]))
    refine ⟨J', ?_, r2⟩
    rw [q_X12_pays_, e_X12_pays_0]
    simp only [↓vM lM, show ∀ v, up2 I1 219 0 v = va_up I1 219 (va_up (I1 219) 0 v) from fun _ => rfl, ↓mcI_of rk, if_neg z1, r_within, mcI_v, wi_1 c0, ↓mcI_of my]
    exact r1
  have e4 : I1 h 10 = Int32.ofNat n := by rw [o h (by omega) (by omega) (by omega) (by omega)]; exact s4
  have a1' : mcal mT (d + 8) 152 [.ref 100] (G, I, L) = some (.inl (some (.long (Int64.ofNat (sN P n)))), (G, I1, L)) := a1
  have hc : mcal mT (d + 9) 151 [.ref 100, .int (Int32.ofNat k0), .int (Int32.ofNat B)] (G, I, L) = some (.inl (some (.int (if sN P n = 0 then 0 else Int32.ofNat (pay P n B k0)))), (G, I1, L)) := by
    rw [q_X11_pays_, e_X11_pays_0]
    simp only [↓vB lB, nk_ok (d + 7) (L := L) lB lP lH s4 c9, nw_ok (d + 7) c0 (G, I, L), mcV_v, ↓mcL_of a1']
    by_cases z0 : sN P n = 0
    · rw [if_pos z0, if_neg (fun p => by have := (l_lt (a := 0) (by decide) (by omega)).mp (lc_gt.mp p); omega)]
    · have nz : ¬ Int64.ofNat (sN P n) = 0 := fun p => by have := (l_eq (b := 0) (by omega) (by decide)).mp p; omega
      have lBB : Int32.toInt64 (Int32.ofNat B) = Int64.ofNat B := l_t (by omega)
      have lPP : Int32.toInt64 (Int32.ofNat (P k0)) = Int64.ofNat (P k0) := l_t (by have := p1 k0 hk0; omega)
      obtain ⟨pl1, pl2⟩ := pay_l (P := P) (n := n) (B := B) (by omega)
      have qk : B * P k0 / sN P n ≤ B := by
        have a := Nat.le_trans (sN_m (f := fun k => B * P k / sN P n) (show k0 + 1 ≤ n by omega)) pl2
        have b : sN (fun k => B * P k / sN P n) (k0 + 1) = sN (fun k => B * P k / sN P n) k0 + B * P k0 / sN P n := rfl
        omega
      have dv : Int64.toInt32 (Int64.ofNat (B * P k0) / Int64.ofNat (sN P n)) = Int32.ofNat (B * P k0 / sN P n) := by
        rw [l_div (by have := bP k0 hk0; omega) (by omega), l_32 (by omega)]
      have ah := c_ahead (d + 7) (I := I1) (L := L) py (by omega) lB lP lH e4 a3
      have gt0 : 0 < lg_cmp (Int64.ofNat (sN P n)) 0 := lc_gt.mpr ((l_lt (a := 0) (b := sN P n) (by decide) (by omega)).mpr (by omega))
      rw [if_neg z0, if_pos gt0, e_X11_pays_26]
      simp (disch := omega) only [↓vB lB, a3 k0 hk0, if_neg nz, ↓mcI_of ah, lBB, lPP, l_mul, dv]
      unfold pay
      by_cases c : sN (ahd (fun k => B * P k % sN P n) k0) n < sN (fun k => B * P k % sN P n) n / sN P n
      · rw [if_pos c, if_pos c, if_neg z1, e_X11_pays_64, i_one]
      · rw [if_neg c, if_neg c, if_pos rfl, e_X11_pays_62, e_X11_pays_64, Nat.add_zero]
  obtain ⟨J', r1, r2⟩ := rr (Int32.toInt64 (if sN P n = 0 then 0 else Int32.ofNat (pay P n B k0)))
  exact pt_fin (r := if sN P n = 0 then 0 else Int32.ofNat (pay P n B k0)) (I1 := I1) (J' := J') q g1 g2 hz a2 (fun w1 w2 => w_pays (d + 9) hc lB.1 w1 w2) r1 r2
end
