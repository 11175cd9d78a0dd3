/-! reading texts: the reference's reader -/
def RdR (B : Nat → Nat) (e a : Nat) (J : Nat → Nat → Int32) : Prop := J 219 4 = Int32.ofNat e ∧ J 219 5 = Int32.ofNat a ∧ a ≤ e ∧ e ≤ 500 ∧ J 219 6 = -1 ∧ ∀ j, j < e → J 222 j = Int32.ofNat (B j) ∧ B j < 256
def RdO (J J' : Nat → Nat → Int32) : Prop := (∀ x, x ≠ 219 → J' x = J x) ∧ ∀ k, k ≠ 5 → k ≠ 6 → k ≠ 7 → J' 219 k = J 219 k
theorem RdO_i {J : Nat → Nat → Int32} : RdO J J := ⟨fun _ _ => rfl, fun _ _ _ _ => rfl⟩
theorem RdO_t {J J1 J2 : Nat → Nat → Int32} (a : RdO J J1) (b : RdO J1 J2) : RdO J J2 := ⟨fun x h => (b.1 x h).trans (a.1 x h), fun k h1 h2 h3 => (b.2 k h1 h2 h3).trans (a.2 k h1 h2 h3)⟩
theorem RdO_u {J J' : Nat → Nat → Int32} {k : Nat} {v : Int32} (a : RdO J J') (h : 5 ≤ k ∧ k ≤ 7) : RdO J (va_up J' 219 (va_up (J' 219) k v)) := by
  refine ⟨fun x hx => ?_, fun j h1 h2 h3 => ?_⟩
  · rw [up_ne hx]; exact a.1 x hx
  · rw [up_eq, up_ne (by omega)]; exact a.2 j h1 h2 h3
section
variable {G : mG} {J J' : Nat → Nat → Int32} {K : Nat → Nat → Int64} {B : Nat → Nat} {e a a' : Nat}
theorem RdR_o (q : RdR B e a J) (o : RdO J J') (h5 : J' 219 5 = Int32.ofNat a') (ha : a' ≤ e) (h6 : J' 219 6 = -1) : RdR B e a' J' := by
  obtain ⟨q1, q2, q3, q4, q5, q6⟩ := q
  refine ⟨by rw [o.2 4 (by decide) (by decide) (by decide)]; exact q1, h5, ha, q4, h6, fun j hj => ?_⟩
  rw [o.1 222 (by decide)]
  exact q6 j hj
theorem rd_id {J : Nat → Nat → Int32} {k : Nat} {v : Int32} (h : J 219 k = v) : va_up J 219 (va_up (J 219) k v) = J := by
  rw [← h, up_id, up_id]
theorem r_fine (d : Nat) (lM : LayM G 219) (h : J 219 6 = -1) : mcal mT (d + 1) 179 [.ref 219] (G, J, K) = some (.inl (some (.int 1)), (G, J, K)) := by
  rw [q_X12_fine_, e_X12_fine_0]
  simp only [↓vM lM, if_pos h, e_X12_fine_13, mb1]
theorem r_fineN (d : Nat) (lM : LayM G 219) (h : ¬ J 219 6 = -1) : mcal mT (d + 1) 179 [.ref 219] (G, J, K) = some (.inl (some (.int 0)), (G, J, K)) := by
  rw [q_X12_fine_, e_X12_fine_0]
  simp only [↓vM lM, if_neg h, e_X12_fine_12, e_X12_fine_13, mb0]
theorem r_wrong (d : Nat) (k p : Int32) (lM : LayM G 219) (h : J 219 6 = -1) : mcal mT (d + 1) 180 [.ref 219, .int k, .int p] (G, J, K) = some (.inl none, (G, va_up J 219 (va_up (va_up (J 219) 6 p) 7 k), K)) := by
  rw [q_X12_wrong_, e_X12_wrong_0]
  simp only [↓vM lM, if_pos h, e_X12_wrong_9, up2_e, up_eq, up_up]
theorem r_here0 (d : Nat) (lM : LayM G 219) : ∀ k a J, e - a = k → RdR B e a J → f_X12_here d 0 [.ref 219] [] (G, J, K) = f_X12_here d 38 [.ref 219] [] (G, va_up J 219 (va_up (J 219) 5 (Int32.ofNat (skb B e a))), K) := by
  intro k
  induction k with
  | zero =>
    intro a J hk q
    obtain ⟨q1, q2, q3, q4, q5, q6⟩ := id q
    have le : Int32.ofNat e ≤ Int32.ofNat a := (i_le (by omega) (by omega)).mpr (by omega)
    unfold skb
    rw [e_X12_here_0, sk_e (by omega), rd_id q2]
    simp only [↓vM lM, q1, q2, if_pos le]
  | succ k ih =>
    intro a J hk q
    obtain ⟨q1, q2, q3, q4, q5, q6⟩ := id q
    have le : ¬ Int32.ofNat e ≤ Int32.ofNat a := fun p => by have := (i_le (by omega) (by omega)).mp p; omega
    obtain ⟨b1, b2⟩ := q6 a (by omega)
    have b1' : J (219 + 3) a = Int32.ofNat (B a) := b1
    rw [e_X12_here_0]
    by_cases c : B a = 32
    · have c' : Int32.ofNat (B a) = 32 := by rw [c]; rfl
      have hp : isB B a = true := decide_eq_true c
      simp (disch := omega) only [↓vM lM, q1, q2, if_neg le, b1', if_pos c', up2_e, i_one]
      have q' : RdR B e (a + 1) (va_up J 219 (va_up (J 219) 5 (Int32.ofNat (a + 1)))) := RdR_o q (RdO_u RdO_i (by omega)) (by rw [up_eq, up_eq]) (by omega) (by rw [up_eq, up_ne (by decide)]; exact q5)
      rw [ih (a + 1) _ (by omega) q', up_eq, up_up, up_up]
      unfold skb
      rw [sk_y (by omega) hp]
    · have c' : ¬ Int32.ofNat (B a) = 32 := fun p => c ((i_eq (b := 32) (by omega) (by decide)).mp p)
      have hp : ¬ isB B a = true := fun p => c (of_decide_eq_true p)
      simp (disch := omega) only [↓vM lM, q1, q2, if_neg le, b1', if_neg c']
      unfold skb
      rw [sk_n hp, rd_id q2]
/-- the byte behind blanks, 0 at the end -/
def hre (B : Nat → Nat) (e a : Nat) : Nat := if skb B e a < e then B (skb B e a) else 0
theorem rk_here (d : Nat) (lM : LayM G 219) (q : RdR B e a J) : ∃ J', mcal mT (d + 1) 181 [.ref 219] (G, J, K) = some (.inl (some (.int (Int32.ofNat (hre B e a)))), (G, J', K)) ∧ RdO J J' ∧ RdR B e (skb B e a) J' ∧ ∀ k, k ≠ 5 → J' 219 k = J 219 k := by
  have bb := skb_b (B := B) q.2.2.1
  have q' : RdR B e (skb B e a) (va_up J 219 (va_up (J 219) 5 (Int32.ofNat (skb B e a)))) := RdR_o q (RdO_u RdO_i (by omega)) (by rw [up_eq, up_eq]) bb.2 (by rw [up_eq, up_ne (by decide)]; exact q.2.2.2.2.1)
  refine ⟨_, ?_, RdO_u RdO_i (by omega), q', fun k hk => by rw [up_eq, up_ne hk]⟩
  rw [q_X12_here_, r_here0 d lM _ a J rfl q]
  generalize va_up J 219 (va_up (J 219) 5 (Int32.ofNat (skb B e a))) = J' at q'
  obtain ⟨q1, q2, q3, q4, q5, q6⟩ := q'
  rw [e_X12_here_38]
  unfold hre
  by_cases c : skb B e a < e
  · obtain ⟨b1, b2⟩ := q6 _ c
    have b1' : J' (219 + 3) (skb B e a) = Int32.ofNat (B (skb B e a)) := b1
    have le : ¬ Int32.ofNat e ≤ Int32.ofNat (skb B e a) := fun p => by have := (i_le (by omega) (by omega)).mp p; omega
    simp (disch := omega) only [↓vM lM, q1, q2, if_neg le, b1', e_X12_here_62]
    rw [if_pos c]
  · have le : Int32.ofNat e ≤ Int32.ofNat (skb B e a) := (i_le (by omega) (by omega)).mpr (by omega)
    simp only [↓vM lM, q1, q2, if_pos le, e_X12_here_61, e_X12_here_62]
    rw [if_neg c]
    rfl
theorem hre_b (q : RdR B e a J) : hre B e a < 256 := by
  unfold hre
  split
  · exact (q.2.2.2.2.2 _ (by assumption)).2
  · decide
theorem hre_x {x : Nat} (hx : ¬ x = 0) : hre B e a = x ↔ (skb B e a < e ∧ B (skb B e a) = x) := by
  unfold hre
  by_cases c : skb B e a < e
  · rw [if_pos c]; exact ⟨fun h => ⟨c, h⟩, fun h => h.2⟩
  · rw [if_neg c]; exact ⟨fun h => absurd h.symm hx, fun h => absurd h.1 c⟩
theorem hre_d : (48 ≤ hre B e a ∧ hre B e a ≤ 57) ↔ (skb B e a < e ∧ isD B (skb B e a) = true) := by
  unfold hre isD
  by_cases c : skb B e a < e
  · rw [if_pos c]
    exact ⟨fun h => ⟨c, decide_eq_true h⟩, fun h => of_decide_eq_true h.2⟩
  · rw [if_neg c]
    exact ⟨fun h => by omega, fun h => absurd h.1 c⟩
theorem rk_more (d : Nat) (lM : LayM G 219) (q : RdR B e a J) : ∃ J', mcal mT (d + 2) 190 [.ref 219] (G, J, K) = some (.inl (some (.int (if skb B e a < e then 1 else 0))), (G, J', K)) ∧ RdO J J' ∧ RdR B e (skb B e a) J' ∧ ∀ k, k ≠ 5 → J' 219 k = J 219 k := by
  obtain ⟨J1, c1, c2, c3, c4⟩ := rk_here d (K := K) lM q
  refine ⟨J1, ?_, c2, c3, c4⟩
  obtain ⟨q1, q2, q3, q4, -⟩ := id c3
  rw [q_X12_isMore_, e_X12_isMore_0]
  simp only [↓vM lM, ↓mcI_of c1, q1, q2]
  by_cases c : skb B e a < e
  · rw [if_neg (fun p => by have := (i_le (by omega) (by omega)).mp p; omega), if_pos c, e_X12_isMore_21, mb1]
  · rw [if_pos ((i_le (by omega) (by omega)).mpr (by omega)), if_neg c, e_X12_isMore_20, e_X12_isMore_21, mb0]
/-- a sign that is needed -/
theorem rk_need (d : Nat) {x : Nat} (lM : LayM G 219) (q : RdR B e a J) (hx : x < 256) (h0 : ¬ x = 0) : ((skb B e a < e ∧ B (skb B e a) = x) ∧ ∃ J', mcal mT (d + 2) 188 [.ref 219, .int (Int32.ofNat x)] (G, J, K) = some (.inl none, (G, J', K)) ∧ RdO J J' ∧ RdR B e (skb B e a + 1) J' ∧ J' 219 7 = J 219 7) ∨ (¬ (skb B e a < e ∧ B (skb B e a) = x) ∧ ∃ J', mcal mT (d + 2) 188 [.ref 219, .int (Int32.ofNat x)] (G, J, K) = some (.inl none, (G, J', K)) ∧ RdO J J' ∧ J' 219 6 = Int32.ofNat (skb B e a) ∧ J' 219 7 = 1) := by
  obtain ⟨J1, c1, c2, c3, c4⟩ := rk_here d (K := K) lM q
  obtain ⟨q1, q2, q3, q4, q5, q6⟩ := id c3
  have f0 := r_fine d (K := K) lM q.2.2.2.2.1
  have f1 := r_fine d (K := K) lM q5
  have hb := hre_b q
  have z1 : ¬ (1 : Int32) = 0 := by decide
  rw [q_X12_need_, e_X12_need_0]
  by_cases n : skb B e a < e ∧ B (skb B e a) = x
  · have hv := (hre_x h0).mpr n
    have o2 := RdO_u (k := 5) (v := Int32.ofNat (skb B e a + 1)) c2 (by omega)
    refine Or.inl ⟨n, va_up J1 219 (va_up (J1 219) 5 (Int32.ofNat (skb B e a + 1))), ?_, o2, RdR_o q o2 (by rw [up_eq, up_eq]) (by omega) (by rw [up_eq, up_ne (by decide)]; exact q5), by rw [up_eq, up_ne (by decide), c4 7 (by decide)]⟩
    simp only [↓vM lM, ↓mcI_of f0, if_neg z1, ↓mcI_of c1, hv, if_true, e_X12_need_24, ↓mcI_of f1, q2, up2_e, i_one, e_X12_need_41]
  · have hv : ¬ Int32.ofNat (hre B e a) = Int32.ofNat x := fun p => n ((hre_x h0).mp ((i_eq (by omega) (by omega)).mp p))
    have w := r_wrong d (K := K) 1 (Int32.ofNat (skb B e a)) lM q5
    have o1 := RdO_u (k := 6) (v := Int32.ofNat (skb B e a)) c2 (by omega)
    have o2 := RdO_u (k := 7) (v := 1) o1 (by omega)
    rw [up_eq, up_up] at o2
    have f2 := r_fineN d (G := G) (J := va_up J1 219 (va_up (va_up (J1 219) 6 (Int32.ofNat (skb B e a))) 7 1)) (K := K) lM (by rw [up_eq, up_ne (by decide), up_eq]; exact nm1 (by omega))
    refine Or.inr ⟨n, _, ?_, o2, by rw [up_eq, up_ne (by decide), up_eq], by rw [up_eq, up_eq]⟩
    simp only [↓vM lM, ↓mcI_of f0, if_neg z1, ↓mcI_of c1, if_neg hv, q2, ↓mcV_of w, e_X12_need_24, ↓mcI_of f2, if_true, e_X12_need_41]
theorem rk_needN (d : Nat) (x : Int32) (lM : LayM G 219) (h : ¬ J 219 6 = -1) : mcal mT (d + 2) 188 [.ref 219, .int x] (G, J, K) = some (.inl none, (G, J, K)) := by
  have f := r_fineN d (K := K) lM h
  rw [q_X12_need_, e_X12_need_0]
  simp only [↓vM lM, ↓mcI_of f, if_true, e_X12_need_24, e_X12_need_41]
theorem r_digit (d : Nat) {x : Nat} (hx : x < 256) : mcal mT (d + 1) 183 [.int (Int32.ofNat x)] (G, J, K) = some (.inl (some (.int (if 48 ≤ x ∧ x ≤ 57 then 1 else 0))), (G, J, K)) := by
  rw [q_X12_isDigit_, e_X12_isDigit_0]
  by_cases c1 : 48 ≤ x
  · rw [if_neg (show ¬ Int32.ofNat x < 48 from fun p => by have := (i_lt (b := 48) (by omega) (by decide)).mp p; omega)]
    by_cases c2 : x ≤ 57
    · rw [if_neg (show ¬ (57 : Int32) < Int32.ofNat x from fun p => by have := (i_lt (a := 57) (by decide) (by omega)).mp p; omega), if_pos ⟨c1, c2⟩, e_X12_isDigit_17, mb1]
    · rw [if_pos (show (57 : Int32) < Int32.ofNat x from (i_lt (a := 57) (by decide) (by omega)).mpr (by omega)), if_neg (fun p => c2 p.2), e_X12_isDigit_16, e_X12_isDigit_17, mb0]
  · rw [if_pos (show Int32.ofNat x < 48 from (i_lt (b := 48) (by omega) (by decide)).mpr (by omega)), if_neg (fun p => c1 p.1), e_X12_isDigit_16, e_X12_isDigit_17, mb0]
theorem r_small (d : Nat) {x : Nat} (hx : x < 256) : mcal mT (d + 1) 182 [.int (Int32.ofNat x)] (G, J, K) = some (.inl (some (.int (if 97 ≤ x ∧ x ≤ 122 then 1 else 0))), (G, J, K)) := by
  rw [q_X12_isSmall_, e_X12_isSmall_0]
  by_cases c1 : 97 ≤ x
  · rw [if_neg (show ¬ Int32.ofNat x < 97 from fun p => by have := (i_lt (b := 97) (by omega) (by decide)).mp p; omega)]
    by_cases c2 : x ≤ 122
    · rw [if_neg (show ¬ (122 : Int32) < Int32.ofNat x from fun p => by have := (i_lt (a := 122) (by decide) (by omega)).mp p; omega), if_pos ⟨c1, c2⟩, e_X12_isSmall_17, mb1]
    · rw [if_pos (show (122 : Int32) < Int32.ofNat x from (i_lt (a := 122) (by decide) (by omega)).mpr (by omega)), if_neg (fun p => c2 p.2), e_X12_isSmall_16, e_X12_isSmall_17, mb0]
  · rw [if_pos (show Int32.ofNat x < 97 from (i_lt (b := 97) (by omega) (by decide)).mpr (by omega)), if_neg (fun p => c1 p.1), e_X12_isSmall_16, e_X12_isSmall_17, mb0]
def hth (v : Nat) : Nat := if v ≤ 999999 then v else 100000
theorem r_numl (d : Nat) {p : Nat} (lo hi : Int32) (lM : LayM G 219) : ∀ k i J, e - (p + i) = k → RdR B e (p + i) J → ∃ J', f_X12_readNumber (d + 1) 41 [.ref 219, .int lo, .int hi, mU, .int (Int32.ofNat p), .int (Int32.ofNat (hth (nvl B p i)))] [] (G, J, K) = f_X12_readNumber (d + 1) 112 [.ref 219, .int lo, .int hi, mU, .int (Int32.ofNat p), .int (Int32.ofNat (hth (nvl B p (skr (isD B) e (p + i) - p))))] [] (G, J', K) ∧ RdO J J' ∧ RdR B e (skr (isD B) e (p + i)) J' ∧ ∀ k, k ≠ 5 → J' 219 k = J 219 k := by
  intro k
  induction k with
  | zero =>
    intro i J hk q
    obtain ⟨q1, q2, q3, q4, q5, q6⟩ := id q
    have le : Int32.ofNat e ≤ Int32.ofNat (p + i) := (i_le (by omega) (by omega)).mpr (by omega)
    rw [sk_e (by omega), Nat.add_sub_cancel_left]
    refine ⟨J, ?_, RdO_i, q, fun _ _ => rfl⟩
    rw [e_X12_readNumber_41]
    simp only [↓vM lM, q1, q2, if_pos le]
  | succ k ih =>
    intro i J hk q
    obtain ⟨q1, q2, q3, q4, q5, q6⟩ := id q
    have le : ¬ Int32.ofNat e ≤ Int32.ofNat (p + i) := fun t => by have := (i_le (by omega) (by omega)).mp t; omega
    obtain ⟨b1, b2⟩ := q6 (p + i) (by omega)
    have b1' : J (219 + 3) (p + i) = Int32.ofNat (B (p + i)) := b1
    have dg := r_digit d (G := G) (J := J) (K := K) b2
    by_cases s : 48 ≤ B (p + i) ∧ B (p + i) ≤ 57
    · have s' : isD B (p + i) = true := decide_eq_true s
      rw [if_pos s] at dg
      have o1 := RdO_u (k := 5) (v := Int32.ofNat (p + i + 1)) (RdO_i (J := J)) (by omega)
      have q' := RdR_o q o1 (a' := p + (i + 1)) (by rw [up_eq, up_eq]; rfl) (by omega) (by rw [up_eq, up_ne (by decide)]; exact q5)
      obtain ⟨J', c1, c2, c3, c4⟩ := ih (i + 1) _ (by omega) q'
      have es : skr (isD B) e (p + i) = skr (isD B) e (p + (i + 1)) := sk_y (by omega) s'
      rw [es]
      refine ⟨J', ?_, RdO_t o1 c2, c3, fun k h1 => by rw [c4 k h1, up_eq, up_ne h1]⟩
      refine Eq.trans ?_ c1
      have hb : hth (nvl B p i) ≤ 999999 := by unfold hth; split <;> omega
      have e97 : ∀ y : Nat, y = hth (nvl B p (i + 1)) → f_X12_readNumber (d + 1) 97 [.ref 219, .int lo, .int hi, mU, .int (Int32.ofNat p), mU] [.int (Int32.ofNat y)] (G, J, K) = f_X12_readNumber (d + 1) 41 [.ref 219, .int lo, .int hi, mU, .int (Int32.ofNat p), .int (Int32.ofNat (hth (nvl B p (i + 1))))] [] (G, va_up J 219 (va_up (J 219) 5 (Int32.ofNat (p + i + 1))), K) := by
        intro y hy
        rw [e_X12_readNumber_97, hy]
        simp only [↓vM lM, q2, up2_e, i_one]
      have nv : nvl B p (i + 1) = 10 * nvl B p i + (B (p + i) - 48) := rfl
      rw [e_X12_readNumber_41]
      by_cases c : hth (nvl B p i) ≤ 99999
      · have c' : Int32.ofNat (hth (nvl B p i)) ≤ 99999 := (i_le (b := 99999) (by omega) (by decide)).mpr c
        have ev : ((10 : Int32) * Int32.ofNat (hth (nvl B p i)) + Int32.ofNat (B (p + i))) - 48 = Int32.ofNat (10 * hth (nvl B p i) + B (p + i) - 48) := by
          rw [show (10 : Int32) = Int32.ofNat 10 from rfl, i_mul, i_add, show (48 : Int32) = Int32.ofNat 48 from rfl, i_sub (by omega) (by omega)]
        simp (disch := omega) only [↓vM lM, q1, q2, if_neg le, b1', ↓mcI_of dg, if_neg (show ¬ (1 : Int32) = 0 by decide), if_pos c', e_X12_readNumber_79, ev]
        refine e97 _ ?_
        rw [nv]
        unfold hth at c ⊢
        by_cases x : nvl B p i ≤ 999999
        · rw [if_pos x] at c ⊢
          rw [if_pos (by omega)]
          omega
        · rw [if_neg x] at c; omega
      · have c' : ¬ Int32.ofNat (hth (nvl B p i)) ≤ 99999 := fun t => c ((i_le (b := 99999) (by omega) (by decide)).mp t)
        simp (disch := omega) only [↓vM lM, q1, q2, if_neg le, b1', ↓mcI_of dg, if_neg (show ¬ (1 : Int32) = 0 by decide), if_neg c']
        refine e97 100000 ?_
        rw [nv]
        unfold hth at c ⊢
        by_cases x : nvl B p i ≤ 999999
        · rw [if_pos x] at c
          rw [if_neg (by omega)]
        · rw [if_neg (by omega)]
    · have s' : ¬ isD B (p + i) = true := fun t => s (of_decide_eq_true t)
      rw [if_neg s] at dg
      rw [sk_n s', Nat.add_sub_cancel_left]
      refine ⟨J, ?_, RdO_i, q, fun _ _ => rfl⟩
      rw [e_X12_readNumber_41]
      simp (disch := omega) only [↓vM lM, q1, q2, if_neg le, b1', ↓mcI_of dg, if_true]
theorem rk_num (d : Nat) {lo h1 : Nat} (lM : LayM G 219) (q : RdR B e a J) (hlo : lo ≤ 100000) (hh1 : h1 ≤ 100000) : (nme B e a = skb B e a ∧ ∃ J', mcal mT (d + 2) 187 [.ref 219, .int (Int32.ofNat lo), .int (Int32.ofNat h1 - 1)] (G, J, K) = some (.inl (some (.int 0)), (G, J', K)) ∧ RdO J J' ∧ J' 219 6 = Int32.ofNat (skb B e a) ∧ J' 219 7 = 1) ∨ (¬ nme B e a = skb B e a ∧ (lo ≤ nmn B e a ∧ nmn B e a < h1) ∧ ∃ J', mcal mT (d + 2) 187 [.ref 219, .int (Int32.ofNat lo), .int (Int32.ofNat h1 - 1)] (G, J, K) = some (.inl (some (.int (Int32.ofNat (nmn B e a)))), (G, J', K)) ∧ RdO J J' ∧ RdR B e (nme B e a) J' ∧ J' 219 7 = J 219 7) ∨ (¬ nme B e a = skb B e a ∧ ¬ (lo ≤ nmn B e a ∧ nmn B e a < h1) ∧ ∃ J', mcal mT (d + 2) 187 [.ref 219, .int (Int32.ofNat lo), .int (Int32.ofNat h1 - 1)] (G, J, K) = some (.inl (some (.int 0)), (G, J', K)) ∧ RdO J J' ∧ J' 219 6 = Int32.ofNat (skb B e a) ∧ J' 219 7 = 2) := by
  obtain ⟨J1, c1, c2, c3, c4⟩ := rk_here d (K := K) lM q
  obtain ⟨q1, q2, q3, q4, q5, q6⟩ := id c3
  have f0 := r_fine d (K := K) lM q.2.2.2.2.1
  have hb := hre_b q
  have dg := r_digit d (G := G) (J := J1) (K := K) hb
  have z1 : ¬ (1 : Int32) = 0 := by decide
  have nb := nme_b (B := B) q.2.2.1
  by_cases dd : 48 ≤ hre B e a ∧ hre B e a ≤ 57
  · rw [if_pos dd] at dg
    obtain ⟨x1, x2⟩ := hre_d.mp dd
    have z : ¬ nme B e a = skb B e a := by
      have := sk_b (P := isD B) (e := e) _ (skb B e a + 1) rfl (by omega)
      have y : nme B e a = skr (isD B) e (skb B e a + 1) := sk_y x1 x2
      omega
    obtain ⟨J2, d1, d2, d3, d4⟩ := r_numl d (K := K) (p := skb B e a) (Int32.ofNat lo) (Int32.ofNat h1 - 1) lM _ 0 J1 rfl c3
    have st : mcal mT (d + 2) 187 [.ref 219, .int (Int32.ofNat lo), .int (Int32.ofNat h1 - 1)] (G, J, K) = f_X12_readNumber (d + 1) 112 [.ref 219, .int (Int32.ofNat lo), .int (Int32.ofNat h1 - 1), mU, .int (Int32.ofNat (skb B e a)), .int (Int32.ofNat (hth (nmn B e a)))] [] (G, J2, K) := by
      rw [q_X12_readNumber_, e_X12_readNumber_0]
      simp only [↓vM lM, ↓mcI_of f0, if_neg z1, e_X12_readNumber_9, ↓mcI_of c1, q2, ↓mcI_of dg]
      exact d1
    have o2 := RdO_t c2 d2
    have hb2 : hth (nmn B e a) ≤ 999999 := by unfold hth; split <;> omega
    have cnd : ((¬ Int32.ofNat (hth (nmn B e a)) < Int32.ofNat lo) ∧ Int32.ofNat (hth (nmn B e a)) ≤ Int32.ofNat h1 - 1) ↔ (lo ≤ nmn B e a ∧ nmn B e a < h1) := by
      rw [i_hi (by omega) (by omega), i_lt (by omega) (by omega)]
      unfold hth
      split <;> omega
    by_cases r : lo ≤ nmn B e a ∧ nmn B e a < h1
    · obtain ⟨r1, r2⟩ := cnd.mpr r
      refine Or.inr (Or.inl ⟨z, r, J2, ?_, o2, d3, by rw [d4 7 (by decide), c4 7 (by decide)]⟩)
      rw [st, e_X12_readNumber_112, if_neg r1, if_pos r2, e_X12_readNumber_133]
      have : hth (nmn B e a) = nmn B e a := by unfold hth; rw [if_pos (by omega)]
      rw [this]
    · have w := r_wrong d (K := K) 2 (Int32.ofNat (skb B e a)) lM d3.2.2.2.2.1
      have o3 := RdO_u (k := 6) (v := Int32.ofNat (skb B e a)) o2 (by omega)
      have o4 := RdO_u (k := 7) (v := 2) o3 (by omega)
      rw [up_eq, up_up] at o4
      refine Or.inr (Or.inr ⟨z, r, _, ?_, o4, by rw [up_eq, up_ne (by decide), up_eq], by rw [up_eq, up_eq]⟩)
      rw [st, e_X12_readNumber_112]
      by_cases r1 : Int32.ofNat (hth (nmn B e a)) < Int32.ofNat lo
      · simp only [if_pos r1, e_X12_readNumber_124, ↓vM lM, ↓mcV_of w]
      · have r2 : ¬ Int32.ofNat (hth (nmn B e a)) ≤ Int32.ofNat h1 - 1 := fun t => r (cnd.mp ⟨r1, t⟩)
        simp only [if_neg r1, if_neg r2, e_X12_readNumber_124, ↓vM lM, ↓mcV_of w]
  · rw [if_neg dd] at dg
    have z : nme B e a = skb B e a := by
      unfold nme
      by_cases x1 : skb B e a < e
      · exact sk_n (fun t => dd (hre_d.mpr ⟨x1, t⟩))
      · exact sk_e (by omega)
    have w := r_wrong d (K := K) 1 (Int32.ofNat (skb B e a)) lM q5
    have o3 := RdO_u (k := 6) (v := Int32.ofNat (skb B e a)) c2 (by omega)
    have o4 := RdO_u (k := 7) (v := 1) o3 (by omega)
    rw [up_eq, up_up] at o4
    refine Or.inl ⟨z, _, ?_, o4, by rw [up_eq, up_ne (by decide), up_eq], by rw [up_eq, up_eq]⟩
    rw [q_X12_readNumber_, e_X12_readNumber_0]
    simp only [↓vM lM, ↓mcI_of f0, if_neg z1, e_X12_readNumber_9, ↓mcI_of c1, q2, ↓mcI_of dg, if_true, ↓mcV_of w]
theorem rk_numN (d : Nat) (x y : Int32) (lM : LayM G 219) (h : ¬ J 219 6 = -1) : mcal mT (d + 2) 187 [.ref 219, .int x, .int y] (G, J, K) = some (.inl (some (.int 0)), (G, J, K)) := by
  have f := r_fineN d (K := K) lM h
  rw [q_X12_readNumber_, e_X12_readNumber_0]
  simp only [↓vM lM, ↓mcI_of f, if_true]
theorem rk_pass (d : Nat) (lM : LayM G 219) : ∀ k a J, e - a = k → RdR B e a J → mcal mT (d + 2) 186 [.ref 219] (G, J, K) = some (.inl none, (G, va_up J 219 (va_up (J 219) 5 (Int32.ofNat (skr (isL B) e a))), K)) := by
  have go : ∀ k a J, e - a = k → RdR B e a J → f_X12_pass (d + 1) 0 [.ref 219] [] (G, J, K) = some (.inl none, (G, va_up J 219 (va_up (J 219) 5 (Int32.ofNat (skr (isL B) e a))), K)) := by
    intro k
    induction k with
    | zero =>
      intro a J hk q
      obtain ⟨q1, q2, q3, q4, q5, q6⟩ := id q
      have le : Int32.ofNat e ≤ Int32.ofNat a := (i_le (by omega) (by omega)).mpr (by omega)
      rw [e_X12_pass_0, sk_e (by omega), rd_id q2]
      simp only [↓vM lM, q1, q2, if_pos le, e_X12_pass_39]
    | succ k ih =>
      intro a J hk q
      obtain ⟨q1, q2, q3, q4, q5, q6⟩ := id q
      have le : ¬ Int32.ofNat e ≤ Int32.ofNat a := fun t => by have := (i_le (by omega) (by omega)).mp t; omega
      obtain ⟨b1, b2⟩ := q6 a (by omega)
      have b1' : J (219 + 3) a = Int32.ofNat (B a) := b1
      have sm := r_small d (G := G) (J := J) (K := K) b2
      rw [e_X12_pass_0]
      by_cases s : 97 ≤ B a ∧ B a ≤ 122
      · have s' : isL B a = true := decide_eq_true s
        rw [if_pos s] at sm
        simp (disch := omega) only [↓vM lM, q1, q2, if_neg le, b1', ↓mcI_of sm, if_neg (show ¬ (1 : Int32) = 0 by decide), up2_e, i_one]
        have q' : RdR B e (a + 1) (va_up J 219 (va_up (J 219) 5 (Int32.ofNat (a + 1)))) := RdR_o q (RdO_u RdO_i (by omega)) (by rw [up_eq, up_eq]) (by omega) (by rw [up_eq, up_ne (by decide)]; exact q5)
        rw [ih (a + 1) _ (by omega) q', up_eq, up_up, up_up, sk_y (by omega) s']
      · have s' : ¬ isL B a = true := fun t => s (of_decide_eq_true t)
        rw [if_neg s] at sm
        simp (disch := omega) only [↓vM lM, q1, q2, if_neg le, b1', ↓mcI_of sm, if_true, e_X12_pass_39]
        rw [sk_n s', rd_id q2]
  intro k a J hk q
  rw [q_X12_pass_]
  exact go k a J hk q
end
