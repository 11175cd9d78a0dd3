/-! reading texts: runs of bytes, and the class's reader -/
def adv (P : Nat → Bool) : Nat → Nat → Nat
  | 0, a => a
  | k + 1, a => if P a = true then adv P k (a + 1) else a
def skr (P : Nat → Bool) (e a : Nat) : Nat := adv P (e - a) a
theorem sk_e {P : Nat → Bool} {e a : Nat} (h : e ≤ a) : skr P e a = a := by
  unfold skr
  rw [show e - a = 0 by omega]
  rfl
theorem sk_y {P : Nat → Bool} {e a : Nat} (h : a < e) (hp : P a = true) : skr P e a = skr P e (a + 1) := by
  unfold skr
  rw [show e - a = (e - (a + 1)) + 1 by omega]
  exact if_pos hp
theorem sk_n {P : Nat → Bool} {e a : Nat} (hp : ¬ P a = true) : skr P e a = a := by
  unfold skr
  cases e - a with
  | zero => rfl
  | succ k => exact if_neg hp
theorem sk_b {P : Nat → Bool} {e : Nat} : ∀ k a, e - a = k → a ≤ e → a ≤ skr P e a ∧ skr P e a ≤ e ∧ (∀ i, a ≤ i → i < skr P e a → P i = true) ∧ (skr P e a < e → ¬ P (skr P e a) = true) := by
  intro k
  induction k with
  | zero =>
    intro a h1 h2
    rw [sk_e (by omega)]
    exact ⟨Nat.le_refl _, h2, fun i h3 h4 => by omega, fun h3 => by omega⟩
  | succ k ih =>
    intro a h1 h2
    by_cases p : P a = true
    · obtain ⟨b1, b2, b3, b4⟩ := ih (a + 1) (by omega) (by omega)
      rw [sk_y (by omega) p]
      refine ⟨by omega, b2, fun i h3 h4 => ?_, b4⟩
      by_cases c : i = a
      · rw [c]; exact p
      · exact b3 i (by omega) h4
    · rw [sk_n p]
      exact ⟨Nat.le_refl _, h2, fun i h3 h4 => by omega, fun _ => p⟩
def isB (B : Nat → Nat) (i : Nat) : Bool := decide (B i = 32)
def isD (B : Nat → Nat) (i : Nat) : Bool := decide (48 ≤ B i ∧ B i ≤ 57)
def isL (B : Nat → Nat) (i : Nat) : Bool := decide (97 ≤ B i ∧ B i ≤ 122)
def skb (B : Nat → Nat) (e a : Nat) : Nat := skr (isB B) e a
theorem skb_b {B : Nat → Nat} {e a : Nat} (h : a ≤ e) : a ≤ skb B e a ∧ skb B e a ≤ e := by
  obtain ⟨h1, h2, -⟩ := sk_b (P := isB B) (e := e) _ a rfl h
  exact ⟨h1, h2⟩
theorem skb_i {B : Nat → Nat} {e a : Nat} (h : a ≤ e) : skb B e (skb B e a) = skb B e a := by
  obtain ⟨h1, h2, h3, h4⟩ := sk_b (P := isB B) (e := e) _ a rfl h
  unfold skb
  by_cases c : skr (isB B) e a < e
  · exact sk_n (h4 c)
  · exact sk_e (by omega)
/-- the number told by i digits from p on -/
def nvl (B : Nat → Nat) (p : Nat) : Nat → Nat
  | 0 => 0
  | i + 1 => 10 * nvl B p i + (B (p + i) - 48)
/-- the class's reader -/
def TxR (B : Nat → Nat) (e a : Nat) (I : Nat → Nat → Int32) : Prop := I 101 2 = Int32.ofNat e ∧ I 101 3 = Int32.ofNat a ∧ a ≤ e ∧ e ≤ 500 ∧ ∀ j, j < e → I 102 j = Int32.ofNat (B j) ∧ B j < 256
def TxO (I I' : Nat → Nat → Int32) : Prop := (∀ x, x ≠ 101 → I' x = I x) ∧ ∀ k, (k < 3 ∨ 7 < k) → I' 101 k = I 101 k
theorem TxO_i {I : Nat → Nat → Int32} : TxO I I := ⟨fun _ _ => rfl, fun _ _ => rfl⟩
theorem TxO_t {I I1 I2 : Nat → Nat → Int32} (a : TxO I I1) (b : TxO I1 I2) : TxO I I2 := ⟨fun x h => (b.1 x h).trans (a.1 x h), fun k h => (b.2 k h).trans (a.2 k h)⟩
theorem TxO_u {I I' : Nat → Nat → Int32} {k : Nat} {v : Int32} (a : TxO I I') (h : 3 ≤ k ∧ k ≤ 7) : TxO I (va_up I' 101 (va_up (I' 101) k v)) := by
  refine ⟨fun x hx => ?_, fun j hj => ?_⟩
  · rw [up_ne hx]; exact a.1 x hx
  · rw [up_eq, up_ne (by omega)]; exact a.2 j hj
section
variable {G : mG} {I I' : Nat → Nat → Int32} {L : Nat → Nat → Int64} {B : Nat → Nat} {e a a' : Nat}
theorem TxR_o (q : TxR B e a I) (o : TxO I I') (h3 : I' 101 3 = Int32.ofNat a') (ha : a' ≤ e) : TxR B e a' I' := by
  obtain ⟨q1, q2, q3, q4, q5⟩ := q
  refine ⟨by rw [o.2 2 (by omega)]; exact q1, h3, ha, q4, fun j hj => ?_⟩
  rw [o.1 102 (by decide)]
  exact q5 j hj
theorem tx_id {I : Nat → Nat → Int32} {k : Nat} {v : Int32} (h : I 101 k = v) : va_up I 101 (va_up (I 101) k v) = I := by
  rw [← h, up_id, up_id]
theorem c_skip (d : Nat) (lX : LayX G 101) : ∀ k a I, e - a = k → TxR B e a I → mcal mT (d + 1) 88 [.ref 101] (G, I, L) = some (.inl none, (G, va_up I 101 (va_up (I 101) 3 (Int32.ofNat (skb B e a))), L)) := by
  have go : ∀ k a I, e - a = k → TxR B e a I → f_X10_skipBlanks d 0 [.ref 101] [] (G, I, L) = some (.inl none, (G, va_up I 101 (va_up (I 101) 3 (Int32.ofNat (skb B e a))), L)) := by
    intro k
    induction k with
    | zero =>
      intro a I hk q
      obtain ⟨q1, q2, q3, q4, q5⟩ := q
      have le : Int32.ofNat e ≤ Int32.ofNat a := (i_le (by omega) (by omega)).mpr (by omega)
      rw [e_X10_skipBlanks_0]
      simp only [↓vX lX, q1, q2, if_pos le, e_X10_skipBlanks_38]
      unfold skb
      rw [sk_e (by omega), tx_id q2]
    | succ k ih =>
      intro a I hk q
      obtain ⟨q1, q2, q3, q4, q5⟩ := id q
      have le : ¬ Int32.ofNat e ≤ Int32.ofNat a := fun p => by have := (i_le (by omega) (by omega)).mp p; omega
      obtain ⟨b1, b2⟩ := q5 a (by omega)
      have b1' : I (101 + 1) a = Int32.ofNat (B a) := b1
      rw [e_X10_skipBlanks_0]
      by_cases c : B a = 32
      · have c' : Int32.ofNat (B a) = 32 := by rw [c]; rfl
        have hp : isB B a = true := decide_eq_true c
        simp (disch := omega) only [↓vX lX, q1, q2, if_neg le, b1', if_pos c', up2_e, i_one]
        have q' : TxR B e (a + 1) (va_up I 101 (va_up (I 101) 3 (Int32.ofNat (a + 1)))) := TxR_o q (TxO_u TxO_i (by omega)) (by rw [up_eq, up_eq]) (by omega)
        rw [ih (a + 1) _ (by omega) q', up_eq, up_up, up_up]
        unfold skb
        rw [sk_y (by omega) hp]
      · have c' : ¬ Int32.ofNat (B a) = 32 := fun p => c ((i_eq (b := 32) (by omega) (by decide)).mp p)
        have hp : ¬ isB B a = true := fun p => c (of_decide_eq_true p)
        simp (disch := omega) only [↓vX lX, q1, q2, if_neg le, b1', if_neg c', e_X10_skipBlanks_38]
        unfold skb
        rw [sk_n hp, tx_id q2]
  intro k a I hk q
  rw [q_X10_skipBlanks_]
  exact go k a I hk q
/-- blanks passed -/
theorem tk_skip (d : Nat) (lX : LayX G 101) (q : TxR B e a I) : ∃ I', mcal mT (d + 1) 88 [.ref 101] (G, I, L) = some (.inl none, (G, I', L)) ∧ TxO I I' ∧ TxR B e (skb B e a) I' ∧ ∀ k, k ≠ 3 → I' 101 k = I 101 k := by
  have b := skb_b (B := B) q.2.2.1
  refine ⟨_, c_skip d lX _ a I rfl q, TxO_u TxO_i (by omega), TxR_o q (TxO_u TxO_i (by omega)) (by rw [up_eq, up_eq]) b.2, fun k hk => by rw [up_eq, up_ne hk]⟩
theorem tk_atEnd (d : Nat) (lX : LayX G 101) (q : TxR B e a I) : ∃ I', mcal mT (d + 2) 89 [.ref 101] (G, I, L) = some (.inl (some (.int (if skb B e a < e then 0 else 1))), (G, I', L)) ∧ TxO I I' ∧ TxR B e (skb B e a) I' ∧ ∀ k, k ≠ 3 → I' 101 k = I 101 k := by
  obtain ⟨I', c1, c2, c3, c4⟩ := tk_skip d (L := L) lX q
  refine ⟨I', ?_, c2, c3, c4⟩
  obtain ⟨q1, q2, q3, q4, -⟩ := c3
  rw [q_X10_atEnd_, e_X10_atEnd_0]
  simp only [↓vX lX, ↓mcV_of c1, q1, q2]
  by_cases c : skb B e a < e
  · rw [if_pos ((i_lt (by omega) (by omega)).mpr c), if_pos c, e_X10_atEnd_19, e_X10_atEnd_20, mb0]
  · rw [if_neg (fun p => c ((i_lt (by omega) (by omega)).mp p)), if_neg c, e_X10_atEnd_20, mb1]
theorem tk_fail (d : Nat) (k p : Int32) (lX : LayX G 101) : ∃ I', mcal mT (d + 1) 87 [.ref 101, .int k, .int p] (G, I, L) = some (.inl (some (.int 0)), (G, I', L)) ∧ TxO I I' ∧ I' 101 6 = k ∧ I' 101 7 = p := by
  refine ⟨va_up I 101 (va_up (va_up (I 101) 6 k) 7 p), ?_, ?_, by rw [up_eq, up_ne (by decide), up_eq], by rw [up_eq, up_eq]⟩
  · rw [q_X10_fail_, e_X10_fail_0]
    simp only [↓vX lX, up2_e, up_eq, up_up, mb0]
  · have := TxO_u (k := 7) (v := p) (TxO_u (I := I) (k := 6) (v := k) TxO_i (by omega)) (by omega)
    rwa [up_eq, up_up] at this
theorem tk_sign (d : Nat) {x : Nat} (lX : LayX G 101) (q : TxR B e a I) (hx : x < 256) : ∃ I', mcal mT (d + 3) 91 [.ref 101, .int (Int32.ofNat x)] (G, I, L) = some (.inl (some (.int (if skb B e a < e ∧ B (skb B e a) = x then 1 else 0))), (G, I', L)) ∧ TxO I I' ∧ TxR B e (if skb B e a < e ∧ B (skb B e a) = x then skb B e a + 1 else skb B e a) I' ∧ (∀ k, 5 ≤ k → I' 101 k = I 101 k) ∧ ((skb B e a < e ∧ B (skb B e a) = x) → I' 101 4 = Int32.ofNat (skb B e a)) := by
  obtain ⟨I1, c1, c2, c3, c4⟩ : ∃ I', mcal mT (d + 2) 88 [.ref 101] (G, I, L) = some (.inl none, (G, I', L)) ∧ TxO I I' ∧ TxR B e (skb B e a) I' ∧ ∀ k, k ≠ 3 → I' 101 k = I 101 k := tk_skip (d + 1) (L := L) lX q
  obtain ⟨q1, q2, q3, q4, q5⟩ := id c3
  rw [q_X10_takeSign_, e_X10_takeSign_0]
  by_cases c : skb B e a < e
  · have le : ¬ Int32.ofNat e ≤ Int32.ofNat (skb B e a) := fun p => by have := (i_le (by omega) (by omega)).mp p; omega
    obtain ⟨b1, b2⟩ := q5 _ c
    have b1' : I1 (101 + 1) (skb B e a) = Int32.ofNat (B (skb B e a)) := b1
    by_cases s : B (skb B e a) = x
    · have s' : Int32.ofNat (B (skb B e a)) = Int32.ofNat x := by rw [s]
      rw [if_pos ⟨c, s⟩, if_pos ⟨c, s⟩]
      have o1 := TxO_u (k := 4) (v := Int32.ofNat (skb B e a)) c2 (by omega)
      have o2 := TxO_u (k := 3) (v := Int32.ofNat (skb B e a + 1)) o1 (by omega)
      rw [up_eq, up_up] at o2
      refine ⟨va_up I1 101 (va_up (va_up (I1 101) 4 (Int32.ofNat (skb B e a))) 3 (Int32.ofNat (skb B e a + 1))), ?_, o2, TxR_o q o2 (by rw [up_eq, up_eq]) (by omega), fun k hk => ?_, fun _ => ?_⟩
      · simp (disch := omega) only [↓vX lX, ↓mcV_of c1, q1, q2, if_neg le, b1', if_pos s', e_X10_takeSign_30, up2_e, up_eq, up_up, up_ne, i_one, mb1]
      · rw [up_eq, up_ne (by omega), up_ne (by omega)]; exact c4 k (by omega)
      · rw [up_eq, up_ne (by decide), up_eq]
    · have s' : ¬ Int32.ofNat (B (skb B e a)) = Int32.ofNat x := fun p => s ((i_eq (by omega) (by omega)).mp p)
      have n : ¬ (skb B e a < e ∧ B (skb B e a) = x) := fun p => s p.2
      rw [if_neg n, if_neg n]
      refine ⟨I1, ?_, c2, c3, fun k hk => c4 k (by omega), fun p => absurd p n⟩
      simp (disch := omega) only [↓vX lX, ↓mcV_of c1, q1, q2, if_neg le, b1', if_neg s', e_X10_takeSign_28, mb0]
  · have le : Int32.ofNat e ≤ Int32.ofNat (skb B e a) := (i_le (by omega) (by omega)).mpr (by omega)
    have n : ¬ (skb B e a < e ∧ B (skb B e a) = x) := fun p => c p.1
    rw [if_neg n, if_neg n]
    refine ⟨I1, ?_, c2, c3, fun k hk => c4 k (by omega), fun p => absurd p n⟩
    simp only [↓vX lX, ↓mcV_of c1, q1, q2, if_pos le, e_X10_takeSign_28, mb0]
/-- a sign that must stand there -/
theorem tk_must (d : Nat) {x : Nat} (lX : LayX G 101) (q : TxR B e a I) (hx : x < 256) : ((skb B e a < e ∧ B (skb B e a) = x) ∧ ∃ I', mcal mT (d + 4) 92 [.ref 101, .int (Int32.ofNat x)] (G, I, L) = some (.inl (some (.int 1)), (G, I', L)) ∧ TxO I I' ∧ TxR B e (skb B e a + 1) I' ∧ ∀ k, 5 ≤ k → I' 101 k = I 101 k) ∨ (¬ (skb B e a < e ∧ B (skb B e a) = x) ∧ ∃ I', mcal mT (d + 4) 92 [.ref 101, .int (Int32.ofNat x)] (G, I, L) = some (.inl (some (.int 0)), (G, I', L)) ∧ TxO I I' ∧ I' 101 6 = 1 ∧ I' 101 7 = Int32.ofNat (skb B e a)) := by
  obtain ⟨I1, c1, c2, c3, c4, c5⟩ := tk_sign d (L := L) lX q hx
  rw [q_X10_mustTakeSign_, e_X10_mustTakeSign_0]
  by_cases n : skb B e a < e ∧ B (skb B e a) = x
  · rw [if_pos n] at c1 c3
    refine Or.inl ⟨n, I1, ?_, c2, c3, c4⟩
    simp only [↓vX lX, ↓mcI_of c1, if_neg (show ¬ (1 : Int32) = 0 by decide), e_X10_mustTakeSign_20, e_X10_mustTakeSign_25, mb1]
  · rw [if_neg n] at c1 c3
    obtain ⟨q1, q2, -⟩ := id c3
    obtain ⟨I2, d1, d2, d3, d4⟩ := tk_fail (d + 2) (I := I1) (L := L) 1 (Int32.ofNat (skb B e a)) lX
    refine Or.inr ⟨n, I2, ?_, TxO_t c2 d2, d3, d4⟩
    simp only [↓vX lX, ↓mcI_of c1, if_true, q2, ↓mcI_of d1, e_X10_mustTakeSign_24, e_X10_mustTakeSign_25, mb0]
theorem tk_mustEnd (d : Nat) (lX : LayX G 101) (q : TxR B e a I) : (¬ skb B e a < e ∧ ∃ I', mcal mT (d + 3) 90 [.ref 101] (G, I, L) = some (.inl (some (.int 1)), (G, I', L)) ∧ TxO I I' ∧ ∀ k, 4 ≤ k → I' 101 k = I 101 k) ∨ (skb B e a < e ∧ ∃ I', mcal mT (d + 3) 90 [.ref 101] (G, I, L) = some (.inl (some (.int 0)), (G, I', L)) ∧ TxO I I' ∧ I' 101 6 = 1 ∧ I' 101 7 = Int32.ofNat (skb B e a)) := by
  obtain ⟨I1, c1, c2, c3, c4⟩ := tk_atEnd d (L := L) lX q
  obtain ⟨q1, q2, -⟩ := id c3
  rw [q_X10_mustEnd_, e_X10_mustEnd_0]
  by_cases c : skb B e a < e
  · rw [if_pos c] at c1
    obtain ⟨I2, d1, d2, d3, d4⟩ := tk_fail (d + 1) (I := I1) (L := L) 1 (Int32.ofNat (skb B e a)) lX
    refine Or.inr ⟨c, I2, ?_, TxO_t c2 d2, d3, d4⟩
    simp only [↓vX lX, ↓mcI_of c1, if_true, q2, ↓mcI_of d1, e_X10_mustEnd_23, e_X10_mustEnd_24, mb0]
  · rw [if_neg c] at c1
    refine Or.inl ⟨c, I1, ?_, c2, fun k hk => c4 k (by omega)⟩
    simp only [↓vX lX, ↓mcI_of c1, if_neg (show ¬ (1 : Int32) = 0 by decide), e_X10_mustEnd_19, e_X10_mustEnd_24, mb1]
theorem c_digit (d : Nat) {x : Nat} (hx : x < 256) : mcal mT (d + 1) 98 [.int (Int32.ofNat x)] (G, I, L) = some (.inl (some (.int (if 48 ≤ x ∧ x ≤ 57 then 1 else 0))), (G, I, L)) := by
  rw [q_X10_isDigit_, e_X10_isDigit_0]
  by_cases c1 : 48 ≤ x
  · rw [if_neg (show ¬ Int32.ofNat x < 48 from fun p => by have := (i_lt (b := 48) (by omega) (by decide)).mp p; omega)]
    by_cases c2 : x ≤ 57
    · rw [if_neg (show ¬ (57 : Int32) < Int32.ofNat x from fun p => by have := (i_lt (a := 57) (by decide) (by omega)).mp p; omega), if_pos ⟨c1, c2⟩, e_X10_isDigit_17, mb1]
    · rw [if_pos (show (57 : Int32) < Int32.ofNat x from (i_lt (a := 57) (by decide) (by omega)).mpr (by omega)), if_neg (fun p => c2 p.2), e_X10_isDigit_16, e_X10_isDigit_17, mb0]
  · rw [if_pos (show Int32.ofNat x < 48 from (i_lt (b := 48) (by omega) (by decide)).mpr (by omega)), if_neg (fun p => c1 p.1), e_X10_isDigit_16, e_X10_isDigit_17, mb0]
theorem tk_digit (d : Nat) (lX : LayX G 101) (q : TxR B e a I) : ∃ I', mcal mT (d + 3) 93 [.ref 101] (G, I, L) = some (.inl (some (.int (if skb B e a < e ∧ isD B (skb B e a) = true then 1 else 0))), (G, I', L)) ∧ TxO I I' ∧ TxR B e (skb B e a) I' ∧ ∀ k, k ≠ 3 → I' 101 k = I 101 k := by
  obtain ⟨I1, c1, c2, c3, c4⟩ := tk_atEnd d (L := L) lX q
  obtain ⟨q1, q2, q3, q4, q5⟩ := id c3
  refine ⟨I1, ?_, c2, c3, c4⟩
  rw [q_X10_digitIsNext_, e_X10_digitIsNext_0]
  by_cases c : skb B e a < e
  · rw [if_pos c] at c1
    obtain ⟨b1, b2⟩ := q5 _ c
    have b1' : I1 (101 + 1) (skb B e a) = Int32.ofNat (B (skb B e a)) := b1
    have dg := c_digit (d + 1) (G := G) (I := I1) (L := L) b2
    by_cases s : 48 ≤ B (skb B e a) ∧ B (skb B e a) ≤ 57
    · have s' : isD B (skb B e a) = true := decide_eq_true s
      rw [if_pos s] at dg
      rw [if_pos ⟨c, s'⟩]
      simp (disch := omega) only [↓vX lX, ↓mcI_of c1, if_true, q2, b1', ↓mcI_of dg, if_neg (show ¬ (1 : Int32) = 0 by decide), e_X10_digitIsNext_27, mb1]
    · have s' : ¬ isD B (skb B e a) = true := fun p => s (of_decide_eq_true p)
      rw [if_neg s] at dg
      rw [if_neg (fun p => s' p.2)]
      simp (disch := omega) only [↓vX lX, ↓mcI_of c1, if_true, q2, b1', ↓mcI_of dg, e_X10_digitIsNext_26, e_X10_digitIsNext_27, mb0]
  · rw [if_neg c] at c1
    rw [if_neg (fun p => c p.1)]
    simp only [↓vX lX, ↓mcI_of c1, if_neg (show ¬ (1 : Int32) = 0 by decide), e_X10_digitIsNext_26, e_X10_digitIsNext_27, mb0]
end
