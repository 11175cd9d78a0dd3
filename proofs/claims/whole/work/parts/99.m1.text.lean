/-! reading texts: the class's numbers and words -/
abbrev isw (w : List Nat) (B : Nat → Nat) (p q : Nat) : Prop := w.length = q - p ∧ ∀ k, k < w.length → w.getD k 0 = B (p + k)
def lets (w : List Nat) : Prop := 2 ≤ w.length ∧ w.length ≤ 9 ∧ ∀ k, k < w.length → 97 ≤ w.getD k 0 ∧ w.getD k 0 ≤ 122
theorem i_hi {m h : Nat} (hm : m < 2147483648) (hh : h < 2147483648) : (Int32.ofNat m ≤ Int32.ofNat h - 1) ↔ m < h := by
  cases h with
  | zero =>
    have e : Int32.ofNat 0 - 1 = -1 := by decide
    rw [e, Int32.le_iff_toInt_le, i_of hm, show (-1 : Int32).toInt = -1 from by decide]
    omega
  | succ h => rw [i_pred, i_le hm (by omega)]; omega
section
variable {G : mG} {I : Nat → Nat → Int32} {L : Nat → Nat → Int64} {B : Nat → Nat} {e a : Nat}
theorem jmin_n {a b : Nat} (ha : a < 2147483648) (hb : b < 2147483648) : jmin (Int32.ofNat a) (Int32.ofNat b) = Int32.ofNat (if a ≤ b then a else b) := by
  apply i_inj
  rw [jmin_t, i_of ha, i_of hb]
  by_cases c : a ≤ b
  · rw [if_pos c, i_of ha]; omega
  · rw [if_neg c, i_of hb]; omega
def mil (v : Nat) : Nat := if v ≤ 1000000 then v else 1000000
theorem c_num (d : Nat) {p : Nat} (lo hi : Int32) (lX : LayX G 101) : ∀ k i I, e - (p + i) = k → TxR B e (p + i) I → I 101 5 = Int32.ofNat (mil (nvl B p i)) → ∃ I', f_X10_mustTakeNumber (d + 1) 17 [.ref 101, .int lo, .int hi] [] (G, I, L) = f_X10_mustTakeNumber (d + 1) 85 [.ref 101, .int lo, .int hi] [] (G, I', L) ∧ TxO I I' ∧ TxR B e (skr (isD B) e (p + i)) I' ∧ I' 101 5 = Int32.ofNat (mil (nvl B p (skr (isD B) e (p + i) - p))) ∧ ∀ k, k ≠ 3 → k ≠ 5 → I' 101 k = I 101 k := by
  intro k
  induction k with
  | zero =>
    intro i I hk q h5
    obtain ⟨q1, q2, q3, q4, q5⟩ := id q
    have le : Int32.ofNat e ≤ Int32.ofNat (p + i) := (i_le (by omega) (by omega)).mpr (by omega)
    rw [sk_e (by omega)]
    refine ⟨I, ?_, TxO_i, q, by rw [Nat.add_sub_cancel_left]; exact h5, fun _ _ _ => rfl⟩
    rw [e_X10_mustTakeNumber_17]
    simp only [↓vX lX, q1, q2, if_pos le]
  | succ k ih =>
    intro i I hk q h5
    obtain ⟨q1, q2, q3, q4, q5⟩ := id q
    have le : ¬ Int32.ofNat e ≤ Int32.ofNat (p + i) := fun t => by have := (i_le (by omega) (by omega)).mp t; omega
    obtain ⟨b1, b2⟩ := q5 (p + i) (by omega)
    have b1' : I (101 + 1) (p + i) = Int32.ofNat (B (p + i)) := b1
    have dg := c_digit d (G := G) (I := I) (L := L) b2
    by_cases s : 48 ≤ B (p + i) ∧ B (p + i) ≤ 57
    · have s' : isD B (p + i) = true := decide_eq_true s
      rw [if_pos s] at dg
      have mb : mil (nvl B p i) ≤ 1000000 := by unfold mil; split <;> omega
      have ev : jmin (((Int32.ofNat (mil (nvl B p i)) * 10) + Int32.ofNat (B (p + i))) - 48) 1000000 = Int32.ofNat (mil (nvl B p (i + 1))) := by
        rw [show (10 : Int32) = Int32.ofNat 10 from rfl, i_mul, i_add, show (48 : Int32) = Int32.ofNat 48 from rfl, i_sub (by omega) (by omega), show (1000000 : Int32) = Int32.ofNat 1000000 from rfl, jmin_n (by omega) (by decide)]
        congr 1
        show _ = mil (10 * nvl B p i + (B (p + i) - 48))
        unfold mil
        split <;> split <;> split <;> omega
      have o1 := TxO_u (k := 5) (v := Int32.ofNat (mil (nvl B p (i + 1)))) (TxO_i (I := I)) (by omega)
      have o2 := TxO_u (k := 3) (v := Int32.ofNat (p + i + 1)) o1 (by omega)
      rw [up_eq, up_up] at o2
      have q' := TxR_o q o2 (a' := p + (i + 1)) (by rw [up_eq, up_eq]; rfl) (by omega)
      obtain ⟨I', c1, c2, c3, c4, c5⟩ := ih (i + 1) _ (by omega) q' (by rw [up_eq, up_ne (by decide), up_eq])
      have es : skr (isD B) e (p + i) = skr (isD B) e (p + (i + 1)) := sk_y (by omega) s'
      rw [es]
      refine ⟨I', ?_, TxO_t o2 c2, c3, c4, fun k h1 h2 => by rw [c5 k h1 h2, up_eq, up_ne h1, up_ne h2]⟩
      rw [e_X10_mustTakeNumber_17]
      simp (disch := omega) only [↓vX lX, q1, q2, if_neg le, b1', ↓mcI_of dg, if_neg (show ¬ (1 : Int32) = 0 by decide), h5, up2_e, up_eq, up_up, up_ne, ev, i_one]
      exact c1
    · have s' : ¬ isD B (p + i) = true := fun t => s (of_decide_eq_true t)
      rw [if_neg s] at dg
      rw [sk_n s']
      refine ⟨I, ?_, TxO_i, q, by rw [Nat.add_sub_cancel_left]; exact h5, fun _ _ _ => rfl⟩
      rw [e_X10_mustTakeNumber_17]
      simp (disch := omega) only [↓vX lX, q1, q2, if_neg le, b1', ↓mcI_of dg, if_true]
/-- where a number ends, and what it is -/
def nme (B : Nat → Nat) (e a : Nat) : Nat := skr (isD B) e (skb B e a)
def nmn (B : Nat → Nat) (e a : Nat) : Nat := nvl B (skb B e a) (nme B e a - skb B e a)
theorem nme_b {B : Nat → Nat} {e a : Nat} (h : a ≤ e) : skb B e a ≤ nme B e a ∧ nme B e a ≤ e := by
  obtain ⟨h1, h2, -⟩ := sk_b (P := isD B) (e := e) _ (skb B e a) rfl (skb_b h).2
  exact ⟨h1, h2⟩
/-- a number that must stand there -/
theorem tk_num (d : Nat) {lo h1 : Nat} (lX : LayX G 101) (q : TxR B e a I) (hlo : lo ≤ 100000) (hh1 : h1 ≤ 100000) : (nme B e a = skb B e a ∧ ∃ I', mcal mT (d + 2) 94 [.ref 101, .int (Int32.ofNat lo), .int (Int32.ofNat h1 - 1)] (G, I, L) = some (.inl (some (.int 0)), (G, I', L)) ∧ TxO I I' ∧ I' 101 6 = 1 ∧ I' 101 7 = Int32.ofNat (skb B e a)) ∨ (¬ nme B e a = skb B e a ∧ (lo ≤ nmn B e a ∧ nmn B e a < h1) ∧ ∃ I', mcal mT (d + 2) 94 [.ref 101, .int (Int32.ofNat lo), .int (Int32.ofNat h1 - 1)] (G, I, L) = some (.inl (some (.int 1)), (G, I', L)) ∧ TxO I I' ∧ TxR B e (nme B e a) I' ∧ I' 101 5 = Int32.ofNat (nmn B e a) ∧ I' 101 4 = Int32.ofNat (skb B e a) ∧ ∀ k, 6 ≤ k → I' 101 k = I 101 k) ∨ (¬ nme B e a = skb B e a ∧ ¬ (lo ≤ nmn B e a ∧ nmn B e a < h1) ∧ ∃ I', mcal mT (d + 2) 94 [.ref 101, .int (Int32.ofNat lo), .int (Int32.ofNat h1 - 1)] (G, I, L) = some (.inl (some (.int 0)), (G, I', L)) ∧ TxO I I' ∧ I' 101 6 = 2 ∧ I' 101 7 = Int32.ofNat (skb B e a)) := by
  obtain ⟨I0, s1, s2, s3, s4⟩ := tk_skip d (L := L) lX q
  have bb := skb_b (B := B) q.2.2.1
  have nb := nme_b (B := B) q.2.2.1
  have he := q.2.2.2.1
  have o1 := TxO_u (k := 4) (v := Int32.ofNat (skb B e a)) s2 (by omega)
  have o2 := TxO_u (k := 5) (v := 0) o1 (by omega)
  rw [up_eq, up_up] at o2
  have q' : TxR B e (skb B e a + 0) (va_up I0 101 (va_up (va_up (I0 101) 4 (Int32.ofNat (skb B e a))) 5 0)) := TxR_o q o2 (by rw [up_eq, up_ne (by decide), up_ne (by decide)]; exact s3.2.1) bb.2
  obtain ⟨I1, c1, c2, c3, c4, c5⟩ := c_num d (L := L) (Int32.ofNat lo) (Int32.ofNat h1 - 1) lX _ 0 _ rfl q' (by rw [up_eq, up_eq]; rfl)
  have e3 : I1 101 3 = Int32.ofNat (nme B e a) := c3.2.1
  have e5 : I1 101 5 = Int32.ofNat (mil (nmn B e a)) := c4
  have e4 : I1 101 4 = Int32.ofNat (skb B e a) := by rw [c5 4 (by decide) (by decide), up_eq, up_ne (by decide), up_eq]
  have mb : mil (nmn B e a) ≤ 1000000 := by unfold mil; split <;> omega
  have o3 := TxO_t o2 c2
  have st : mcal mT (d + 2) 94 [.ref 101, .int (Int32.ofNat lo), .int (Int32.ofNat h1 - 1)] (G, I, L) = f_X10_mustTakeNumber (d + 1) 85 [.ref 101, .int (Int32.ofNat lo), .int (Int32.ofNat h1 - 1)] [] (G, I1, L) := by
    rw [q_X10_mustTakeNumber_, e_X10_mustTakeNumber_0]
    have e3' : I0 101 3 = Int32.ofNat (skb B e a) := s3.2.1
    simp only [↓vX lX, ↓mcV_of s1, e3', up2_e, up_eq, up_up]
    exact c1
  by_cases z : nme B e a = skb B e a
  · obtain ⟨I2, d1, d2, d3, d4⟩ := tk_fail d (I := I1) (L := L) 1 (Int32.ofNat (skb B e a)) lX
    refine Or.inl ⟨z, I2, ?_, TxO_t o3 d2, d3, d4⟩
    rw [st, e_X10_mustTakeNumber_85]
    simp only [↓vX lX, e3, e4, if_pos (show Int32.ofNat (nme B e a) = Int32.ofNat (skb B e a) by rw [z]), ↓mcI_of d1, mb0]
  · have z' : ¬ Int32.ofNat (nme B e a) = Int32.ofNat (skb B e a) := fun t => z ((i_eq (by omega) (by omega)).mp t)
    have cnd : ((¬ Int32.ofNat (mil (nmn B e a)) < Int32.ofNat lo) ∧ Int32.ofNat (mil (nmn B e a)) ≤ Int32.ofNat h1 - 1) ↔ (lo ≤ nmn B e a ∧ nmn B e a < h1) := by
      rw [i_hi (by omega) (by omega), i_lt (by omega) (by omega)]
      unfold mil
      split <;> omega
    by_cases r : lo ≤ nmn B e a ∧ nmn B e a < h1
    · obtain ⟨r1, r2⟩ := cnd.mpr r
      refine Or.inr (Or.inl ⟨z, r, I1, ?_, o3, TxR_o q o3 e3 nb.2, by rw [e5]; unfold mil; rw [if_pos (by omega)], e4, fun k hk => ?_⟩)
      · rw [st, e_X10_mustTakeNumber_85]
        simp only [↓vX lX, e3, e4, if_neg z', e_X10_mustTakeNumber_106, e5, if_neg r1, if_pos r2, e_X10_mustTakeNumber_134, e_X10_mustTakeNumber_139, mb1]
      · rw [c5 k (by omega) (by omega), up_eq, up_ne (by omega), up_ne (by omega), s4 k (by omega)]
    · obtain ⟨I2, d1, d2, d3, d4⟩ := tk_fail d (I := I1) (L := L) 2 (Int32.ofNat (skb B e a)) lX
      refine Or.inr (Or.inr ⟨z, r, I2, ?_, TxO_t o3 d2, d3, d4⟩)
      rw [st, e_X10_mustTakeNumber_85]
      simp only [↓vX lX, e3, e4, if_neg z', e_X10_mustTakeNumber_106, e5]
      by_cases r1 : Int32.ofNat (mil (nmn B e a)) < Int32.ofNat lo
      · simp only [if_pos r1, e_X10_mustTakeNumber_122, ↓vX lX, e4, ↓mcI_of d1, if_true, e_X10_mustTakeNumber_138, e_X10_mustTakeNumber_139, mb0]
      · have r2 : ¬ Int32.ofNat (mil (nmn B e a)) ≤ Int32.ofNat h1 - 1 := fun t => r (cnd.mp ⟨r1, t⟩)
        simp only [if_neg r1, if_neg r2, e_X10_mustTakeNumber_122, ↓vX lX, e4, ↓mcI_of d1, if_true, e_X10_mustTakeNumber_138, e_X10_mustTakeNumber_139, mb0]
/-- where a word ends -/
def wde (B : Nat → Nat) (e a : Nat) : Nat := skr (isL B) e (skb B e a)
theorem wde_b {B : Nat → Nat} {e a : Nat} (h : a ≤ e) : skb B e a ≤ wde B e a ∧ wde B e a ≤ e := by
  obtain ⟨h1, h2, -⟩ := sk_b (P := isL B) (e := e) _ (skb B e a) rfl (skb_b h).2
  exact ⟨h1, h2⟩
theorem c_lets (d x : Nat) (lX : LayX G 101) : ∀ k a I, e - a = k → TxR B e a I → f_X10_takeWord d 12 [.ref 101, .ref x, mU, mU, mU] [] (G, I, L) = f_X10_takeWord d 64 [.ref 101, .ref x, mU, mU, mU] [] (G, va_up I 101 (va_up (I 101) 3 (Int32.ofNat (skr (isL B) e a))), L) := by
  intro k
  induction k with
  | zero =>
    intro a I hk q
    obtain ⟨q1, q2, q3, q4, q5⟩ := id q
    have le : Int32.ofNat e ≤ Int32.ofNat a := (i_le (by omega) (by omega)).mpr (by omega)
    rw [e_X10_takeWord_12, sk_e (by omega), tx_id q2]
    simp only [↓vX lX, q1, q2, if_pos le]
  | succ k ih =>
    intro a I hk q
    obtain ⟨q1, q2, q3, q4, q5⟩ := id q
    have le : ¬ Int32.ofNat e ≤ Int32.ofNat a := fun t => by have := (i_le (by omega) (by omega)).mp t; omega
    obtain ⟨b1, b2⟩ := q5 a (by omega)
    have b1' : I (101 + 1) a = Int32.ofNat (B a) := b1
    rw [e_X10_takeWord_12]
    by_cases s : 97 ≤ B a ∧ B a ≤ 122
    · have s' : isL B a = true := decide_eq_true s
      have n1 : ¬ Int32.ofNat (B a) < 97 := fun t => by have := (i_lt (b := 97) (by omega) (by decide)).mp t; omega
      have n2 : ¬ (122 : Int32) < Int32.ofNat (B a) := fun t => by have := (i_lt (a := 122) (by decide) (by omega)).mp t; omega
      simp (disch := omega) only [↓vX lX, q1, q2, if_neg le, b1', if_neg n1, if_neg n2, up2_e, i_one]
      have q' : TxR B e (a + 1) (va_up I 101 (va_up (I 101) 3 (Int32.ofNat (a + 1)))) := TxR_o q (TxO_u TxO_i (by omega)) (by rw [up_eq, up_eq]) (by omega)
      rw [ih (a + 1) _ (by omega) q', up_eq, up_up, up_up, sk_y (by omega) s']
    · have s' : ¬ isL B a = true := fun t => s (of_decide_eq_true t)
      rw [sk_n s', tx_id q2]
      by_cases n1 : Int32.ofNat (B a) < 97
      · simp (disch := omega) only [↓vX lX, q1, q2, if_neg le, b1', if_pos n1]
      · have n2 : (122 : Int32) < Int32.ofNat (B a) := (i_lt (a := 122) (by decide) (by omega)).mpr (by
          have : ¬ B a < 97 := fun t => n1 ((i_lt (b := 97) (by omega) (by decide)).mpr t)
          omega)
        simp (disch := omega) only [↓vX lX, q1, q2, if_neg le, b1', if_neg n1, if_pos n2]
theorem c_isWord (d x : Nat) {t : List Int32} {w : List Nat} {p q bs : Nat} (lX : LayX G 101) (hq : TxR B e q I) (h4 : I 101 4 = Int32.ofNat p) (hp : p ≤ q) (hm : ∀ f, mtext x f = f t) (hl : bs + w.length ≤ t.length) (ht : t.length < 1000) (hch : ∀ k, k < w.length → t.getD (bs + k) 0 = Int32.ofNat (w.getD k 0) ∧ w.getD k 0 < 256) : mcal mT (d + 1) 97 [.ref 101, .ref x, .int (Int32.ofNat bs), .int (Int32.ofNat (bs + w.length))] (G, I, L) = some (.inl (some (.int (if isw w B p q then 1 else 0))), (G, I, L)) := by
  obtain ⟨q1, q2, q3, q4, q5⟩ := id hq
  have s1 : Int32.ofNat (bs + w.length) - Int32.ofNat bs = Int32.ofNat w.length := by rw [i_sub (by omega) (by omega), Nat.add_sub_cancel_left]
  have s2 : Int32.ofNat q - Int32.ofNat p = Int32.ofNat (q - p) := i_sub hp (by omega)
  rw [q_X10_isWord_, e_X10_isWord_0]
  simp only [↓vX lX, q2, h4, s1, s2]
  by_cases c : w.length = q - p
  case neg =>
    rw [if_neg (fun z => c ((i_eq (by omega) (by omega)).mp z)), if_neg (fun z => c z.1), e_X10_isWord_23, mb0]
  rw [if_pos (by rw [c]), hm, if_pos ((i_le (by omega) (by omega)).mpr hl), e_X10_isWord_25]
  have lp : ∀ m k, k + m = w.length → (∀ i, i < k → w.getD i 0 = B (p + i)) → f_X10_isWord d 28 [.ref 101, .ref x, .int (Int32.ofNat bs), .int (Int32.ofNat (bs + w.length)), .int (Int32.ofNat (bs + k))] [] (G, I, L) = some (.inl (some (.int (if isw w B p q then 1 else 0))), (G, I, L)) := by
    intro m
    induction m with
    | zero =>
      intro k hk hi
      have ek : k = w.length := by omega
      rw [ek] at hi ⊢
      rw [e_X10_isWord_28, if_pos i_rf, e_X10_isWord_65, mb1, if_pos ⟨c, hi⟩]
    | succ m ih =>
      intro k hk hi
      obtain ⟨h1, h2⟩ := hch k (by omega)
      obtain ⟨b1, b2⟩ := q5 (p + k) (by omega)
      have b1' : I (101 + 1) (p + k) = Int32.ofNat (B (p + k)) := b1
      have ix1 : ¬ (Int32.ofNat (bs + k) < 0 ∨ t.length ≤ (Int32.ofNat (bs + k)).toNatClampNeg) := by
        rw [i_nat (by omega)]
        intro z
        rcases z with z | z
        · exact i_neg (by omega) z
        · omega
      have ix2 : (Int32.ofNat p + Int32.ofNat (bs + k)) - Int32.ofNat bs = Int32.ofNat (p + k) := by
        rw [i_add, i_sub (by omega) (by omega)]
        congr 1
        omega
      rw [e_X10_isWord_28, if_neg (fun z => by have := (i_le (by omega) (by omega)).mp z; omega), hm, if_neg ix1]
      simp (disch := omega) only [↓vX lX, h4, ix2, b1', i_nat, h1]
      by_cases s : w.getD k 0 = B (p + k)
      · rw [if_pos (by rw [s]), e_X10_isWord_59, i_one]
        refine ih (k + 1) (by omega) (fun i hi' => ?_)
        by_cases ei : i = k
        · rw [ei]; exact s
        · exact hi i (by omega)
      · rw [if_neg (fun z => s ((i_eq (by omega) (by omega)).mp z)), if_neg (fun z => s (z.2 k (by omega))), mb0]
  exact lp w.length 0 (Nat.zero_add _) (fun i hi => absurd hi (Nat.not_lt_zero _))
/-- one word of a list -/
theorem c_seg (d x wh : Nat) {t : List Int32} {w : List Nat} {p q bs : Nat} (lX : LayX G 101) (hq : TxR B e q I) (h4 : I 101 4 = Int32.ofNat p) (hp : p ≤ q) (hm : ∀ f, mtext x f = f t) (hl : bs + w.length ≤ t.length) (ht : t.length < 1000) (hch : ∀ k, k < w.length → t.getD (bs + k) 0 = Int32.ofNat (w.getD k 0) ∧ w.getD k 0 < 256 ∧ ¬ w.getD k 0 = 32) (hend : bs + w.length = t.length ∨ t.getD (bs + w.length) 0 = 32) : f_X10_takeWord (d + 1) 71 [.ref 101, .ref x, .int (Int32.ofNat wh), .int (Int32.ofNat bs), .int (Int32.ofNat bs)] [] (G, I, L) = (if isw w B p q then some (.inl (some (.int (Int32.ofNat wh))), (G, I, L)) else f_X10_takeWord (d + 1) 71 [.ref 101, .ref x, .int (Int32.ofNat (wh + 1)), .int (Int32.ofNat (bs + w.length + 1)), .int (Int32.ofNat (bs + w.length + 1))] [] (G, I, L)) := by
  have lp : ∀ m k, k + m = w.length → f_X10_takeWord (d + 1) 71 [.ref 101, .ref x, .int (Int32.ofNat wh), .int (Int32.ofNat bs), .int (Int32.ofNat (bs + k))] [] (G, I, L) = f_X10_takeWord (d + 1) 103 [.ref 101, .ref x, .int (Int32.ofNat wh), .int (Int32.ofNat bs), .int (Int32.ofNat (bs + w.length))] [] (G, I, L) := by
    intro m
    induction m with
    | zero =>
      intro k hk
      have ek : k = w.length := by omega
      have ix1 : t.length ≤ bs + w.length ∨ ¬ (Int32.ofNat (bs + w.length) < 0 ∨ t.length ≤ (Int32.ofNat (bs + w.length)).toNatClampNeg) := by
        by_cases z : t.length ≤ bs + w.length
        · exact Or.inl z
        · right
          rw [i_nat (by omega)]
          intro y
          rcases y with y | y
          · exact i_neg (by omega) y
          · omega
      rw [ek, e_X10_takeWord_71, hm, if_neg (fun z => by have := (i_lt (by omega) (by omega)).mp z; omega), hm]
      by_cases z : t.length ≤ bs + w.length
      · rw [if_pos ((i_le (by omega) (by omega)).mpr z)]
      · rw [if_neg (fun y => z ((i_le (by omega) (by omega)).mp y)), hm, if_neg (ix1.resolve_left z), i_nat (by omega), if_pos (hend.resolve_left (by omega))]
    | succ m ih =>
      intro k hk
      obtain ⟨h1, h2, h3⟩ := hch k (by omega)
      have ix1 : ¬ (Int32.ofNat (bs + k) < 0 ∨ t.length ≤ (Int32.ofNat (bs + k)).toNatClampNeg) := by
        rw [i_nat (by omega)]
        intro z
        rcases z with z | z
        · exact i_neg (by omega) z
        · omega
      rw [e_X10_takeWord_71, hm, if_neg (fun z => by have := (i_lt (by omega) (by omega)).mp z; omega), hm, if_neg (fun z => by have := (i_le (by omega) (by omega)).mp z; omega), hm, if_neg ix1, i_nat (by omega), h1, if_neg (show ¬ Int32.ofNat (w.getD k 0) = 32 from fun z => h3 ((i_eq (b := 32) (by omega) (by decide)).mp z)), e_X10_takeWord_124, i_one]
      exact ih (k + 1) (by omega)
  have iw := c_isWord d x (L := L) (w := w) (bs := bs) lX hq h4 hp hm hl ht (fun k hk => ⟨(hch k hk).1, (hch k hk).2.1⟩)
  refine (lp w.length 0 (Nat.zero_add _)).trans ?_
  rw [e_X10_takeWord_103]
  simp only [↓vX lX, ↓mcI_of iw]
  by_cases c : isw w B p q
  · rw [if_pos c, if_pos c, if_neg (show ¬ (1 : Int32) = 0 by decide)]
  · rw [if_neg c, if_neg c, if_pos rfl, e_X10_takeWord_116, i_one, i_one, e_X10_takeWord_124, i_one]
theorem c_segE (d x wh bs : Nat) {t : List Int32} (hm : ∀ f, mtext x f = f t) (ht : t.length < 1000) (hb : bs = t.length + 1) : f_X10_takeWord (d + 1) 71 [.ref 101, .ref x, .int (Int32.ofNat wh), .int (Int32.ofNat bs), .int (Int32.ofNat bs)] [] (G, I, L) = some (.inl (some (.int (-1))), (G, I, L)) := by
  rw [e_X10_takeWord_71, hm, if_pos ((i_lt (by omega) (by omega)).mpr (by omega)), e_X10_takeWord_130]
/-- up to the list -/
theorem tk_word (d x : Nat) (lX : LayX G 101) (q : TxR B e a I) : ∃ I', mcal mT (d + 2) 95 [.ref 101, .ref x] (G, I, L) = f_X10_takeWord (d + 1) 71 [.ref 101, .ref x, .int (Int32.ofNat 0), .int (Int32.ofNat 0), .int (Int32.ofNat 0)] [] (G, I', L) ∧ TxO I I' ∧ TxR B e (wde B e a) I' ∧ I' 101 4 = Int32.ofNat (skb B e a) ∧ ∀ k, 5 ≤ k → I' 101 k = I 101 k := by
  obtain ⟨I0, s1, s2, s3, s4⟩ := tk_skip d (L := L) lX q
  have bb := skb_b (B := B) q.2.2.1
  have wb := wde_b (B := B) q.2.2.1
  have o1 := TxO_u (k := 4) (v := Int32.ofNat (skb B e a)) s2 (by omega)
  have q' : TxR B e (skb B e a) (va_up I0 101 (va_up (I0 101) 4 (Int32.ofNat (skb B e a)))) := TxR_o q o1 (by rw [up_eq, up_ne (by decide)]; exact s3.2.1) bb.2
  have cl := c_lets (d + 1) x (L := L) lX _ _ _ rfl q'
  have o2 := TxO_u (k := 3) (v := Int32.ofNat (wde B e a)) o1 (by omega)
  refine ⟨_, ?_, o2, TxR_o q o2 (by rw [up_eq, up_eq]) wb.2, by rw [up_eq, up_ne (by decide), up_eq, up_eq], fun k hk => by rw [up_eq, up_ne (by omega), up_eq, up_ne (by omega), s4 k (by omega)]⟩
  have e3' : I0 101 3 = Int32.ofNat (skb B e a) := s3.2.1
  rw [q_X10_takeWord_, e_X10_takeWord_0]
  simp only [↓vX lX, ↓mcV_of s1, e3', up2_e]
  refine cl.trans ?_
  rw [e_X10_takeWord_64]
  rfl
end
