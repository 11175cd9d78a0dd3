/-! reading texts: words by their sums -/
def hsh (D : Nat → Nat) : Nat → Nat
  | 0 => 0
  | i + 1 => 31 * hsh D i + D i
theorem hsh_inj {D E : Nat → Nat} : ∀ i j, (∀ k, k < i → 1 ≤ D k ∧ D k ≤ 26) → (∀ k, k < j → 1 ≤ E k ∧ E k ≤ 26) → hsh D i = hsh E j → i = j ∧ ∀ k, k < i → D k = E k := by
  intro i
  induction i with
  | zero =>
    intro j _ hE h
    cases j with
    | zero => exact ⟨rfl, fun k hk => absurd hk (Nat.not_lt_zero _)⟩
    | succ j =>
      have a := hE j (by omega)
      have b : hsh E (j + 1) = 31 * hsh E j + E j := rfl
      have c : hsh D 0 = 0 := rfl
      omega
  | succ i ih =>
    intro j hD hE h
    have d := hD i (by omega)
    have b : hsh D (i + 1) = 31 * hsh D i + D i := rfl
    cases j with
    | zero =>
      have c : hsh E 0 = 0 := rfl
      omega
    | succ j =>
      have a := hE j (by omega)
      have c : hsh E (j + 1) = 31 * hsh E j + E j := rfl
      obtain ⟨r1, r2⟩ := ih j (fun k hk => hD k (by omega)) (fun k hk => hE k (by omega)) (by omega)
      refine ⟨by omega, fun k hk => ?_⟩
      by_cases e : k = i
      · rw [e]
        have : E i = E j := by rw [r1]
        omega
      · exact r2 k (by omega)
theorem hsh_c {D E : Nat → Nat} : ∀ i, (∀ k, k < i → D k = E k) → hsh D i = hsh E i := by
  intro i
  induction i with
  | zero => intro _; rfl
  | succ i ih =>
    intro h
    show 31 * hsh D i + D i = 31 * hsh E i + E i
    rw [ih (fun k hk => h k (by omega)), h i (by omega)]
theorem hsh_b {D : Nat → Nat} : ∀ i, (∀ k, k < i → D k ≤ 26) → hsh D i < 31 ^ i := by
  intro i
  induction i with
  | zero => intro _; exact (by decide : 0 < 31 ^ 0)
  | succ i ih =>
    intro h
    have a := ih (fun k hk => h k (by omega))
    have b := h i (by omega)
    have c : hsh D (i + 1) = 31 * hsh D i + D i := rfl
    rw [Nat.pow_succ]
    omega
theorem p31 {i : Nat} (h : i ≤ 9) : 31 ^ i ≤ 26439622160671 := by
  have : ∀ i, i < 10 → 31 ^ i ≤ 26439622160671 := by decide
  exact this i (by omega)
/-- the reference's sum of a word -/
def whs (B : Nat → Nat) (p q : Nat) : Nat := if q - p ≤ 9 then hsh (fun k => B (p + k) - 96) (q - p) else 1
def wsm (w : List Nat) : Nat := hsh (fun k => w.getD k 0 - 96) w.length
theorem whs_w {B : Nat → Nat} {p q : Nat} {w : List Nat} (hw : lets w) (hl : ∀ i, p ≤ i → i < q → isL B i = true) : (Int64.ofNat (whs B p q) = Int64.ofNat (wsm w)) ↔ isw w B p q := by
  obtain ⟨w1, w2, w3⟩ := hw
  have bw : wsm w < 9223372036854775808 := by
    have := hsh_b (D := fun k => w.getD k 0 - 96) w.length (fun k hk => by have := w3 k hk; omega)
    have := p31 w2
    unfold wsm
    omega
  have hB : ∀ k, k < q - p → 97 ≤ B (p + k) ∧ B (p + k) ≤ 122 := fun k hk => of_decide_eq_true (hl (p + k) (by omega) (by omega))
  have bB : whs B p q < 9223372036854775808 := by
    unfold whs
    split
    · have := hsh_b (D := fun k => B (p + k) - 96) (q - p) (fun k hk => by have := hB k hk; omega)
      have := p31 (i := q - p) (by assumption)
      omega
    · decide
  rw [l_eq bB bw]
  unfold whs
  by_cases c : q - p ≤ 9
  · rw [if_pos c]
    constructor
    · intro h
      obtain ⟨r1, r2⟩ := hsh_inj (q - p) w.length (fun k hk => by have := hB k hk; omega) (fun k hk => by have := w3 k hk; omega) h
      refine ⟨r1.symm, fun k hk => ?_⟩
      have a : B (p + k) - 96 = w.getD k 0 - 96 := r2 k (by omega)
      have b := hB k (by omega)
      have c := w3 k hk
      omega
    · intro h
      unfold wsm
      rw [h.1]
      exact hsh_c _ (fun k hk => by show B (p + k) - 96 = w.getD k 0 - 96; rw [h.2 k (by rw [h.1]; exact hk)])
  · rw [if_neg c]
    constructor
    · intro h
      exfalso
      obtain ⟨n, hn⟩ : ∃ n, w.length = n + 2 := ⟨w.length - 2, by omega⟩
      have a : wsm w = 31 * (31 * hsh (fun k => w.getD k 0 - 96) n + (w.getD n 0 - 96)) + (w.getD (n + 1) 0 - 96) := by
        unfold wsm
        rw [hn]
        rfl
      have b := w3 n (by omega)
      omega
    · intro h
      exact absurd h.1 (by omega)
section
variable {G : mG} {J : Nat → Nat → Int32} {K : Nat → Nat → Int64} {B : Nat → Nat} {e a : Nat}
theorem r_of (d x : Nat) {t : List Int32} {w : List Nat} (hm : ∀ f, mtext x f = f t) (hl : t.length = w.length) (hw : lets w) (hch : ∀ k, k < w.length → t.getD k 0 = Int32.ofNat (w.getD k 0)) : mcal mT (d + 1) 185 [.ref x] (G, J, K) = some (.inl (some (.long (Int64.ofNat (wsm w)))), (G, J, K)) := by
  obtain ⟨w1, w2, w3⟩ := hw
  rw [q_X12_of_, e_X12_of_0]
  have lp := loopx (fun k (s : Int64) => f_X12_of d 4 [.ref x, .long s, mU, .int k] [] (G, J, K)) (fun k => Int64.ofNat (hsh (fun k => w.getD k 0 - 96) k)) w.length (fun k hk => by
    have b := hsh_b (D := fun k => w.getD k 0 - 96) k (fun j hj => by have := w3 j (by omega); omega)
    have b9 := p31 (i := k) (by omega)
    obtain ⟨c1, c2⟩ := w3 k hk
    have ix1 : ¬ (Int32.ofNat k < 0 ∨ t.length ≤ (Int32.ofNat k).toNatClampNeg) := by
      rw [i_nat (by omega)]
      intro z
      rcases z with z | z
      · exact i_neg (by omega) z
      · omega
    have ev : (((31 : Int64) * Int64.ofNat (hsh (fun k => w.getD k 0 - 96) k)) + Int32.toInt64 (Int32.ofNat (w.getD k 0))) - 96 = Int64.ofNat (hsh (fun k => w.getD k 0 - 96) (k + 1)) := by
      rw [show (31 : Int64) = Int64.ofNat 31 from rfl, l_mul, l_t (by omega), l_add, show (96 : Int64) = Int64.ofNat 96 from rfl, l_sub (by omega) (by omega)]
      congr 1
      show _ = 31 * hsh (fun k => w.getD k 0 - 96) k + (w.getD k 0 - 96)
      omega
    show f_X12_of d 4 [_, _, _, _] _ _ = f_X12_of d 4 [_, _, _, _] _ _
    rw [e_X12_of_4, hm, if_neg (fun z => by have := (i_le (by omega) (by omega)).mp z; omega), hm, if_neg ix1, i_nat (by omega), hch k hk, ev, i_one])
  refine Eq.trans lp ?_
  show f_X12_of d 4 [_, _, _, _] _ _ = _
  rw [e_X12_of_4, hm, if_pos ((i_le (by omega) (by omega)).mpr (by omega)), e_X12_of_35]
  rfl
theorem rk_word (d : Nat) (lM : LayM G 219) (q : RdR B e a J) : ∃ J', mcal mT (d + 2) 184 [.ref 219] (G, J, K) = some (.inl (some (.long (Int64.ofNat (whs B (skb B e a) (wde B e a))))), (G, J', K)) ∧ RdO J J' ∧ RdR B e (skb B e a) J' ∧ ∀ k, k ≠ 5 → J' 219 k = J 219 k := by
  obtain ⟨J1, c1, c2, c3, c4⟩ := rk_here d (K := K) lM q
  refine ⟨J1, ?_, c2, c3, c4⟩
  obtain ⟨q1, q2, q3, q4, q5, q6⟩ := id c3
  generalize hp : skb B e a = p at c1 c3 q2 q3 ⊢
  have wq : wde B e a = skr (isL B) e p := by unfold wde; rw [hp]
  rw [wq]
  obtain ⟨b1, b2, b3, b4⟩ := sk_b (P := isL B) (e := e) _ p rfl q3
  rw [q_X12_word_, e_X12_word_0]
  simp only [↓vM lM, ↓mcI_of c1, q2]
  -- the sum after i letters
  have lp : ∀ m i, p + i + m = skr (isL B) e p → f_X12_word (d + 1) 15 [.ref 219, .long (Int64.ofNat (if i ≤ 9 then hsh (fun k => B (p + k) - 96) i else 1)), mU, .int (Int32.ofNat i), .int (Int32.ofNat (p + i))] [] (G, J1, K) = some (.inl (some (.long (Int64.ofNat (whs B p (skr (isL B) e p))))), (G, J1, K)) := by
    intro m
    induction m with
    | zero =>
      intro i hi
      have ei : skr (isL B) e p - p = i := by omega
      have fin : f_X12_word (d + 1) 75 [mU, .long (Int64.ofNat (if i ≤ 9 then hsh (fun k => B (p + k) - 96) i else 1)), mU, .int (Int32.ofNat i), mU] [] (G, J1, K) = some (.inl (some (.long (Int64.ofNat (whs B p (skr (isL B) e p))))), (G, J1, K)) := by
        unfold whs
        rw [ei, e_X12_word_75]
        by_cases c : i ≤ 9
        · rw [if_pos (show Int32.ofNat i ≤ 9 from (i_le (b := 9) (by omega) (by decide)).mpr c), if_pos c, e_X12_word_85, e_X12_word_86]
        · rw [if_neg (show ¬ Int32.ofNat i ≤ 9 from fun t => c ((i_le (b := 9) (by omega) (by decide)).mp t)), if_neg c, e_X12_word_86]
          rfl
      rw [e_X12_word_15]
      by_cases c : skr (isL B) e p < e
      · have nl := b4 c
        rw [← hi, Nat.add_zero] at nl c
        obtain ⟨x1, x2⟩ := q6 (p + i) c
        have x1' : J1 (219 + 3) (p + i) = Int32.ofNat (B (p + i)) := x1
        have sm := r_small d (G := G) (J := J1) (K := K) x2
        rw [if_neg (fun t => nl (decide_eq_true t))] at sm
        have le : ¬ Int32.ofNat e ≤ Int32.ofNat (p + i) := fun t => by have := (i_le (by omega) (by omega)).mp t; omega
        simp (disch := omega) only [↓vM lM, q1, if_neg le, x1', ↓mcI_of sm, if_true]
        exact fin
      · have le : Int32.ofNat e ≤ Int32.ofNat (p + i) := (i_le (by omega) (by omega)).mpr (by omega)
        simp only [↓vM lM, q1, if_pos le]
        exact fin
    | succ m ih =>
      intro i hi
      have il := b3 (p + i) (by omega) (by omega)
      obtain ⟨l1, l2⟩ := of_decide_eq_true il
      obtain ⟨x1, x2⟩ := q6 (p + i) (by omega)
      have x1' : J1 (219 + 3) (p + i) = Int32.ofNat (B (p + i)) := x1
      have sm := r_small d (G := G) (J := J1) (K := K) x2
      rw [if_pos ⟨l1, l2⟩] at sm
      have le : ¬ Int32.ofNat e ≤ Int32.ofNat (p + i) := fun t => by have := (i_le (by omega) (by omega)).mp t; omega
      have nx := ih (i + 1) (by omega)
      rw [e_X12_word_15]
      by_cases c : 9 ≤ i
      · have c' : (9 : Int32) ≤ Int32.ofNat i := (i_le (a := 9) (by decide) (by omega)).mpr c
        simp (disch := omega) only [↓vM lM, q1, if_neg le, x1', ↓mcI_of sm, if_neg (show ¬ (1 : Int32) = 0 by decide), if_pos c', e_X12_word_64, e_X12_word_65, i_one]
        rw [if_neg (by omega)] at nx
        exact nx
      · have c' : ¬ (9 : Int32) ≤ Int32.ofNat i := fun t => c ((i_le (a := 9) (by decide) (by omega)).mp t)
        have hb := hsh_b (D := fun k => B (p + k) - 96) i (fun k hk => by
          have := of_decide_eq_true (b3 (p + k) (by omega) (by omega))
          omega)
        have h9 := p31 (i := i) (by omega)
        have ev : (((31 : Int64) * Int64.ofNat (hsh (fun k => B (p + k) - 96) i)) + Int32.toInt64 (Int32.ofNat (B (p + i)))) - 96 = Int64.ofNat (hsh (fun k => B (p + k) - 96) (i + 1)) := by
          rw [show (31 : Int64) = Int64.ofNat 31 from rfl, l_mul, l_t (by omega), l_add, show (96 : Int64) = Int64.ofNat 96 from rfl, l_sub (by omega) (by omega)]
          congr 1
          show _ = 31 * hsh (fun k => B (p + k) - 96) i + (B (p + i) - 96)
          omega
        rw [if_pos (by omega)] at nx
        rw [if_pos (show i ≤ 9 by omega)]
        simp (disch := omega) only [↓vM lM, q1, if_neg le, x1', ↓mcI_of sm, if_neg (show ¬ (1 : Int32) = 0 by decide), if_neg c', e_X12_word_65, ev, i_one]
        exact nx
  exact lp (skr (isL B) e p - p) 0 (by omega)
/-- a word told, or another -/
theorem wd_cmp {w : List Nat} (hw : lets w) (ha : a ≤ e) : (lg_cmp (Int64.ofNat (whs B (skb B e a) (wde B e a))) (Int64.ofNat (wsm w)) = 0) ↔ isw w B (skb B e a) (wde B e a) := by
  rw [lc_0]
  obtain ⟨-, -, h3, -⟩ := sk_b (P := isL B) (e := e) _ (skb B e a) rfl (skb_b ha).2
  exact whs_w hw h3
end
