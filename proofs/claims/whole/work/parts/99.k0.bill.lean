/-! the words of bills, reckoned -/
def opv (w : Nat) (l r : Int32) : Int32 := if w = 6 then l + r else if w = 7 then l - r else if w = 8 then l * r else if r = 0 then 0 else l / r
/-- the stack after j codes -/
def ev (W : Nat → Nat) (V : Nat → Int32) : Nat → Nat → Int32
  | 0 => fun _ => 0
  | j + 1 => if W j ≤ 5 then va_up (ev W V j) (hgt W j) (V j) else va_up (ev W V j) (hgt W j - 2) (opv (W j) (ev W V j (hgt W j - 2)) (ev W V j (hgt W j - 1)))
def clp (v : Int32) : Int32 := jmax 0 (jmin 1000000 v)
theorem clp_r (v : Int32) : clp v = if 0 ≤ v then (if v ≤ 1000000 then v else 1000000) else 0 := by
  have e0 : (0 : Int32).toInt = 0 := by decide
  have e1 : (1000000 : Int32).toInt = 1000000 := by decide
  apply i_inj
  unfold clp
  rw [jmax_t, jmin_t, e0, e1]
  by_cases c : 0 ≤ v
  · rw [if_pos c]
    rw [Int32.le_iff_toInt_le, e0] at c
    by_cases c2 : v ≤ 1000000
    · rw [if_pos c2]
      rw [Int32.le_iff_toInt_le, e1] at c2
      omega
    · rw [if_neg c2]
      rw [Int32.le_iff_toInt_le, e1] at c2
      omega
  · rw [if_neg c]
    rw [Int32.le_iff_toInt_le, e0] at c
    omega
theorem clp_b (v : Int32) : irng (clp v) 0 1000000 := by
  have e0 : (0 : Int32).toInt = 0 := by decide
  have e1 : (1000000 : Int32).toInt = 1000000 := by decide
  unfold clp irng
  rw [jmax_t, jmin_t, e0, e1]
  omega
theorem div_m1 (x : Int32) : x / (-1) = -x := by
  apply i_inj
  rw [Int32.toInt_div, show (-1 : Int32).toInt = -1 from by decide, Int.tdiv_neg, Int.tdiv_one, Int32.toInt_neg]
theorem hgt_b {W : Nat → Nat} {c : Nat} (h : ∀ j, j < c → (W j ≤ 5 → hgt W j < 15) ∧ (¬ W j ≤ 5 → 2 ≤ hgt W j)) : ∀ j, j ≤ c → hgt W j ≤ 15 := by
  intro j
  induction j with
  | zero => intro _; exact Nat.zero_le _
  | succ j ih =>
    intro hj
    have a := ih (by omega)
    have b := h j (by omega)
    show (if W j ≤ 5 then hgt W j + 1 else hgt W j - 1) ≤ 15
    by_cases p : W j ≤ 5
    · rw [if_pos p]; have := b.1 p; omega
    · rw [if_neg p]; omega
/-- a stack of a row of codes -/
def stk (I : Nat → Nat → Int32) (c : Nat) (S : Nat → Int32) (t : Nat) : Nat → Nat → Int32 := va_up (va_up I (c + 2) S) c (va_up (I c) 3 (Int32.ofNat t))
section
variable {G : mG} {I : Nat → Nat → Int32} {L : Nat → Nat → Int64} {c t : Nat} {S : Nat → Int32}
theorem stk_s : stk I c S t (c + 2) = S := by
  unfold stk
  rw [up_ne (by omega), up_eq]
theorem stk_t : stk I c S t c 3 = Int32.ofNat t := by
  unfold stk
  rw [up_eq, up_eq]
theorem stk_c {k : Nat} (h : k ≠ 3) : stk I c S t c k = I c k := by
  unfold stk
  rw [up_eq, up_ne h]
theorem stk_o {a : Nat} (h1 : a ≠ c) (h2 : a ≠ c + 2) : stk I c S t a = I a := by
  unfold stk
  rw [up_ne h1, up_ne h2]
theorem stk_u {v w : Int32} (e : w = Int32.ofNat (t + 1)) : up2 (up2 (stk I c S t) (c + 2) t v) c 3 w = stk I c (va_up S t v) (t + 1) := by
  rw [e]
  funext a
  rw [up2_e, up2_e]
  by_cases h1 : a = c
  · rw [h1, up_eq, up_ne (by omega)]
    unfold stk
    rw [up_eq, up_eq]
    exact up_up
  · rw [up_ne h1]
    by_cases h2 : a = c + 2
    · rw [h2, up_eq, stk_s, stk_s]
    · rw [up_ne h2, stk_o h1 h2, stk_o h1 h2]
theorem stk_d {w : Int32} (e : w = Int32.ofNat t) : up2 (stk I c S (t + 1)) c 3 w = stk I c S t := by
  rw [e]
  funext a
  rw [up2_e]
  by_cases h1 : a = c
  · rw [h1, up_eq]
    unfold stk
    rw [up_eq, up_eq]
    exact up_up
  · rw [up_ne h1]
    unfold stk
    rw [up_ne h1, up_ne h1]
theorem c_push (d : Nat) (v : Int32) (lC : LayC G c) (ht : t < 15) : mcal mT (d + 1) 22 [.ref c, .int v] (G, stk I c S t, L) = some (.inl none, (G, stk I c (va_up S t v) (t + 1), L)) := by
  have n15 : gN G (c + 2) = 15 := lC.2.2.2.2.2.2
  have k20 : gK G (c + 2) = 20 := lC.2.2.2.2.2.1
  have nn : ¬ Int32.ofNat 15 ≤ Int32.ofNat t := fun p => by have := (i_le (by decide) (by omega)).mp p; omega
  have ne : c ≠ c + 2 := by omega
  rw [q_X2_push_, e_X2_push_0]
  simp only [↓vC lC, ↓gk_t k20, n15, stk_t, if_neg nn]
  simp (disch := omega) only [↓vC lC, up2_e, up_ne ne]
  simp only [stk_t, i_one, e_X2_push_32]
  rw [← stk_u (I := I) (c := c) (S := S) (t := t) (v := v) rfl]
  simp only [up2_e, up_ne ne]
theorem c_pop (d : Nat) (lC : LayC G c) (ht : t < 15) : mcal mT (d + 1) 23 [.ref c] (G, stk I c S (t + 1), L) = some (.inl (some (.int (S t))), (G, stk I c S t, L)) := by
  have pp : (0 : Int32) < Int32.ofNat (t + 1) := (i_lt (a := 0) (by decide) (by omega)).mpr (by omega)
  have e : up2 (stk I c S (t + 1)) c 3 (stk I c S (t + 1) c 3 - 1) = stk I c S t := stk_d (by rw [stk_t, i_pred])
  rw [q_X2_pop_, e_X2_pop_0]
  simp only [↓vC lC, stk_t, if_pos pp, e_X2_pop_9]
  rw [show up2 (stk I c S (t + 1)) c 3 (Int32.ofNat (t + 1) - 1) = stk I c S t from stk_d (by rw [i_pred])]
  simp (disch := omega) only [stk_t, ↓vC lC, stk_s]
theorem c_pop0 (d : Nat) (lC : LayC G c) : mcal mT (d + 1) 23 [.ref c] (G, stk I c S 0, L) = some (.inl (some (.int 0)), (G, stk I c S 0, L)) := by
  rw [q_X2_pop_, e_X2_pop_0]
  simp only [↓vC lC, stk_t, if_neg (show ¬ (0 : Int32) < Int32.ofNat 0 by decide)]
theorem c_at (d : Nat) {j z : Nat} (lC : LayC G c) (hz : I c 1 = Int32.ofNat z) (z2 : z ≤ 200) (hj : j < z) : mcal mT (d + 1) 21 [.ref c, .int (Int32.ofNat j)] (G, I, L) = some (.inl (some (.int (I (c + 1) j))), (G, I, L)) := by
  have n1 : ¬ Int32.ofNat j < 0 := i_neg (by omega)
  have n2 : ¬ Int32.ofNat z ≤ Int32.ofNat j := fun p => by have := (i_le (by omega) (by omega)).mp p; omega
  rw [q_X2_at_, e_X2_at_0, if_neg n1]
  simp (disch := omega) only [↓vC lC, hz, if_neg n2, e_X2_at_22]
end
section
variable {G : mG} {I : Nat → Nat → Int32} {L : Nat → Nat → Int64} {b t : Nat} {S : Nat → Int32}
theorem c_named (d : Nat) {w : Nat} (lW : gK G b = 1) (h1 : 1 ≤ w) (h5 : w ≤ 5) : mcal mT (d + 1) 7 [.ref b, .int (-Int32.ofNat w)] (G, I, L) = some (.inl (some (.int (I b w))), (G, I, L)) := by
  rw [q_X0_named_, e_X0_named_0]
  obtain rfl | rfl | rfl | rfl | rfl : w = 1 ∨ w = 2 ∨ w = 3 ∨ w = 4 ∨ w = 5 := by omega
  · rw [if_neg (by decide), if_neg (by decide), if_neg (by decide), if_neg (by decide), if_pos (by decide), e_X0_named_36, gk_t lW]
  · rw [if_neg (by decide), if_neg (by decide), if_neg (by decide), if_pos (by decide), e_X0_named_41, gk_t lW]
  · rw [if_neg (by decide), if_neg (by decide), if_pos (by decide), e_X0_named_46, gk_t lW]
  · rw [if_neg (by decide), if_pos (by decide), e_X0_named_51, gk_t lW]
  · rw [if_pos (by decide), e_X0_named_56, gk_t lW]
theorem c_joined (d : Nat) {w : Nat} (l r : Int32) (h6 : 6 ≤ w) (h9 : w ≤ 9) : mcal mT (d + 1) 8 [.int (-Int32.ofNat w), .int l, .int r] (G, I, L) = some (.inl (some (.int (opv w l r))), (G, I, L)) := by
  rw [q_X0_joined_, e_X0_joined_0]
  unfold opv
  obtain rfl | rfl | rfl | rfl : w = 6 ∨ w = 7 ∨ w = 8 ∨ w = 9 := by omega
  · rw [if_neg (by decide), if_neg (by decide), if_neg (by decide), if_pos (by decide), e_X0_joined_32, if_pos rfl]
  · rw [if_neg (by decide), if_neg (by decide), if_pos (by decide), e_X0_joined_36, if_neg (by decide), if_pos rfl]
  · rw [if_neg (by decide), if_pos (by decide), e_X0_joined_40, if_neg (by decide), if_neg (by decide), if_pos rfl]
  · rw [if_pos (by decide), e_X0_joined_44, if_neg (show ¬ (9 : Nat) = 6 by decide), if_neg (show ¬ (9 : Nat) = 7 by decide), if_neg (show ¬ (9 : Nat) = 8 by decide)]
    by_cases c : r = 0
    · rw [if_pos c, if_pos c, e_X0_joined_55]
    · rw [if_neg c, if_neg c, e_X0_joined_52, if_neg c, e_X0_joined_55]
theorem neg_c : ∀ w, w ≤ 9 → ¬ w = 0 → (-Int32.ofNat w < 0) ∧ ((-Int32.ofNat w ≤ -6) ↔ ¬ w ≤ 5) := by decide
theorem c_reck (d : Nat) {w : Nat} {N : Int32} (lW : LayW G 1 b) (hw : w ≤ 9) (hN : 0 ≤ N) (p : w ≤ 5) (ht : t < 15) : mcal mT (d + 2) 6 [.ref b, .int (if w = 0 then N else -Int32.ofNat w)] (G, stk I (b + 1) S t, L) = some (.inl none, (G, stk I (b + 1) (va_up S t (if w = 0 then N else I b w)) (t + 1), L)) := by
  have lC := lW.2.2
  have pu := fun v => c_push d (G := G) (I := I) (L := L) (S := S) v lC ht
  rw [q_X0_reckon_, e_X0_reckon_0]
  by_cases c : w = 0
  · rw [if_pos c, if_pos c]
    have n6 : ¬ N ≤ -6 := fun q => by
      rw [Int32.le_iff_toInt_le] at q hN
      have e0 : (0 : Int32).toInt = 0 := by decide
      have e6 : (-6 : Int32).toInt = -6 := by decide
      omega
    have n0 : ¬ N < 0 := Int32.not_lt.mpr hN
    rw [if_neg n6]
    simp only [↓vW lW, if_neg n0, e_X0_reckon_23, ↓vC lC, ↓mcV_of (pu _)]
  · rw [if_neg c, if_neg c]
    obtain ⟨a1, a2⟩ := neg_c w hw c
    have nm := c_named d (G := G) (I := stk I (b + 1) S t) (L := L) (b := b) (w := w) lW.1 (by omega) p
    rw [stk_o (by omega) (by omega)] at nm
    rw [if_neg (fun q => a2.mp q p)]
    simp only [↓vW lW, if_pos a1, e_X0_reckon_18, ↓mcI_of nm, e_X0_reckon_23, ↓vC lC, ↓mcV_of (pu _)]
theorem c_recko (d : Nat) {w : Nat} (lW : LayW G 1 b) (hw : w ≤ 9) (p : ¬ w ≤ 5) (ht : 2 ≤ t) (ht2 : t ≤ 15) : mcal mT (d + 2) 6 [.ref b, .int (-Int32.ofNat w)] (G, stk I (b + 1) S t, L) = some (.inl none, (G, stk I (b + 1) (va_up S (t - 2) (opv w (S (t - 2)) (S (t - 1)))) (t - 1), L)) := by
  obtain ⟨u, rfl⟩ : ∃ u, t = u + 2 := ⟨t - 2, by omega⟩
  have lC := lW.2.2
  have a2 := (neg_c w hw (by omega)).2.mpr p
  have p1 := c_pop d (G := G) (I := I) (L := L) (S := S) (t := u + 1) lC (by omega)
  have p2 := c_pop d (G := G) (I := I) (L := L) (S := S) (t := u) lC (by omega)
  have jo := c_joined d (G := G) (I := stk I (b + 1) S u) (L := L) (w := w) (S u) (S (u + 1)) (by omega) hw
  have pu := c_push d (G := G) (I := I) (L := L) (S := S) (t := u) (opv w (S u) (S (u + 1))) lC (by omega)
  rw [q_X0_reckon_, e_X0_reckon_0, if_pos a2, e_X0_reckon_27]
  simp only [↓vW lW, ↓vC lC, ↓mcI_of p1, ↓mcI_of p2, ↓mcI_of jo, ↓mcV_of pu]
  rfl
/-- the class's value -/
theorem c_value (d : Nat) {c : Nat} {W : Nat → Nat} {N : Nat → Int32} (lW : LayW G 1 b) (hc : I (b + 1) 1 = Int32.ofNat c) (c2 : c ≤ 200) (hW : ∀ j, j < c → W j ≤ 9 ∧ 0 ≤ N j ∧ I (b + 2) j = (if W j = 0 then N j else -Int32.ofNat (W j))) (hh : ∀ j, j < c → (W j ≤ 5 → hgt W j < 15) ∧ (¬ W j ≤ 5 → 2 ≤ hgt W j)) (he : c = 0 ∨ hgt W c = 1) : ∃ S, mcal mT (d + 3) 5 [.ref b] (G, I, L) = some (.inl (some (.int (if c = 0 then 0 else ev W (fun j => if W j = 0 then N j else I b (W j)) c 0))), (G, stk I (b + 1) S 0, L)) := by
  have lC := lW.2.2
  have hb := hgt_b hh
  have lp : ∀ k j, j + k = c → ∀ S, (∀ i, i < hgt W j → S i = ev W (fun j => if W j = 0 then N j else I b (W j)) j i) → ∃ S', (∀ i, i < hgt W c → S' i = ev W (fun j => if W j = 0 then N j else I b (W j)) c i) ∧ f_X0_value (d + 2) 10 [.ref b, .int (Int32.ofNat j)] [] (G, stk I (b + 1) S (hgt W j), L) = f_X0_value (d + 2) 39 [.ref b, mU] [] (G, stk I (b + 1) S' (hgt W c), L) := by
    intro k
    induction k with
    | zero =>
      intro j hj S hS
      have e : j = c := by omega
      rw [e] at hS ⊢
      refine ⟨S, hS, ?_⟩
      rw [e_X0_value_10]
      simp only [↓vW lW, ↓vC lC, stk_c (show (1 : Nat) ≠ 3 by decide), hc, if_pos i_rf]
    | succ k ih =>
      intro j hj S hS
      obtain ⟨w1, w2, w3⟩ := hW j (by omega)
      have nn : ¬ Int32.ofNat c ≤ Int32.ofNat j := fun p => by have := (i_le (by omega) (by omega)).mp p; omega
      have at_ := c_at (d + 1) (G := G) (I := stk I (b + 1) S (hgt W j)) (L := L) (c := b + 1) (z := c) (j := j) lC (by rw [stk_c (by decide)]; exact hc) c2 (by omega)
      have e2 : stk I (b + 1) S (hgt W j) (b + 1 + 1) j = (if W j = 0 then N j else -Int32.ofNat (W j)) := by
        rw [stk_o (by omega) (by omega)]
        exact w3
      rw [e2] at at_
      have st : ∀ S1 t1, mcal mT (d + 2) 6 [.ref b, .int (if W j = 0 then N j else -Int32.ofNat (W j))] (G, stk I (b + 1) S (hgt W j), L) = some (.inl none, (G, stk I (b + 1) S1 t1, L)) → f_X0_value (d + 2) 10 [.ref b, .int (Int32.ofNat j)] [] (G, stk I (b + 1) S (hgt W j), L) = f_X0_value (d + 2) 10 [.ref b, .int (Int32.ofNat (j + 1))] [] (G, stk I (b + 1) S1 t1, L) := by
        intro S1 t1 re
        rw [e_X0_value_10]
        simp only [↓vW lW, ↓vC lC, stk_c (show (1 : Nat) ≠ 3 by decide), hc, if_neg nn, ↓mcI_of at_, ↓mcV_of re, i_one]
      have hj1 := (hh j (by omega))
      by_cases p : W j ≤ 5
      · have re := c_reck d (G := G) (I := I) (L := L) (S := S) (t := hgt W j) lW w1 w2 p (hj1.1 p)
        have eh : hgt W (j + 1) = hgt W j + 1 := if_pos p
        obtain ⟨S', s1, s2⟩ := ih (j + 1) (by omega) (va_up S (hgt W j) (if W j = 0 then N j else I b (W j))) (fun i hi => by
          have ee : ev W (fun j => if W j = 0 then N j else I b (W j)) (j + 1) = va_up (ev W (fun j => if W j = 0 then N j else I b (W j)) j) (hgt W j) (if W j = 0 then N j else I b (W j)) := if_pos p
          rw [ee]
          by_cases q : i = hgt W j
          · rw [q, up_eq, up_eq]
          · rw [up_ne q, up_ne q]; exact hS i (by omega))
        rw [eh] at s2
        exact ⟨S', s1, (st _ _ re).trans s2⟩
      · have c0 : ¬ W j = 0 := by omega
        have h2 := hj1.2 p
        have h15 := hb j (by omega)
        have re := c_recko d (G := G) (I := I) (L := L) (S := S) (t := hgt W j) lW w1 p h2 h15
        rw [show -Int32.ofNat (W j) = (if W j = 0 then N j else -Int32.ofNat (W j)) from (if_neg c0).symm] at re
        have eh : hgt W (j + 1) = hgt W j - 1 := if_neg p
        obtain ⟨S', s1, s2⟩ := ih (j + 1) (by omega) (va_up S (hgt W j - 2) (opv (W j) (S (hgt W j - 2)) (S (hgt W j - 1)))) (fun i hi => by
          have ee : ev W (fun j => if W j = 0 then N j else I b (W j)) (j + 1) = va_up (ev W (fun j => if W j = 0 then N j else I b (W j)) j) (hgt W j - 2) (opv (W j) (ev W (fun j => if W j = 0 then N j else I b (W j)) j (hgt W j - 2)) (ev W (fun j => if W j = 0 then N j else I b (W j)) j (hgt W j - 1))) := if_neg p
          rw [ee, hS (hgt W j - 2) (by omega), hS (hgt W j - 1) (by omega)]
          by_cases q : i = hgt W j - 2
          · rw [q, up_eq, up_eq]
          · rw [up_ne q, up_ne q]; exact hS i (by omega))
        rw [eh] at s2
        exact ⟨S', s1, (st _ _ re).trans s2⟩
  obtain ⟨S', s1, s2⟩ := lp c 0 (Nat.zero_add _) (I (b + 1 + 2)) (fun i hi => absurd hi (Nat.not_lt_zero _))
  refine ⟨S', ?_⟩
  have e0 : up2 I (b + 1) 3 0 = stk I (b + 1) (I (b + 1 + 2)) 0 := by
    unfold stk
    rw [up_id]
    rfl
  rw [q_X0_value_, e_X0_value_0]
  simp only [↓vW lW, ↓vC lC, e0]
  refine Eq.trans s2 ?_
  rw [e_X0_value_39]
  rcases he with rfl | h1
  · have po := c_pop0 (d + 1) (G := G) (I := I) (L := L) (S := S') lC
    rw [show hgt W 0 = 0 from rfl, if_pos rfl]
    simp only [↓vW lW, ↓vC lC, ↓mcI_of po]
  · have c0 : ¬ c = 0 := fun p => by rw [p] at h1; exact absurd (show (0 : Nat) = 1 from h1) (by decide)
    have po := c_pop (d + 1) (G := G) (I := I) (L := L) (S := S') (t := 0) lC (by decide)
    rw [h1, if_neg c0, ← s1 0 (by omega)]
    simp only [↓vW lW, ↓vC lC, ↓mcI_of po]
end
