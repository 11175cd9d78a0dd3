/-! the log against a trial -/
section
variable {G : mG} {SI : Nat → Nat → Nat → Int32} {SL : Nat → Nat → Nat → Int64} {h hs bl bs cl cs lc : Nat} {R : Nat → Int32} {mi ro : Nat → Nat} {off : Int32}
theorem ex_c (d : Nat) (lB : LayB G hs bl bs cl cs) (lP : LayP G 156 h 171 178 192) (lT : LayT G 178) (q : Sqc d G 156 SI SL 240) (h0 : ∀ m, m ≤ 240 → SI m 178 0 = Int32.ofNat m) (hl : ∀ m, m ≤ 240 → SI m 100 15 = Int32.ofNat lc) (hR : ∀ m, m ≤ 240 → SI m 218 = R) (h20 : lc ≤ 20) (hr : ∀ i, i < lc → R (3 * i) = Int32.ofNat (mi i) ∧ mi i ≤ 240 ∧ R (3 * i + 1) = Int32.ofNat (ro i) ∧ ro i < 8) (hs : ∀ i, i + 1 < lc → mi i ≤ mi (i + 1)) : ∀ j i, i + j = lc → ∀ m, m ≤ 240 → (i < lc → m ≤ mi i) → ∃ b m', m' ≤ 240 ∧ f_X11_explains (d + 5) 28 [.ref 100, mU, mU, .int off, .int (Int32.ofNat i), mU] [] (G, SI m, SL m) = some (.inl (some (.int b)), (G, SI m', SL m')) ∧ ((b = 1 ∧ ∀ i', i ≤ i' → i' < lc → jabs (SI (mi i') 179 (ro i') - R (3 * i' + 2)) ≤ off) ∨ (b = 0 ∧ ∃ i', i' < lc ∧ ¬ jabs (SI (mi i') 179 (ro i') - R (3 * i' + 2)) ≤ off)) := by
  intro j
  induction j with
  | zero =>
    intro i hi m hm _
    have e : i = lc := by omega
    refine ⟨1, m, hm, ?_, Or.inl ⟨rfl, fun i' h1 h2 => by omega⟩⟩
    rw [e_X11_explains_28]
    simp only [↓vB lB, hl m hm, e, if_pos i_rf, e_X11_explains_114, mb1]
  | succ j ih =>
    intro i hi m hm hmi
    obtain ⟨r1, r2, r3, r4⟩ := hr i (by omega)
    have mm := hmi (by omega)
    obtain ⟨v, ps⟩ := sq_pass lP q m (mi i - m) (by omega) (by decide)
    rw [show m + (mi i - m) = mi i by omega] at ps
    have m3 : Int32.ofNat i * 3 = Int32.ofNat (3 * i) := by rw [show Int32.ofNat i * 3 = Int32.ofNat (i * 3) from i_mul i 3, Nat.mul_comm]
    have es : Int32.ofNat (mi i) - Int32.ofNat m = Int32.ofNat (mi i - m) := i_sub mm (by omega)
    have go : ∀ X, (if jabs (SI (mi i) 179 (ro i) - R (3 * i + 2)) ≤ off then f_X11_explains (d + 5) 108 [.ref 100, mU, mU, .int off, .int (Int32.ofNat i), mU] [] (G, SI (mi i), SL (mi i)) else mbool 0 (some (.inl (some (.int 0)), (G, SI (mi i), SL (mi i))))) = X → f_X11_explains (d + 5) 28 [.ref 100, mU, mU, .int off, .int (Int32.ofNat i), mU] [] (G, SI m, SL m) = X := by
      intro X hX
      rw [e_X11_explains_28]
      simp (disch := omega) only [↓vB lB, ↓vP lP, ↓vT lT, hl m hm, if_neg (i_ng (show i < lc by omega) (by omega)), m3, hR m hm, r1, h0 m hm, es, ↓mcI_of ps, hR (mi i) r2, ixR, r3]
      exact hX
    by_cases c : jabs (SI (mi i) 179 (ro i) - R (3 * i + 2)) ≤ off
    · obtain ⟨b, m', b1, b2, b3⟩ := ih (i + 1) (by omega) (mi i) r2 (fun hh => hs i hh)
      refine ⟨b, m', b1, go _ ?_, ?_⟩
      · rw [if_pos c, e_X11_explains_108, i_one]
        exact b2
      · rcases b3 with ⟨e1, e2⟩ | e
        · refine Or.inl ⟨e1, fun i' h1 h2 => ?_⟩
          by_cases e : i' = i
          · rw [e]; exact c
          · exact e2 i' (by omega) h2
        · exact Or.inr e
    · refine ⟨0, mi i, r2, go _ ?_, Or.inr ⟨rfl, i, by omega, c⟩⟩
      rw [if_neg c, mb0]
end
section
variable {G2 : mG} {SJ : Nat → Nat → Nat → Int32} {SK : Nat → Nat → Nat → Int64} {lc : Nat} {A B C : Nat → Int32} {ma rb : Nat → Nat} {off : Int32}
theorem ex_m (e : Nat) {J : Nat → Nat → Int32} {K : Nat → Nat → Int64} (lM : LayM G2 219) (hl : J 219 28 = Int32.ofNat lc) (hA : J 231 = A) (h20 : lc ≤ 20) (hr : ∀ j, j < lc → A j = Int32.ofNat (ma j) ∧ ma j ≤ 240) : ∀ k j, j + k = lc → ∀ cur, cur ≤ 240 → (∀ i, i < j → ma i ≤ cur) → ∃ last, last ≤ 240 ∧ (∀ i, i < lc → ma i ≤ last) ∧ f_X12_isExplained e 24 [.ref 219, mU, mU, .int off, .int (Int32.ofNat cur), .int (Int32.ofNat j), mU, mU, mU] [] (G2, J, K) = f_X12_isExplained e 65 [.ref 219, mU, mU, .int off, .int (Int32.ofNat last), mU, mU, mU, mU] [] (G2, J, K) := by
  intro k
  induction k with
  | zero =>
    intro j hj cur hc hi
    have e' : j = lc := by omega
    refine ⟨cur, hc, fun i h => hi i (by omega), ?_⟩
    rw [e_X12_isExplained_24]
    simp only [↓vM lM, hl, e', if_pos i_rf]
  | succ k ih =>
    intro j hj cur hc hi
    obtain ⟨r1, r2⟩ := hr j (by omega)
    by_cases c : ma j ≤ cur
    · obtain ⟨last, l1, l2, l3⟩ := ih (j + 1) (by omega) cur hc (fun i h => by
        by_cases q : i = j
        · rw [q]; exact c
        · exact hi i (by omega))
      refine ⟨last, l1, l2, ?_⟩
      rw [e_X12_isExplained_24]
      simp (disch := omega) only [↓vM lM, hl, if_neg (i_ng (show j < lc by omega) (by omega)), hA, r1, if_pos ((i_le (by omega) (by omega)).mpr c), e_X12_isExplained_55, e_X12_isExplained_57, i_one]
      exact l3
    · obtain ⟨last, l1, l2, l3⟩ := ih (j + 1) (by omega) (ma j) r2 (fun i h => by
        by_cases q : i = j
        · rw [q]; exact Nat.le_refl _
        · have := hi i (by omega); omega)
      refine ⟨last, l1, l2, ?_⟩
      have nc : ¬ Int32.ofNat (ma j) ≤ Int32.ofNat cur := fun p => c ((i_le (by omega) (by omega)).mp p)
      rw [e_X12_isExplained_24]
      simp (disch := omega) only [↓vM lM, hl, if_neg (i_ng (show j < lc by omega) (by omega)), hA, r1, if_neg nc, e_X12_isExplained_57, i_one]
      exact l3
/-- the rows of one minute -/
theorem ex_i (e : Nat) {J : Nat → Nat → Int32} {K : Nat → Nat → Int64} (m1 : Nat) (last : Int32) (lM : LayM G2 219) (hm1 : m1 ≤ 240) (hl : J 219 28 = Int32.ofNat lc) (hA : J 231 = A) (hB : J 232 = B) (hC : J 233 = C) (h20 : lc ≤ 20) (hr : ∀ j, j < lc → A j = Int32.ofNat (ma j) ∧ ma j ≤ 240 ∧ B j = Int32.ofNat (rb j) ∧ rb j < 8) : ∀ k j, j + k = lc → ∀ f, ∃ f', f_X12_isExplained e 91 [.ref 219, mU, mU, .int off, .int last, .int f, .int (Int32.ofNat m1), .int (Int32.ofNat j), mU] [] (G2, J, K) = f_X12_isExplained e 158 [.ref 219, mU, mU, .int off, .int last, .int f', .int (Int32.ofNat m1), mU, mU] [] (G2, J, K) ∧ ((f' = f ∧ ∀ i, j ≤ i → i < lc → ma i = m1 → (¬ off < J 223 (rb i) - C i ∧ -(J 223 (rb i) - C i) ≤ off)) ∨ (f' = 0 ∧ ∃ i, i < lc ∧ ma i = m1 ∧ ¬ (¬ off < J 223 (rb i) - C i ∧ -(J 223 (rb i) - C i) ≤ off))) := by
  intro k
  induction k with
  | zero =>
    intro j hj f
    have e' : j = lc := by omega
    refine ⟨f, ?_, Or.inl ⟨rfl, fun i h1 h2 => by omega⟩⟩
    rw [e_X12_isExplained_91]
    simp only [↓vM lM, hl, e', if_pos i_rf]
  | succ k ih =>
    intro j hj f
    obtain ⟨r1, r2, r3, r4⟩ := hr j (by omega)
    have go : ∀ X, (if Int32.ofNat (ma j) = Int32.ofNat m1 then (if off < J 223 (rb j) - C j then f_X12_isExplained e 149 [.ref 219, mU, mU, .int off, .int last, mU, .int (Int32.ofNat m1), .int (Int32.ofNat j), mU] [] (G2, J, K) else (if -(J 223 (rb j) - C j) ≤ off then f_X12_isExplained e 152 [.ref 219, mU, mU, .int off, .int last, .int f, .int (Int32.ofNat m1), .int (Int32.ofNat j), mU] [] (G2, J, K) else f_X12_isExplained e 149 [.ref 219, mU, mU, .int off, .int last, mU, .int (Int32.ofNat m1), .int (Int32.ofNat j), mU] [] (G2, J, K))) else f_X12_isExplained e 152 [.ref 219, mU, mU, .int off, .int last, .int f, .int (Int32.ofNat m1), .int (Int32.ofNat j), mU] [] (G2, J, K)) = X → f_X12_isExplained e 91 [.ref 219, mU, mU, .int off, .int last, .int f, .int (Int32.ofNat m1), .int (Int32.ofNat j), mU] [] (G2, J, K) = X := by
      intro X hX
      rw [e_X12_isExplained_91]
      simp (disch := omega) only [↓vM lM, hl, if_neg (i_ng (show j < lc by omega) (by omega)), hB, r3, ixZ, hC, hA, r1]
      exact hX
    by_cases c : ma j = m1
    · by_cases c2 : ¬ off < J 223 (rb j) - C j ∧ -(J 223 (rb j) - C j) ≤ off
      · obtain ⟨f', b1, b2⟩ := ih (j + 1) (by omega) f
        refine ⟨f', go _ ?_, ?_⟩
        · rw [if_pos (by rw [c]), if_neg c2.1, if_pos c2.2, e_X12_isExplained_152, i_one]
          exact b1
        · rcases b2 with ⟨e1, e2⟩ | e'
          · refine Or.inl ⟨e1, fun i h1 h2 h3 => ?_⟩
            by_cases q : i = j
            · rw [q]; exact c2
            · exact e2 i (by omega) h2 h3
          · exact Or.inr e'
      · obtain ⟨f', b1, b2⟩ := ih (j + 1) (by omega) 0
        refine ⟨f', go _ ?_, Or.inr ⟨?_, j, by omega, c, c2⟩⟩
        · rw [if_pos (by rw [c])]
          by_cases c3 : off < J 223 (rb j) - C j
          · rw [if_pos c3, e_X12_isExplained_149, e_X12_isExplained_152, i_one]
            exact b1
          · rw [if_neg c3, if_neg (fun p => c2 ⟨c3, p⟩), e_X12_isExplained_149, e_X12_isExplained_152, i_one]
            exact b1
        · rcases b2 with ⟨e1, -⟩ | ⟨e1, -⟩
          · exact e1
          · exact e1
    · obtain ⟨f', b1, b2⟩ := ih (j + 1) (by omega) f
      refine ⟨f', go _ ?_, ?_⟩
      · rw [if_neg (fun p => c ((i_eq (by omega) (by omega)).mp p)), e_X12_isExplained_152, i_one]
        exact b1
      · rcases b2 with ⟨e1, e2⟩ | e'
        · refine Or.inl ⟨e1, fun i h1 h2 h3 => ?_⟩
          by_cases q : i = j
          · rw [q] at h3; exact absurd h3 c
          · exact e2 i (by omega) h2 h3
        · exact Or.inr e'
theorem ex_o (e : Nat) (last : Nat) (lM : LayM G2 219) (q : Sqr e G2 219 SJ SK 240) (hla : last ≤ 240) (hl : ∀ m, m ≤ 240 → SJ m 219 28 = Int32.ofNat lc) (hA : ∀ m, m ≤ 240 → SJ m 231 = A) (hB : ∀ m, m ≤ 240 → SJ m 232 = B) (hC : ∀ m, m ≤ 240 → SJ m 233 = C) (h20 : lc ≤ 20) (hr : ∀ j, j < lc → A j = Int32.ofNat (ma j) ∧ ma j ≤ 240 ∧ B j = Int32.ofNat (rb j) ∧ rb j < 8) (hmx : ∀ i, i < lc → ma i ≤ last) : ∀ k m, m + k = last → ∃ b m', m' ≤ 240 ∧ f_X12_isExplained (e + 5) 71 [.ref 219, mU, mU, .int off, .int (Int32.ofNat last), .int 1, .int (Int32.ofNat (m + 1)), mU, mU] [] (G2, SJ m, SK m) = f_X12_isExplained (e + 5) 164 [.ref 219, mU, mU, mU, mU, .int b, mU, mU, mU] [] (G2, SJ m', SK m') ∧ ((b = 1 ∧ ∀ i, i < lc → m < ma i → (¬ off < SJ (ma i) 223 (rb i) - C i ∧ -(SJ (ma i) 223 (rb i) - C i) ≤ off)) ∨ (b = 0 ∧ ∃ i, i < lc ∧ ¬ (¬ off < SJ (ma i) 223 (rb i) - C i ∧ -(SJ (ma i) 223 (rb i) - C i) ≤ off))) := by
  intro k
  induction k with
  | zero =>
    intro m hm
    have e' : m = last := by omega
    refine ⟨1, m, by omega, ?_, Or.inl ⟨rfl, fun i h1 h2 => by have := hmx i h1; omega⟩⟩
    rw [e_X12_isExplained_71, if_pos ((i_lt (by omega) (by omega)).mpr (by omega))]
  | succ k ih =>
    intro m hm
    have c1 : ¬ Int32.ofNat last < Int32.ofNat (m + 1) := fun p => by have := (i_lt (by omega) (by omega)).mp p; omega
    obtain ⟨v, q1⟩ := q m (by omega)
    obtain ⟨f', b1, b2⟩ := ex_i (e + 5) (J := SJ (m + 1)) (K := SK (m + 1)) (off := off) (m + 1) (Int32.ofNat last) lM (by omega) (hl _ (by omega)) (hA _ (by omega)) (hB _ (by omega)) (hC _ (by omega)) h20 hr lc 0 (by omega) 1
    have st : f_X12_isExplained (e + 5) 71 [.ref 219, mU, mU, .int off, .int (Int32.ofNat last), .int 1, .int (Int32.ofNat (m + 1)), mU, mU] [] (G2, SJ m, SK m) = f_X12_isExplained (e + 5) 71 [.ref 219, mU, mU, .int off, .int (Int32.ofNat last), .int f', .int (Int32.ofNat (m + 1 + 1)), mU, mU] [] (G2, SJ (m + 1), SK (m + 1)) := by
      rw [e_X12_isExplained_71, if_neg c1, if_neg (by decide)]
      simp only [↓vM lM, ↓mcI_of q1]
      refine Eq.trans b1 ?_
      rw [e_X12_isExplained_158, i_one]
    rcases b2 with ⟨rfl, b3⟩ | ⟨rfl, i, i1, i2, i3⟩
    · obtain ⟨b, m', d1, d2, d3⟩ := ih (m + 1) (by omega)
      refine ⟨b, m', d1, st.trans d2, ?_⟩
      rcases d3 with ⟨e1, e2⟩ | e'
      · refine Or.inl ⟨e1, fun i h1 h2 => ?_⟩
        by_cases c : ma i = m + 1
        · rw [c]; exact b3 i (Nat.zero_le _) h1 c
        · exact e2 i h1 (by omega)
      · exact Or.inr e'
    · refine ⟨0, m + 1, by omega, st.trans ?_, Or.inr ⟨rfl, i, i1, by rw [i2]; exact i3⟩⟩
      by_cases c : last < m + 1 + 1
      · rw [e_X12_isExplained_71, if_pos ((i_lt (by omega) (by omega)).mpr c)]
      · rw [e_X12_isExplained_71, if_neg (fun p => c ((i_lt (by omega) (by omega)).mp p)), if_pos rfl]
end
