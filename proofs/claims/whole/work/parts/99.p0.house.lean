/-! a house, read: what class and reference have of it -/
def HrI (nr n c : Nat) (H : Nat → Nat → Int32) (S : Nat → Int32) : Prop :=
  (H 0 0 = Int32.ofNat c ∧ S 165 = Int32.ofNat c ∧ c ≤ 40 ∧ H 0 1 = Int32.ofNat nr ∧ S 163 = Int32.ofNat nr ∧ nr ≤ 8 ∧ H 0 10 = Int32.ofNat n ∧ S 164 = Int32.ofNat n ∧ n ≤ 8) ∧
  (H 0 16 = S 160 ∧ irng (S 160) 1 999 ∧ H 0 17 = S 161 ∧ irng (S 161) 1 99999 ∧ H 0 18 = S 162 ∧ irng (S 162) 200 900) ∧
  (∀ r, r < nr → H 1 r = S r ∧ irng (S r) 1 99 ∧ H 2 r = S (8 + r) ∧ irng (S (8 + r)) 0 4000) ∧
  (∀ r, r < 8 → H 4 r = S (16 + r) ∧ H 5 r = S (24 + r)) ∧
  (∀ r, r < 8 → (H 6 r = 0 ∧ S (32 + r) = 0) ∨ (H 6 r = S (32 + r) ∧ H 7 r = S (40 + r) ∧ H 8 r = S (48 + r))) ∧
  (∀ a b, a < 8 → b < 8 → H 3 (a * 8 + b) = S (56 + 8 * a + b) ∧ S (56 + 8 * a + b) = S (56 + 8 * b + a) ∧ irng (S (56 + 8 * a + b)) 0 99) ∧
  (∀ k, k < n → (∃ p, p < nr ∧ H 9 k = Int32.ofNat p ∧ S (120 + k) = Int32.ofNat p) ∧ (∃ p, p < 4 ∧ H 10 k = Int32.ofNat p ∧ S (128 + k) = Int32.ofNat p) ∧ (H 11 k = S (136 + k) ∧ irng (S (136 + k)) 1 99) ∧ (H 12 k = S (144 + k) ∧ irng (S (144 + k)) 0 3) ∧ H 13 k = S (152 + k)) ∧
  (∀ k, n ≤ k → k < 8 → H 12 k = 0 ∧ H 13 k = 0)
theorem ir_n {v : Nat} {a b : Int} (h1 : a ≤ v) (h2 : (v : Int) ≤ b) (hv : v < 2147483648) : irng (Int32.ofNat v) a b := by
  unfold irng
  rw [i_of hv]
  omega
section
variable {nr n c : Nat} {H : Nat → Nat → Int32} {S : Nat → Int32}
theorem Hr_clause (q : HrI nr n c H S) (hc : c < 40) : HrI nr n (c + 1) (va_up H 0 (va_up (H 0) 0 (Int32.ofNat (c + 1)))) (va_up S 165 (Int32.ofNat (c + 1))) := by
  obtain ⟨⟨a1, a2, a3, a4, a5, a6, a7, a8, a9⟩, b, c1, d, e, f, g, z⟩ := q
  refine ⟨?_, ?_, ?_, ?_, ?_, ?_, ?_, ?_⟩
  · simp (disch := decide) only [up_eq, up_ne]
    exact ⟨trivial, trivial, by omega, a4, a5, a6, a7, a8, a9⟩
  · simp (disch := decide) only [up_eq, up_ne]
    exact b
  · intro r hr
    simp (disch := omega) only [up_eq, up_ne]
    exact c1 r hr
  · intro r hr
    simp (disch := omega) only [up_eq, up_ne]
    exact d r hr
  · intro r hr
    simp (disch := omega) only [up_eq, up_ne]
    exact e r hr
  · intro x y hx hy
    simp (disch := omega) only [up_eq, up_ne]
    exact f x y hx hy
  · intro k hk
    simp (disch := omega) only [up_eq, up_ne]
    exact g k hk
  · intro k h1 h2
    simp (disch := omega) only [up_eq, up_ne]
    exact z k h1 h2
theorem Hr_room {v1 v2 : Nat} (q : HrI nr n c H S) (hn : nr < 8) (h1 : 1 ≤ v1) (h2 : v1 < 100) (h3 : v2 < 401) : HrI (nr + 1) n c (va_up (va_up (va_up H 1 (va_up (H 1) nr (Int32.ofNat v1))) 2 (va_up (H 2) nr (Int32.ofNat (10 * v2)))) 0 (va_up (H 0) 1 (Int32.ofNat (nr + 1)))) (va_up (va_up (va_up S nr (Int32.ofNat v1)) (8 + nr) (Int32.ofNat (10 * v2))) 163 (Int32.ofNat (nr + 1))) := by
  obtain ⟨⟨a1, a2, a3, a4, a5, a6, a7, a8, a9⟩, b, c1, d, e, f, g, z⟩ := q
  refine ⟨?_, ?_, ?_, ?_, ?_, ?_, ?_, ?_⟩
  · simp (disch := omega) only [up_eq, up_ne]
    exact ⟨a1, a2, a3, trivial, trivial, by omega, a7, a8, a9⟩
  · simp (disch := omega) only [up_eq, up_ne]
    exact b
  · intro r hr
    by_cases x : r = nr
    · rw [x]
      simp (disch := omega) only [up_eq, up_ne]
      exact ⟨trivial, ir_n (by omega) (by omega) (by omega), trivial, ir_n (by omega) (by omega) (by omega)⟩
    · simp (disch := omega) only [up_eq, up_ne]
      exact c1 r (by omega)
  · intro r hr
    simp (disch := omega) only [up_eq, up_ne]
    exact d r hr
  · intro r hr
    simp (disch := omega) only [up_eq, up_ne]
    exact e r hr
  · intro x y hx hy
    simp (disch := omega) only [up_eq, up_ne]
    exact f x y hx hy
  · intro k hk
    simp (disch := omega) only [up_eq, up_ne]
    obtain ⟨⟨p, p1, p2⟩, g2⟩ := g k hk
    exact ⟨⟨p, by omega, p2⟩, g2⟩
  · intro k h1 h2
    simp (disch := omega) only [up_eq, up_ne]
    exact z k h1 h2
theorem Hr_wall {p o v : Nat} (q : HrI nr n c H S) (hp : p < 8) (ho : o < 8) (hv : v < 100) : HrI nr n c (va_up H 3 (va_up (va_up (H 3) (p * 8 + o) (Int32.ofNat v)) (o * 8 + p) (Int32.ofNat v))) (va_up (va_up S (56 + 8 * p + o) (Int32.ofNat v)) (56 + 8 * o + p) (Int32.ofNat v)) := by
  obtain ⟨a, b, c1, d, e, f, g, z⟩ := q
  refine ⟨?_, ?_, ?_, ?_, ?_, ?_, ?_, ?_⟩
  · simp (disch := omega) only [up_eq, up_ne]
    exact a
  · simp (disch := omega) only [up_eq, up_ne]
    exact b
  · intro r hr
    have := a.2.2.2.2.2.1
    simp (disch := omega) only [up_eq, up_ne]
    exact c1 r hr
  · intro r hr
    simp (disch := omega) only [up_eq, up_ne]
    exact d r hr
  · intro r hr
    simp (disch := omega) only [up_eq, up_ne]
    exact e r hr
  · have va : ∀ x y, x < 8 → y < 8 → va_up (va_up S (56 + 8 * p + o) (Int32.ofNat v)) (56 + 8 * o + p) (Int32.ofNat v) (56 + 8 * x + y) = (if (x = p ∧ y = o) ∨ (x = o ∧ y = p) then Int32.ofNat v else S (56 + 8 * x + y)) := by
      intro x y hx hy
      by_cases w1 : x = o ∧ y = p
      · rw [if_pos (Or.inr w1), w1.1, w1.2, up_eq]
      · rw [up_ne (by omega)]
        by_cases w2 : x = p ∧ y = o
        · rw [if_pos (Or.inl w2), w2.1, w2.2, up_eq]
        · rw [up_ne (by omega), if_neg (by omega)]
    have vb : ∀ x y, x < 8 → y < 8 → va_up (va_up (H 3) (p * 8 + o) (Int32.ofNat v)) (o * 8 + p) (Int32.ofNat v) (x * 8 + y) = (if (x = p ∧ y = o) ∨ (x = o ∧ y = p) then Int32.ofNat v else H 3 (x * 8 + y)) := by
      intro x y hx hy
      by_cases w1 : x = o ∧ y = p
      · rw [if_pos (Or.inr w1), w1.1, w1.2, up_eq]
      · rw [up_ne (by omega)]
        by_cases w2 : x = p ∧ y = o
        · rw [if_pos (Or.inl w2), w2.1, w2.2, up_eq]
        · rw [up_ne (by omega), if_neg (by omega)]
    intro x y hx hy
    rw [up_eq, va x y hx hy, va y x hy hx, vb x y hx hy]
    by_cases w : (x = p ∧ y = o) ∨ (x = o ∧ y = p)
    · rw [if_pos w, if_pos w, if_pos (by omega)]
      exact ⟨rfl, rfl, ir_n (by omega) (by omega) (by omega)⟩
    · rw [if_neg w, if_neg w, if_neg (by omega)]
      exact f x y hx hy
  · intro k hk
    have := a.2.2.2.2.2.2.2.2
    simp (disch := omega) only [up_eq, up_ne]
    exact g k hk
  · intro k h1 h2
    simp (disch := omega) only [up_eq, up_ne]
    exact z k h1 h2
theorem Hr_of {p v i : Nat} (q : HrI nr n c H S) (hp : p < 8) (hi : i = 0 ∨ i = 1) : HrI nr n c (va_up H (4 + i) (va_up (H (4 + i)) p (Int32.ofNat v))) (va_up S (16 + 8 * i + p) (Int32.ofNat v)) := by
  obtain ⟨a, b, c1, d, e, f, g, z⟩ := q
  have n8 := a.2.2.2.2.2.2.2.2
  have r8 := a.2.2.2.2.2.1
  refine ⟨?_, ?_, ?_, ?_, ?_, ?_, ?_, ?_⟩
  · simp (disch := omega) only [up_eq, up_ne]
    exact a
  · simp (disch := omega) only [up_eq, up_ne]
    exact b
  · intro r hr
    simp (disch := omega) only [up_eq, up_ne]
    exact c1 r hr
  · intro r hr
    obtain ⟨d1, d2⟩ := d r hr
    rcases hi with rfl | rfl
    · by_cases x : r = p
      · rw [x]
        rw [x] at d2
        simp (disch := omega) only [up_eq, up_ne, Nat.add_zero, Nat.mul_zero]
        exact ⟨trivial, d2⟩
      · simp (disch := omega) only [up_eq, up_ne, Nat.add_zero, Nat.mul_zero]
        exact ⟨d1, d2⟩
    · by_cases x : r = p
      · rw [x]
        rw [x] at d1
        refine ⟨?_, ?_⟩
        · rw [up_ne (by decide), up_ne (by omega)]; exact d1
        · rw [show va_up H (4 + 1) (va_up (H (4 + 1)) p (Int32.ofNat v)) 5 p = Int32.ofNat v from by
            show va_up H 5 (va_up (H 5) p (Int32.ofNat v)) 5 p = _
            rw [up_eq, up_eq]]
          exact up_eq.symm
      · refine ⟨?_, ?_⟩
        · rw [up_ne (by decide), up_ne (by omega)]; exact d1
        · rw [show va_up H (4 + 1) (va_up (H (4 + 1)) p (Int32.ofNat v)) 5 r = H 5 r from by
            show va_up H 5 (va_up (H 5) p (Int32.ofNat v)) 5 r = _
            rw [up_eq, up_ne x], up_ne (by omega)]
          exact d2
  · intro r hr
    simp (disch := omega) only [up_eq, up_ne]
    exact e r hr
  · intro x y hx hy
    simp (disch := omega) only [up_eq, up_ne]
    exact f x y hx hy
  · intro k hk
    simp (disch := omega) only [up_eq, up_ne]
    exact g k hk
  · intro k h1 h2
    simp (disch := omega) only [up_eq, up_ne]
    exact z k h1 h2
theorem Hr_sun {p v1 v2 v3 : Nat} (q : HrI nr n c H S) (hp : p < 8) : HrI nr n c (va_up (va_up (va_up H 6 (va_up (H 6) p (Int32.ofNat v1))) 7 (va_up (H 7) p (Int32.ofNat v2))) 8 (va_up (H 8) p (Int32.ofNat v3))) (va_up (va_up (va_up S (32 + p) (Int32.ofNat v1)) (40 + p) (Int32.ofNat v2)) (48 + p) (Int32.ofNat v3)) := by
  obtain ⟨a, b, c1, d, e, f, g, z⟩ := q
  have n8 := a.2.2.2.2.2.2.2.2
  have r8 := a.2.2.2.2.2.1
  refine ⟨?_, ?_, ?_, ?_, ?_, ?_, ?_, ?_⟩
  · simp (disch := omega) only [up_eq, up_ne]
    exact a
  · simp (disch := omega) only [up_eq, up_ne]
    exact b
  · intro r hr
    simp (disch := omega) only [up_eq, up_ne]
    exact c1 r hr
  · intro r hr
    simp (disch := omega) only [up_eq, up_ne]
    exact d r hr
  · intro r hr
    by_cases x : r = p
    · rw [x]
      right
      simp (disch := omega) only [up_eq, up_ne]
      exact ⟨trivial, trivial, trivial⟩
    · simp (disch := omega) only [up_eq, up_ne]
      exact e r hr
  · intro x y hx hy
    simp (disch := omega) only [up_eq, up_ne]
    exact f x y hx hy
  · intro k hk
    simp (disch := omega) only [up_eq, up_ne]
    exact g k hk
  · intro k h1 h2
    simp (disch := omega) only [up_eq, up_ne]
    exact z k h1 h2
theorem Hr_rad {p v1 v2 : Nat} (q : HrI nr n c H S) (hn : n < 8) (hp : p < nr) (h1 : v1 < 4) (h2 : 1 ≤ v2) (h3 : v2 < 100) : HrI nr (n + 1) c (va_up (va_up (va_up (va_up H 9 (va_up (H 9) n (Int32.ofNat p))) 10 (va_up (H 10) n (Int32.ofNat v1))) 11 (va_up (H 11) n (Int32.ofNat v2))) 0 (va_up (H 0) 10 (Int32.ofNat (n + 1)))) (va_up (va_up (va_up (va_up (va_up (va_up S (120 + n) (Int32.ofNat p)) (128 + n) (Int32.ofNat v1)) (136 + n) (Int32.ofNat v2)) (144 + n) 0) (152 + n) 0) 164 (Int32.ofNat (n + 1))) := by
  obtain ⟨⟨a1, a2, a3, a4, a5, a6, a7, a8, a9⟩, b, c1, d, e, f, g, z⟩ := q
  refine ⟨?_, ?_, ?_, ?_, ?_, ?_, ?_, ?_⟩
  · simp (disch := omega) only [up_eq, up_ne]
    exact ⟨a1, a2, a3, a4, a5, a6, trivial, trivial, by omega⟩
  · simp (disch := omega) only [up_eq, up_ne]
    exact b
  · intro r hr
    simp (disch := omega) only [up_eq, up_ne]
    exact c1 r hr
  · intro r hr
    simp (disch := omega) only [up_eq, up_ne]
    exact d r hr
  · intro r hr
    simp (disch := omega) only [up_eq, up_ne]
    exact e r hr
  · intro x y hx hy
    simp (disch := omega) only [up_eq, up_ne]
    exact f x y hx hy
  · intro k hk
    by_cases x : k = n
    · rw [x]
      obtain ⟨z1, z2⟩ := z n (Nat.le_refl _) hn
      simp (disch := omega) only [up_eq, up_ne]
      exact ⟨⟨p, hp, rfl, rfl⟩, ⟨v1, h1, rfl, rfl⟩, ⟨trivial, ir_n (by omega) (by omega) (by omega)⟩, ⟨z1, by unfold irng; decide⟩, z2⟩
    · simp (disch := omega) only [up_eq, up_ne]
      exact g k (by omega)
  · intro k h1 h2
    simp (disch := omega) only [up_eq, up_ne]
    exact z k (by omega) h2
theorem Hr_tap {k0 kd v : Nat} (q : HrI nr n c H S) (hk : k0 < n) (h1 : kd ≤ 3) : HrI nr n c (va_up (va_up H 12 (va_up (H 12) k0 (Int32.ofNat kd))) 13 (va_up (H 13) k0 (Int32.ofNat v))) (va_up (va_up S (144 + k0) (Int32.ofNat kd)) (152 + k0) (Int32.ofNat v)) := by
  obtain ⟨a, b, c1, d, e, f, g, z⟩ := q
  have n8 := a.2.2.2.2.2.2.2.2
  have r8 := a.2.2.2.2.2.1
  refine ⟨?_, ?_, ?_, ?_, ?_, ?_, ?_, ?_⟩
  · simp (disch := omega) only [up_eq, up_ne]
    exact a
  · simp (disch := omega) only [up_eq, up_ne]
    exact b
  · intro r hr
    simp (disch := omega) only [up_eq, up_ne]
    exact c1 r hr
  · intro r hr
    simp (disch := omega) only [up_eq, up_ne]
    exact d r hr
  · intro r hr
    simp (disch := omega) only [up_eq, up_ne]
    exact e r hr
  · intro x y hx hy
    simp (disch := omega) only [up_eq, up_ne]
    exact f x y hx hy
  · intro k hk2
    obtain ⟨g1, g2, g3, g4, g5⟩ := g k hk2
    by_cases x : k = k0
    · rw [x] at g1 g2 g3 ⊢
      simp (disch := omega) only [up_eq, up_ne]
      exact ⟨g1, g2, g3, ⟨trivial, ir_n (by omega) (by omega) (by omega)⟩, trivial⟩
    · simp (disch := omega) only [up_eq, up_ne]
      exact ⟨g1, g2, g3, g4, g5⟩
  · intro k h1 h2
    simp (disch := omega) only [up_eq, up_ne]
    exact z k h1 h2
theorem Hr_pump {v : Nat} (q : HrI nr n c H S) (h1 : 1 ≤ v) (h2 : v < 1000) : HrI nr n c (va_up H 0 (va_up (H 0) 16 (Int32.ofNat v))) (va_up S 160 (Int32.ofNat v)) := by
  obtain ⟨a, ⟨b1, b2, b3, b4, b5, b6⟩, c1, d, e, f, g, z⟩ := q
  have n8 := a.2.2.2.2.2.2.2.2
  have r8 := a.2.2.2.2.2.1
  refine ⟨?_, ?_, ?_, ?_, ?_, ?_, ?_, ?_⟩
  · simp (disch := omega) only [up_eq, up_ne]
    exact a
  · simp (disch := omega) only [up_eq, up_ne]
    exact ⟨trivial, ir_n (by omega) (by omega) (by omega), b3, b4, b5, b6⟩
  · intro r hr
    simp (disch := omega) only [up_eq, up_ne]
    exact c1 r hr
  · intro r hr
    simp (disch := omega) only [up_eq, up_ne]
    exact d r hr
  · intro r hr
    simp (disch := omega) only [up_eq, up_ne]
    exact e r hr
  · intro x y hx hy
    simp (disch := omega) only [up_eq, up_ne]
    exact f x y hx hy
  · intro k hk
    simp (disch := omega) only [up_eq, up_ne]
    exact g k hk
  · intro k h1 h2
    simp (disch := omega) only [up_eq, up_ne]
    exact z k h1 h2
theorem Hr_boil {v w : Nat} (q : HrI nr n c H S) (h1 : 1 ≤ v) (h2 : v < 100000) (h3 : 200 ≤ w) (h4 : w < 901) : HrI nr n c (va_up H 0 (va_up (va_up (H 0) 17 (Int32.ofNat v)) 18 (Int32.ofNat w))) (va_up (va_up S 161 (Int32.ofNat v)) 162 (Int32.ofNat w)) := by
  obtain ⟨a, ⟨b1, b2, b3, b4, b5, b6⟩, c1, d, e, f, g, z⟩ := q
  have n8 := a.2.2.2.2.2.2.2.2
  have r8 := a.2.2.2.2.2.1
  refine ⟨?_, ?_, ?_, ?_, ?_, ?_, ?_, ?_⟩
  · simp (disch := omega) only [up_eq, up_ne]
    exact a
  · simp (disch := omega) only [up_eq, up_ne]
    exact ⟨b1, b2, trivial, ir_n (by omega) (by omega) (by omega), trivial, ir_n (by omega) (by omega) (by omega)⟩
  · intro r hr
    simp (disch := omega) only [up_eq, up_ne]
    exact c1 r hr
  · intro r hr
    simp (disch := omega) only [up_eq, up_ne]
    exact d r hr
  · intro r hr
    simp (disch := omega) only [up_eq, up_ne]
    exact e r hr
  · intro x y hx hy
    simp (disch := omega) only [up_eq, up_ne]
    exact f x y hx hy
  · intro k hk
    simp (disch := omega) only [up_eq, up_ne]
    exact g k hk
  · intro k h1 h2
    simp (disch := omega) only [up_eq, up_ne]
    exact z k h1 h2
end
