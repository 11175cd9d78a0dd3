/-! the reference's constructor -/
def Cu2 (x b sl : Nat) (G G' : mG) (I I' : Nat → Nat → Int32) (S : Nat → Int32) (R : Nat → Option Nat) (KD ND : Nat → Nat) : Prop := G'.1 = x + b ∧ G'.2.1 = G.2.1 + sl ∧ (∀ a, a < x → gK G' a = gK G a ∧ gN G' a = gN G a ∧ gR G' a = gR G a ∧ I' a = I a) ∧ gK G' x = 13 ∧ gR G' x = R ∧ I' x = S ∧ (∀ a, 0 < a → a < b → gK G' (x + a) = KD a ∧ gN G' (x + a) = ND a ∧ I' (x + a) = fun _ => 0) ∧ 0 < b
section
variable {G G1 : mG} {I I1 : Nat → Nat → Int32} {x b sl n t : Nat} {S : Nat → Int32} {R : Nat → Option Nat} {KD ND : Nat → Nat}
theorem Cu2_0 (m : Nat) (hx : G.1 = x) : Cu2 x 1 m G (gA G 13 0 m) I (va_up I G.1 (fun _ => 0)) (fun _ => 0) (fun _ => none) (fun _ => 0) (fun _ => 0) := by
  refine ⟨by rw [A1, hx], rfl, fun a ha => ⟨by rw [kA, up_ne (by omega)], by rw [nA, up_ne (by omega)], by rw [rA, up_ne (by omega)], by rw [up_ne (by omega)]⟩, by rw [kA, hx, up_eq], by rw [rA, hx, up_eq], by rw [hx, up_eq], fun a h1 h2 => by omega, by decide⟩
theorem Cu2_a (k t n : Nat) (c : Cu2 x b sl G G1 I I1 S R KD ND) : Cu2 x (b + 1) (sl + n) G (gS (gA G1 t n n) x k (some (x + b))) I (va_up I1 G1.1 (fun _ => 0)) S (va_up R k (some (x + b))) (fun a => if a = b then t else KD a) (fun a => if a = b then n else ND a) := by
  obtain ⟨c1, c2, c3, c4, c5, c6, c7, c8⟩ := c
  refine ⟨by rw [S1, A1, c1]; omega, by show G1.2.1 + n = _; omega, fun a ha => ?_, by rw [kS, kA, up_ne (by omega)]; exact c4, by rw [rS, up_eq, rA, up_ne (by omega), c5], by rw [up_ne (by omega)]; exact c6, fun a h1 h2 => ?_, by omega⟩
  · obtain ⟨e1, e2, e3, e4⟩ := c3 a ha
    exact ⟨by rw [kS, kA, up_ne (by omega), e1], by rw [nS, nA, up_ne (by omega), e2], by rw [rS, up_ne (by omega), rA, up_ne (by omega), e3], by rw [up_ne (by omega), e4]⟩
  · dsimp only
    by_cases ab : a = b
    · rw [if_pos ab, if_pos ab, ab, ← c1]
      exact ⟨by rw [kS, kA, up_eq], by rw [nS, nA, up_eq], by rw [up_eq]⟩
    · obtain ⟨e1, e2, e3⟩ := c7 a h1 (by omega)
      rw [if_neg ab, if_neg ab]
      exact ⟨by rw [kS, kA, up_ne (by omega), e1], by rw [nS, nA, up_ne (by omega), e2], by rw [up_ne (by omega), e3]⟩
theorem Cu2_u (k : Nat) (v : Int32) (c : Cu2 x b sl G G1 I I1 S R KD ND) : Cu2 x b sl G G1 I (up2 I1 x k v) (va_up S k v) R KD ND := by
  obtain ⟨c1, c2, c3, c4, c5, c6, c7, c8⟩ := c
  refine ⟨c1, c2, fun a ha => ?_, c4, c5, by rw [up2_e, up_eq, c6], fun a h1 h2 => ?_, c8⟩
  · obtain ⟨e1, e2, e3, e4⟩ := c3 a ha
    exact ⟨e1, e2, e3, by rw [up2_e, up_ne (by omega), e4]⟩
  · obtain ⟨e1, e2, e3⟩ := c7 a h1 h2
    exact ⟨e1, e2, by rw [up2_e, up_ne (by omega), e3]⟩
end
theorem g_M (d : Nat) {G : mG} {I : Nat → Nat → Int32} {L : Nat → Nat → Int64} {y : Nat} (hy : G.1 = y) : ∃ G2 I2 L2, mcal mT (d + 1) 177 [.ref y] (gA G 13 0 57, va_up I G.1 (fun _ => 0), va_up L G.1 (fun _ => 0)) = some (.inl none, (G2, I2, L2)) ∧ LayM G2 y ∧ G2.1 = y + 32 ∧ G2.2.1 = G.2.1 + 17991 ∧ (∀ a, a < y → gK G2 a = gK G a ∧ gN G2 a = gN G a ∧ gR G2 a = gR G a ∧ I2 a = I a) ∧ I2 y = va_up (va_up (va_up (va_up (fun _ => 0) 9 (-1)) 15 (-1)) 16 (-1)) 18 (-1) ∧ (∀ a, 0 < a → a < 32 → a ≠ 4 → a ≠ 21 → I2 (y + a) = fun _ => 0) ∧ I2 (y + 4) = va_up (fun _ => 0) 167 100 ∧ I2 (y + 21) = pre 40 (fun _ => -1) (fun _ => 0) := by
  have c0 := Cu2_0 (I := I) 57 hy
  generalize hG0 : gA G 13 0 57 = H0 at c0
  generalize hI0 : va_up I G.1 (fun _ => 0) = J0 at c0
  generalize hL0 : va_up L G.1 (fun _ => 0) = K0
  have c1 := Cu2_a 1 20 166 c0
  generalize hH1 : gS (gA H0 20 166 166) y 1 (some (y + 1)) = H1 at c1
  generalize hJ1 : va_up J0 H0.1 (fun _ => 0) = J1 at c1
  generalize hK1 : va_up K0 H0.1 (fun _ => 0) = K1
  have c2 := Cu2_a 2 20 166 c1
  generalize hH2 : gS (gA H1 20 166 166) y 2 (some (y + 2)) = H2 at c2
  generalize hJ2 : va_up J1 H1.1 (fun _ => 0) = E2 at c2
  generalize hK2 : va_up K1 H1.1 (fun _ => 0) = K2
  replace c2 := Cu2_u 9 (-1) c2
  generalize hU2 : up2 (E2) y 9 (-1) = J2 at c2
  have c3 := Cu2_a 10 20 500 c2
  generalize hH3 : gS (gA H2 20 500 500) y 10 (some (y + 3)) = H3 at c3
  generalize hJ3 : va_up J2 H2.1 (fun _ => 0) = J3 at c3
  generalize hK3 : va_up K2 H2.1 (fun _ => 0) = K3
  have c4 := Cu2_a 11 20 173 c3
  generalize hH4 : gS (gA H3 20 173 173) y 11 (some (y + 4)) = H4 at c4
  generalize hJ4 : va_up J3 H3.1 (fun _ => 0) = J4 at c4
  generalize hK4 : va_up K3 H3.1 (fun _ => 0) = K4
  have c5 := Cu2_a 12 20 173 c4
  generalize hH5 : gS (gA H4 20 173 173) y 12 (some (y + 5)) = H5 at c5
  generalize hJ5 : va_up J4 H4.1 (fun _ => 0) = J5 at c5
  generalize hK5 : va_up K4 H4.1 (fun _ => 0) = K5
  have c6 := Cu2_a 13 21 16 c5
  generalize hH6 : gS (gA H5 21 16 16) y 13 (some (y + 6)) = H6 at c6
  generalize hJ6 : va_up J5 H5.1 (fun _ => 0) = J6 at c6
  generalize hK6 : va_up K5 H5.1 (fun _ => 0) = K6
  have c7 := Cu2_a 14 21 16 c6
  generalize hH7 : gS (gA H6 21 16 16) y 14 (some (y + 7)) = H7 at c7
  generalize hJ7 : va_up J6 H6.1 (fun _ => 0) = E7 at c7
  generalize hK7 : va_up K6 H6.1 (fun _ => 0) = K7
  replace c7 := Cu2_u 15 (-1) c7
  replace c7 := Cu2_u 16 (-1) c7
  replace c7 := Cu2_u 18 (-1) c7
  generalize hU7 : up2 (up2 (up2 (E7) y 15 (-1)) y 16 (-1)) y 18 (-1) = J7 at c7
  have c8 := Cu2_a 22 20 8 c7
  generalize hH8 : gS (gA H7 20 8 8) y 22 (some (y + 8)) = H8 at c8
  generalize hJ8 : va_up J7 H7.1 (fun _ => 0) = J8 at c8
  generalize hK8 : va_up K7 H7.1 (fun _ => 0) = K8
  have c9 := Cu2_a 25 20 2688 c8
  generalize hH9 : gS (gA H8 20 2688 2688) y 25 (some (y + 9)) = H9 at c9
  generalize hJ9 : va_up J8 H8.1 (fun _ => 0) = J9 at c9
  generalize hK9 : va_up K8 H8.1 (fun _ => 0) = K9
  have c10 := Cu2_a 26 20 56 c9
  generalize hH10 : gS (gA H9 20 56 56) y 26 (some (y + 10)) = H10 at c10
  generalize hJ10 : va_up J9 H9.1 (fun _ => 0) = J10 at c10
  generalize hK10 : va_up K9 H9.1 (fun _ => 0) = K10
  have c11 := Cu2_a 27 20 8 c10
  generalize hH11 : gS (gA H10 20 8 8) y 27 (some (y + 11)) = H11 at c11
  generalize hJ11 : va_up J10 H10.1 (fun _ => 0) = J11 at c11
  generalize hK11 : va_up K10 H10.1 (fun _ => 0) = K11
  have c12 := Cu2_a 29 20 20 c11
  generalize hH12 : gS (gA H11 20 20 20) y 29 (some (y + 12)) = H12 at c12
  generalize hJ12 : va_up J11 H11.1 (fun _ => 0) = J12 at c12
  generalize hK12 : va_up K11 H11.1 (fun _ => 0) = K12
  have c13 := Cu2_a 30 20 20 c12
  generalize hH13 : gS (gA H12 20 20 20) y 30 (some (y + 13)) = H13 at c13
  generalize hJ13 : va_up J12 H12.1 (fun _ => 0) = J13 at c13
  generalize hK13 : va_up K12 H12.1 (fun _ => 0) = K13
  have c14 := Cu2_a 31 20 20 c13
  generalize hH14 : gS (gA H13 20 20 20) y 31 (some (y + 14)) = H14 at c14
  generalize hJ14 : va_up J13 H13.1 (fun _ => 0) = J14 at c14
  generalize hK14 : va_up K13 H13.1 (fun _ => 0) = K14
  have c15 := Cu2_a 35 20 8 c14
  generalize hH15 : gS (gA H14 20 8 8) y 35 (some (y + 15)) = H15 at c15
  generalize hJ15 : va_up J14 H14.1 (fun _ => 0) = J15 at c15
  generalize hK15 : va_up K14 H14.1 (fun _ => 0) = K15
  have c16 := Cu2_a 38 20 200 c15
  generalize hH16 : gS (gA H15 20 200 200) y 38 (some (y + 16)) = H16 at c16
  generalize hJ16 : va_up J15 H15.1 (fun _ => 0) = J16 at c16
  generalize hK16 : va_up K15 H15.1 (fun _ => 0) = K16
  have c17 := Cu2_a 39 20 200 c16
  generalize hH17 : gS (gA H16 20 200 200) y 39 (some (y + 17)) = H17 at c17
  generalize hJ17 : va_up J16 H16.1 (fun _ => 0) = J17 at c17
  generalize hK17 : va_up K16 H16.1 (fun _ => 0) = K17
  have c18 := Cu2_a 40 20 200 c17
  generalize hH18 : gS (gA H17 20 200 200) y 40 (some (y + 18)) = H18 at c18
  generalize hJ18 : va_up J17 H17.1 (fun _ => 0) = J18 at c18
  generalize hK18 : va_up K17 H17.1 (fun _ => 0) = K18
  have c19 := Cu2_a 41 20 200 c18
  generalize hH19 : gS (gA H18 20 200 200) y 41 (some (y + 19)) = H19 at c19
  generalize hJ19 : va_up J18 H18.1 (fun _ => 0) = J19 at c19
  generalize hK19 : va_up K18 H18.1 (fun _ => 0) = K19
  have c20 := Cu2_a 42 20 110 c19
  generalize hH20 : gS (gA H19 20 110 110) y 42 (some (y + 20)) = H20 at c20
  generalize hJ20 : va_up J19 H19.1 (fun _ => 0) = J20 at c20
  generalize hK20 : va_up K19 H19.1 (fun _ => 0) = K20
  have c21 := Cu2_a 43 20 40 c20
  generalize hH21 : gS (gA H20 20 40 40) y 43 (some (y + 21)) = H21 at c21
  generalize hJ21 : va_up J20 H20.1 (fun _ => 0) = J21 at c21
  generalize hK21 : va_up K20 H20.1 (fun _ => 0) = K21
  have c22 := Cu2_a 46 20 110 c21
  generalize hH22 : gS (gA H21 20 110 110) y 46 (some (y + 22)) = H22 at c22
  generalize hJ22 : va_up J21 H21.1 (fun _ => 0) = J22 at c22
  generalize hK22 : va_up K21 H21.1 (fun _ => 0) = K22
  have c23 := Cu2_a 47 20 440 c22
  generalize hH23 : gS (gA H22 20 440 440) y 47 (some (y + 23)) = H23 at c23
  generalize hJ23 : va_up J22 H22.1 (fun _ => 0) = J23 at c23
  generalize hK23 : va_up K22 H22.1 (fun _ => 0) = K23
  have c24 := Cu2_a 48 20 110 c23
  generalize hH24 : gS (gA H23 20 110 110) y 48 (some (y + 24)) = H24 at c24
  generalize hJ24 : va_up J23 H23.1 (fun _ => 0) = J24 at c24
  generalize hK24 : va_up K23 H23.1 (fun _ => 0) = K24
  have c25 := Cu2_a 49 20 440 c24
  generalize hH25 : gS (gA H24 20 440 440) y 49 (some (y + 25)) = H25 at c25
  generalize hJ25 : va_up J24 H24.1 (fun _ => 0) = J25 at c25
  generalize hK25 : va_up K24 H24.1 (fun _ => 0) = K25
  have c26 := Cu2_a 50 20 110 c25
  generalize hH26 : gS (gA H25 20 110 110) y 50 (some (y + 26)) = H26 at c26
  generalize hJ26 : va_up J25 H25.1 (fun _ => 0) = J26 at c26
  generalize hK26 : va_up K25 H25.1 (fun _ => 0) = K26
  have c27 := Cu2_a 52 20 692 c26
  generalize hH27 : gS (gA H26 20 692 692) y 52 (some (y + 27)) = H27 at c27
  generalize hJ27 : va_up J26 H26.1 (fun _ => 0) = J27 at c27
  generalize hK27 : va_up K26 H26.1 (fun _ => 0) = K27
  have c28 := Cu2_a 53 20 10752 c27
  generalize hH28 : gS (gA H27 20 10752 10752) y 53 (some (y + 28)) = H28 at c28
  generalize hJ28 : va_up J27 H27.1 (fun _ => 0) = J28 at c28
  generalize hK28 : va_up K27 H27.1 (fun _ => 0) = K28
  have c29 := Cu2_a 54 20 224 c28
  generalize hH29 : gS (gA H28 20 224 224) y 54 (some (y + 29)) = H29 at c29
  generalize hJ29 : va_up J28 H28.1 (fun _ => 0) = J29 at c29
  generalize hK29 : va_up K28 H28.1 (fun _ => 0) = K29
  have c30 := Cu2_a 55 20 4 c29
  generalize hH30 : gS (gA H29 20 4 4) y 55 (some (y + 30)) = H30 at c30
  generalize hJ30 : va_up J29 H29.1 (fun _ => 0) = J30 at c30
  generalize hK30 : va_up K29 H29.1 (fun _ => 0) = K30
  have c31 := Cu2_a 56 21 64 c30
  generalize hH31 : gS (gA H30 21 64 64) y 56 (some (y + 31)) = H31 at c31
  generalize hJ31 : va_up J30 H30.1 (fun _ => 0) = J31 at c31
  generalize hK31 : va_up K30 H30.1 (fun _ => 0) = K31
  obtain ⟨z1, z2, z3, z4, z5, z6, z7, z8⟩ := id c31
  have lM : LayM H31 y := by
    refine ⟨z4, ?_, (z7 1 (by decide) (by decide)).1, (z7 1 (by decide) (by decide)).2.1, ?_, (z7 2 (by decide) (by decide)).1, (z7 2 (by decide) (by decide)).2.1, ?_, (z7 3 (by decide) (by decide)).1, (z7 3 (by decide) (by decide)).2.1, ?_, (z7 4 (by decide) (by decide)).1, (z7 4 (by decide) (by decide)).2.1, ?_, (z7 5 (by decide) (by decide)).1, (z7 5 (by decide) (by decide)).2.1, ?_, (z7 6 (by decide) (by decide)).1, (z7 6 (by decide) (by decide)).2.1, ?_, (z7 7 (by decide) (by decide)).1, (z7 7 (by decide) (by decide)).2.1, ?_, (z7 8 (by decide) (by decide)).1, (z7 8 (by decide) (by decide)).2.1, ?_, (z7 9 (by decide) (by decide)).1, (z7 9 (by decide) (by decide)).2.1, ?_, (z7 10 (by decide) (by decide)).1, (z7 10 (by decide) (by decide)).2.1, ?_, (z7 11 (by decide) (by decide)).1, (z7 11 (by decide) (by decide)).2.1, ?_, (z7 12 (by decide) (by decide)).1, (z7 12 (by decide) (by decide)).2.1, ?_, (z7 13 (by decide) (by decide)).1, (z7 13 (by decide) (by decide)).2.1, ?_, (z7 14 (by decide) (by decide)).1, (z7 14 (by decide) (by decide)).2.1, ?_, (z7 15 (by decide) (by decide)).1, (z7 15 (by decide) (by decide)).2.1, ?_, (z7 16 (by decide) (by decide)).1, (z7 16 (by decide) (by decide)).2.1, ?_, (z7 17 (by decide) (by decide)).1, (z7 17 (by decide) (by decide)).2.1, ?_, (z7 18 (by decide) (by decide)).1, (z7 18 (by decide) (by decide)).2.1, ?_, (z7 19 (by decide) (by decide)).1, (z7 19 (by decide) (by decide)).2.1, ?_, (z7 20 (by decide) (by decide)).1, (z7 20 (by decide) (by decide)).2.1, ?_, (z7 21 (by decide) (by decide)).1, (z7 21 (by decide) (by decide)).2.1, ?_, (z7 22 (by decide) (by decide)).1, (z7 22 (by decide) (by decide)).2.1, ?_, (z7 23 (by decide) (by decide)).1, (z7 23 (by decide) (by decide)).2.1, ?_, (z7 24 (by decide) (by decide)).1, (z7 24 (by decide) (by decide)).2.1, ?_, (z7 25 (by decide) (by decide)).1, (z7 25 (by decide) (by decide)).2.1, ?_, (z7 26 (by decide) (by decide)).1, (z7 26 (by decide) (by decide)).2.1, ?_, (z7 27 (by decide) (by decide)).1, (z7 27 (by decide) (by decide)).2.1, ?_, (z7 28 (by decide) (by decide)).1, (z7 28 (by decide) (by decide)).2.1, ?_, (z7 29 (by decide) (by decide)).1, (z7 29 (by decide) (by decide)).2.1, ?_, (z7 30 (by decide) (by decide)).1, (z7 30 (by decide) (by decide)).2.1, ?_, (z7 31 (by decide) (by decide)).1, (z7 31 (by decide) (by decide)).2.1⟩
    · rw [z5]; simp (disch := decide) only [up_eq, up_ne]
    · rw [z5]; simp (disch := decide) only [up_eq, up_ne]
    · rw [z5]; simp (disch := decide) only [up_eq, up_ne]
    · rw [z5]; simp (disch := decide) only [up_eq, up_ne]
    · rw [z5]; simp (disch := decide) only [up_eq, up_ne]
    · rw [z5]; simp (disch := decide) only [up_eq, up_ne]
    · rw [z5]; simp (disch := decide) only [up_eq, up_ne]
    · rw [z5]; simp (disch := decide) only [up_eq, up_ne]
    · rw [z5]; simp (disch := decide) only [up_eq, up_ne]
    · rw [z5]; simp (disch := decide) only [up_eq, up_ne]
    · rw [z5]; simp (disch := decide) only [up_eq, up_ne]
    · rw [z5]; simp (disch := decide) only [up_eq, up_ne]
    · rw [z5]; simp (disch := decide) only [up_eq, up_ne]
    · rw [z5]; simp (disch := decide) only [up_eq, up_ne]
    · rw [z5]; simp (disch := decide) only [up_eq, up_ne]
    · rw [z5]; simp (disch := decide) only [up_eq, up_ne]
    · rw [z5]; simp (disch := decide) only [up_eq, up_ne]
    · rw [z5]; simp (disch := decide) only [up_eq, up_ne]
    · rw [z5]; simp (disch := decide) only [up_eq, up_ne]
    · rw [z5]; simp (disch := decide) only [up_eq, up_ne]
    · rw [z5]; simp (disch := decide) only [up_eq, up_ne]
    · rw [z5]; simp (disch := decide) only [up_eq, up_ne]
    · rw [z5]; simp (disch := decide) only [up_eq, up_ne]
    · rw [z5]; simp (disch := decide) only [up_eq, up_ne]
    · rw [z5]; simp (disch := decide) only [up_eq, up_ne]
    · rw [z5]; simp (disch := decide) only [up_eq, up_ne]
    · rw [z5]; simp (disch := decide) only [up_eq, up_ne]
    · rw [z5]; simp (disch := decide) only [up_eq, up_ne]
    · rw [z5]; simp (disch := decide) only [up_eq, up_ne]
    · rw [z5]; simp (disch := decide) only [up_eq, up_ne]
    · rw [z5]; simp (disch := decide) only [up_eq, up_ne]
  have j4 : J31 (y + 4) = fun _ => 0 := (z7 4 (by decide) (by decide)).2.2
  have j21 : J31 (y + 21) = fun _ => 0 := (z7 21 (by decide) (by decide)).2.2
  refine ⟨H31, va_up (va_up J31 (y + 4) (va_up (fun _ => 0) 167 100)) (y + 21) (pre 40 (fun _ => -1) (fun _ => 0)), K31, ?_, lM, z1, z2, fun a ha => ?_, ?_, fun a h1 h2 h3 h4 => ?_, ?_, ?_⟩
  · have A := loopy (fun i (q : Nat → Int32) => f_X12_init d 298 [.ref y, .int i] [] (H31, va_up (va_up J31 (y + 4) (va_up (fun _ => 0) 167 100)) (y + 21) q, K31)) (fun k => pre k (fun _ => -1) (fun _ => 0)) 40 (fun _ => 0) pre_0 (by
      intro k hk
      try dsimp only
      rw [e_X12_init_298, if_neg (show ¬ (40 : Int32) ≤ Int32.ofNat k from i_ng (a := 40) hk (by decide))]
      simp (disch := omega) only [↓vM lM, up2_e, up_eq, up_up, i_one]
      rw [pre_s rfl])
    try dsimp only at A
    rw [up_same (show va_up J31 (y + 4) (va_up (fun _ => 0) 167 100) (y + 21) = fun _ => 0 from by rw [up_ne (by omega)]; exact j21)] at A
    rw [q_X12_init_, e_X12_init_0]
    rw [if_neg (show ¬ (166 < 0 ∨ 100000 < Int32.toNatClampNeg 166) by decide), malo_b (c := 166) (n := 166) c0.1 (by decide) c0.2.2.2.1 (by omega)]
    dsimp only
    rw [hH1, hJ1, hK1]
    rw [if_neg (show ¬ (166 < 0 ∨ 100000 < Int32.toNatClampNeg 166) by decide), malo_b (c := 166) (n := 166) c1.1 (by decide) c1.2.2.2.1 (by omega)]
    dsimp only
    rw [hH2, hJ2, hK2]
    rw [gk_t c2.2.2.2.1, hU2]
    rw [if_neg (show ¬ (500 < 0 ∨ 100000 < Int32.toNatClampNeg 500) by decide), malo_b (c := 500) (n := 500) c2.1 (by decide) c2.2.2.2.1 (by omega)]
    dsimp only
    rw [hH3, hJ3, hK3]
    rw [if_neg (show ¬ (173 < 0 ∨ 100000 < Int32.toNatClampNeg 173) by decide), malo_b (c := 173) (n := 173) c3.1 (by decide) c3.2.2.2.1 (by omega)]
    dsimp only
    rw [hH4, hJ4, hK4]
    rw [if_neg (show ¬ (173 < 0 ∨ 100000 < Int32.toNatClampNeg 173) by decide), malo_b (c := 173) (n := 173) c4.1 (by decide) c4.2.2.2.1 (by omega)]
    dsimp only
    rw [hH5, hJ5, hK5]
    rw [if_neg (show ¬ (16 < 0 ∨ 100000 < Int32.toNatClampNeg 16) by decide), malo_b (c := 16) (n := 16) c5.1 (by decide) c5.2.2.2.1 (by omega)]
    dsimp only
    rw [hH6, hJ6, hK6]
    rw [if_neg (show ¬ (16 < 0 ∨ 100000 < Int32.toNatClampNeg 16) by decide), malo_b (c := 16) (n := 16) c6.1 (by decide) c6.2.2.2.1 (by omega)]
    dsimp only
    rw [hH7, hJ7, hK7]
    rw [gk_t c7.2.2.2.1, gk_t c7.2.2.2.1, gk_t c7.2.2.2.1, hU7]
    rw [if_neg (show ¬ (8 < 0 ∨ 100000 < Int32.toNatClampNeg 8) by decide), malo_b (c := 8) (n := 8) c7.1 (by decide) c7.2.2.2.1 (by omega)]
    dsimp only
    rw [hH8, hJ8, hK8]
    rw [if_neg (show ¬ (2688 < 0 ∨ 100000 < Int32.toNatClampNeg 2688) by decide), malo_b (c := 2688) (n := 2688) c8.1 (by decide) c8.2.2.2.1 (by omega)]
    dsimp only
    rw [hH9, hJ9, hK9]
    rw [if_neg (show ¬ (56 < 0 ∨ 100000 < Int32.toNatClampNeg 56) by decide), malo_b (c := 56) (n := 56) c9.1 (by decide) c9.2.2.2.1 (by omega)]
    dsimp only
    rw [hH10, hJ10, hK10]
    rw [if_neg (show ¬ (8 < 0 ∨ 100000 < Int32.toNatClampNeg 8) by decide), malo_b (c := 8) (n := 8) c10.1 (by decide) c10.2.2.2.1 (by omega)]
    dsimp only
    rw [hH11, hJ11, hK11]
    rw [if_neg (show ¬ (20 < 0 ∨ 100000 < Int32.toNatClampNeg 20) by decide), malo_b (c := 20) (n := 20) c11.1 (by decide) c11.2.2.2.1 (by omega)]
    dsimp only
    rw [hH12, hJ12, hK12]
    rw [if_neg (show ¬ (20 < 0 ∨ 100000 < Int32.toNatClampNeg 20) by decide), malo_b (c := 20) (n := 20) c12.1 (by decide) c12.2.2.2.1 (by omega)]
    dsimp only
    rw [hH13, hJ13, hK13]
    rw [if_neg (show ¬ (20 < 0 ∨ 100000 < Int32.toNatClampNeg 20) by decide), malo_b (c := 20) (n := 20) c13.1 (by decide) c13.2.2.2.1 (by omega)]
    dsimp only
    rw [hH14, hJ14, hK14]
    rw [if_neg (show ¬ (8 < 0 ∨ 100000 < Int32.toNatClampNeg 8) by decide), malo_b (c := 8) (n := 8) c14.1 (by decide) c14.2.2.2.1 (by omega)]
    dsimp only
    rw [hH15, hJ15, hK15]
    rw [if_neg (show ¬ (200 < 0 ∨ 100000 < Int32.toNatClampNeg 200) by decide), malo_b (c := 200) (n := 200) c15.1 (by decide) c15.2.2.2.1 (by omega)]
    dsimp only
    rw [hH16, hJ16, hK16]
    rw [if_neg (show ¬ (200 < 0 ∨ 100000 < Int32.toNatClampNeg 200) by decide), malo_b (c := 200) (n := 200) c16.1 (by decide) c16.2.2.2.1 (by omega)]
    dsimp only
    rw [hH17, hJ17, hK17]
    rw [if_neg (show ¬ (200 < 0 ∨ 100000 < Int32.toNatClampNeg 200) by decide), malo_b (c := 200) (n := 200) c17.1 (by decide) c17.2.2.2.1 (by omega)]
    dsimp only
    rw [hH18, hJ18, hK18]
    rw [if_neg (show ¬ (200 < 0 ∨ 100000 < Int32.toNatClampNeg 200) by decide), malo_b (c := 200) (n := 200) c18.1 (by decide) c18.2.2.2.1 (by omega)]
    dsimp only
    rw [hH19, hJ19, hK19]
    rw [if_neg (show ¬ (110 < 0 ∨ 100000 < Int32.toNatClampNeg 110) by decide), malo_b (c := 110) (n := 110) c19.1 (by decide) c19.2.2.2.1 (by omega)]
    dsimp only
    rw [hH20, hJ20, hK20]
    rw [if_neg (show ¬ (40 < 0 ∨ 100000 < Int32.toNatClampNeg 40) by decide), malo_b (c := 40) (n := 40) c20.1 (by decide) c20.2.2.2.1 (by omega)]
    dsimp only
    rw [hH21, hJ21, hK21]
    rw [if_neg (show ¬ (110 < 0 ∨ 100000 < Int32.toNatClampNeg 110) by decide), malo_b (c := 110) (n := 110) c21.1 (by decide) c21.2.2.2.1 (by omega)]
    dsimp only
    rw [hH22, hJ22, hK22]
    rw [if_neg (show ¬ (440 < 0 ∨ 100000 < Int32.toNatClampNeg 440) by decide), malo_b (c := 440) (n := 440) c22.1 (by decide) c22.2.2.2.1 (by omega)]
    dsimp only
    rw [hH23, hJ23, hK23]
    rw [if_neg (show ¬ (110 < 0 ∨ 100000 < Int32.toNatClampNeg 110) by decide), malo_b (c := 110) (n := 110) c23.1 (by decide) c23.2.2.2.1 (by omega)]
    dsimp only
    rw [hH24, hJ24, hK24]
    rw [if_neg (show ¬ (440 < 0 ∨ 100000 < Int32.toNatClampNeg 440) by decide), malo_b (c := 440) (n := 440) c24.1 (by decide) c24.2.2.2.1 (by omega)]
    dsimp only
    rw [hH25, hJ25, hK25]
    rw [if_neg (show ¬ (110 < 0 ∨ 100000 < Int32.toNatClampNeg 110) by decide), malo_b (c := 110) (n := 110) c25.1 (by decide) c25.2.2.2.1 (by omega)]
    dsimp only
    rw [hH26, hJ26, hK26]
    rw [if_neg (show ¬ (692 < 0 ∨ 100000 < Int32.toNatClampNeg 692) by decide), malo_b (c := 692) (n := 692) c26.1 (by decide) c26.2.2.2.1 (by omega)]
    dsimp only
    rw [hH27, hJ27, hK27]
    rw [if_neg (show ¬ (10752 < 0 ∨ 100000 < Int32.toNatClampNeg 10752) by decide), malo_b (c := 10752) (n := 10752) c27.1 (by decide) c27.2.2.2.1 (by omega)]
    dsimp only
    rw [hH28, hJ28, hK28]
    rw [if_neg (show ¬ (224 < 0 ∨ 100000 < Int32.toNatClampNeg 224) by decide), malo_b (c := 224) (n := 224) c28.1 (by decide) c28.2.2.2.1 (by omega)]
    dsimp only
    rw [hH29, hJ29, hK29]
    rw [if_neg (show ¬ (4 < 0 ∨ 100000 < Int32.toNatClampNeg 4) by decide), malo_b (c := 4) (n := 4) c29.1 (by decide) c29.2.2.2.1 (by omega)]
    dsimp only
    rw [hH30, hJ30, hK30]
    rw [if_neg (show ¬ (64 < 0 ∨ 100000 < Int32.toNatClampNeg 64) by decide), malo_b (c := 64) (n := 64) c30.1 (by decide) c30.2.2.2.1 (by omega)]
    dsimp only
    rw [hH31, hJ31, hK31]
    rw [gk_t z4]
    simp only [↓vM lM, up2_e, j4]
    refine Eq.trans A ?_
    rw [e_X12_init_298, if_pos (by decide), e_X12_init_317]
  · obtain ⟨e1, e2, e3, e4⟩ := z3 a ha
    exact ⟨e1, e2, e3, by rw [up_ne (by omega), up_ne (by omega)]; exact e4⟩
  · rw [up_ne (by omega), up_ne (by omega)]; exact z6
  · rw [up_ne (by omega), up_ne (by omega)]; exact (z7 a h1 h2).2.2
  · rw [up_ne (by omega), up_eq]
  · rw [up_eq]
