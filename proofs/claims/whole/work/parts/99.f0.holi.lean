/-! call: holiday -/
section
variable {z h hs bl bs cl cs nr n nh M hN w lc mc kc ta : Nat} {rm pi mk : Nat → Nat} {G : mG} {I : Nat → Nat → Int32} {L : Nat → Nat → Int64}
theorem ca_holiday (d : Nat) (q : Rel z h hs bl bs cl cs nr n nh M hN w lc mc kc ta rm pi mk G I L) (g1 : G.1 ≤ 252 + z + 25 * kc) (g2 : G.2.1 ≤ 60000 + 6 * z + 4000 * kc) (hz : z + 1 ≤ 512) (x y u : Int32) : Ste (d + 6) 324 273 [.int x, .int y, .int u] (z + 1) G I L := by
  obtain ⟨lB, lX, lP, -, ⟨lH1, lH2⟩, ⟨lS, -⟩, ⟨lT, -⟩, ⟨lU, -⟩, lD, -, -, lM, ⟨o1, o2⟩, -, hh, -⟩ := id q.1
  have ho := q.2.1
  obtain ⟨s1, s2, s3, s4, s5, s6⟩ := ho_sz ho
  have lH : LayH G h := by
    rcases hh with ⟨a, -⟩ | ⟨a, -⟩
    · rw [a]; exact lH1
    · rw [a]; exact lH2
  have hb : 103 ≤ h ∧ h + 14 ≤ 132 := by omega
  obtain ⟨-, -, ⟨hF, hHN⟩, hS, ⟨hT, hMz⟩, hU, hD, hTp, hEg, hLg, -, -, -, -⟩ := id q
  have z1 : ¬ (1 : Int32) = 0 := by decide
  have I00 : (va_up I 219 (va_up (I 219) 0 0)) 219 0 = 0 := by rw [up_eq, up_eq]
  have I01 : (va_up I 219 (va_up (I 219) 0 0)) 220 = I 220 := up_ne (by decide)
  have bad : mcal mT (d + 5) 123 [.ref 100, .int x, .int y, .int u] (G, I, L) = some (.inr "java/lang/IllegalArgumentException", (G, I, L)) → ((x < 0 ∨ 99999 < x) ∨ (y < 0 ∨ 99999 < y) ∨ y ≤ x ∨ (u < 0 ∨ 200 < u)) → Ste (d + 6) 324 273 [.int x, .int y, .int u] (z + 1) G I L := by
    intro hc hx
    refine Ste_e (k := 1) q g1 g2 hz (by decide) (w_holiday_A (d + 5) hc lB.1) fun lM => ?_
    have my := r_may0 (d + 4) 1 lM (I := va_up I 219 (va_up (I 219) 0 0)) (L := L) I00 (by decide)
    by_cases d1 : x < 0 ∨ 99999 < x
    · simp only [q_X12_holiday_, e_X12_holiday_0, ↓vM lM, up2_e, r_within, mcI_v, wi_0 d1, if_true, e_X12_holiday_46, e_X12_holiday_47, ↓mcI_of my, up_eq, up_up]
    by_cases d2 : y < 0 ∨ 99999 < y
    · simp only [q_X12_holiday_, e_X12_holiday_0, ↓vM lM, up2_e, r_within, mcI_v, wi_1 d1, wi_0 d2, if_neg z1, if_true, e_X12_holiday_46, e_X12_holiday_47, ↓mcI_of my, up_eq, up_up]
    by_cases d3 : y ≤ x
    · simp only [q_X12_holiday_, e_X12_holiday_0, ↓vM lM, up2_e, r_within, mcI_v, wi_1 d1, wi_1 d2, if_neg z1, if_pos d3, if_true, e_X12_holiday_46, e_X12_holiday_47, ↓mcI_of my, up_eq, up_up]
    by_cases d4 : u < 0 ∨ 200 < u
    · simp only [q_X12_holiday_, e_X12_holiday_0, ↓vM lM, up2_e, r_within, mcI_v, wi_1 d1, wi_1 d2, wi_0 d4, if_neg z1, if_neg d3, if_true, e_X12_holiday_46, e_X12_holiday_47, ↓mcI_of my, up_eq, up_up]
    · rcases hx with p | p | p | p
      · exact absurd p d1
      · exact absurd p d2
      · exact absurd p d3
      · exact absurd p d4
  by_cases c0 : x < 0 ∨ 99999 < x
  · refine bad ?_ (Or.inl c0)
    simp only [q_X11_holiday_, e_X11_holiday_0, nw_no (d + 3) c0 (G, I, L), mcV_e, mthr_e]
  obtain ⟨a, ha, rfl⟩ := i_rng (n := 99999) c0 (by decide)
  by_cases c1 : y < Int32.ofNat (a + 1) ∨ 99999 < y
  · refine bad ?_ ?_
    · simp only [q_X11_holiday_, e_X11_holiday_0, nw_ok (d + 3) c0 (G, I, L), mcV_v, i_one, nw_no (d + 3) c1 (G, I, L), mcV_e, mthr_e]
    · rcases c1 with p | p
      · right; right; left
        rw [Int32.lt_iff_toInt_lt, i_of (by omega)] at p
        rw [Int32.le_iff_toInt_le, i_of (by omega)]
        omega
      · exact Or.inr (Or.inl (Or.inr p))
  have c1' : ¬ (y < 0 ∨ 99999 < y) := by
    intro p
    rcases p with p | p
    · apply c1; left
      rw [Int32.lt_iff_toInt_lt, i_of (by omega)]
      rw [Int32.lt_iff_toInt_lt] at p
      have e0 : (0 : Int32).toInt = 0 := by decide
      omega
    · exact c1 (Or.inr p)
  have c1'' : ¬ y ≤ Int32.ofNat a := by
    intro p
    apply c1; left
    rw [Int32.lt_iff_toInt_lt, i_of (by omega)]
    rw [Int32.le_iff_toInt_le, i_of (by omega)] at p
    omega
  by_cases c2 : u < 0 ∨ 200 < u
  · refine bad ?_ (Or.inr (Or.inr (Or.inr c2)))
    simp only [q_X11_holiday_, e_X11_holiday_0, nw_ok (d + 3) c0 (G, I, L), mcV_v, i_one, nw_ok (d + 3) c1 (G, I, L), nw_no (d + 3) c2 (G, I, L), mcV_e, mthr_e]
  obtain ⟨b1, b2, b3, b4, b5, ⟨b6, b6', nh4⟩, b7⟩ := id hS
  by_cases c4 : nh = 4
  · have e4 : ¬ I 132 6 < 4 := by rw [b6, c4]; decide
    have e5 : I 223 154 = 4 := by rw [b6', c4]; rfl
    refine Ste_q (v := -1) q g1 g2 hz (w_holiday (d + 5) (v := -1) ?_ lB.1 o1 o2) (fun L' => ?_)
    · simp only [q_X11_holiday_, e_X11_holiday_0, nw_ok (d + 3) c0 (G, I, L), mcV_v, i_one, nw_ok (d + 3) c1 (G, I, L), nw_ok (d + 3) c2 (G, I, L), ↓vB lB, ↓vP lP, ↓vS lS, if_neg e4]
    · have my := r_may1 (d + 4) 1 lM (I := va_up I 219 (va_up (I 219) 0 0)) (L := L') I00
      simp (disch := omega) only [List.nil_append, List.cons_append, q_X12_holiday_, e_X12_holiday_0, ↓vM lM, up2_e, r_within, mcI_v, wi_1 c0, wi_1 c1', wi_1 c2, if_neg z1, if_neg c1'', e_X12_holiday_47, ↓mcI_of my, e_X12_holiday_56, up_ne, if_pos e5]
  have n4 : nh < 4 := by omega
  have e4 : I 132 6 < 4 := by rw [b6]; exact (i_lt (b := 4) (by omega) (by decide)).mpr n4
  have e5 : ¬ I 223 154 = 4 := by rw [b6']; exact fun p => absurd ((i_eq (b := 4) (by omega) (by decide)).mp p) (by omega)
  have e4' : Int32.ofNat nh < 4 := by rw [← b6]; exact e4
  have e5' : ¬ Int32.ofNat nh = 4 := by rw [← b6']; exact e5
  have hc : mcal mT (d + 5) 123 [.ref 100, .int (Int32.ofNat a), .int y, .int u] (G, I, L) = some (.inl (some (.int (Int32.ofNat (nh + 1)))), (G, va_up (va_up (va_up (va_up I 136 (va_up (I 136) nh (Int32.ofNat a))) 137 (va_up (I 137) nh y)) 138 (va_up (I 138) nh u)) 132 (va_up (I 132) 6 (Int32.ofNat (nh + 1))), L)) := by
    simp (disch := omega) only [q_X11_holiday_, e_X11_holiday_0, nw_ok (d + 3) c0 (G, I, L), mcV_v, i_one, nw_ok (d + 3) c1 (G, I, L), nw_ok (d + 3) c2 (G, I, L), ↓vB lB, ↓vP lP, ↓vS lS, if_pos e4', e_X11_holiday_46, b6, up2_e, up_ne, up_eq]
  generalize hI1 : va_up (va_up (va_up (va_up I 136 (va_up (I 136) nh (Int32.ofNat a))) 137 (va_up (I 137) nh y)) 138 (va_up (I 138) nh u)) 132 (va_up (I 132) 6 (Int32.ofNat (nh + 1))) = I1 at hc
  have i1 : ∀ a, a ≠ 136 → a ≠ 137 → a ≠ 138 → a ≠ 132 → I1 a = I a := fun a h1 h2 h3 h4 => by rw [← hI1, up_ne h4, up_ne h3, up_ne h2, up_ne h1]
  have J00 : va_up I1 219 (va_up (I1 219) 0 0) 219 0 = 0 := by rw [up_eq, up_eq]
  have J3 : va_up I1 219 (va_up (I1 219) 0 0) 223 = I 223 := by rw [up_ne (by decide), i1 223 (by decide) (by decide) (by decide) (by decide)]
  refine Ste_n g1 g2 (w_holiday (d + 5) hc lB.1 o1 o2) (I2 := va_up (va_up I1 219 (va_up (I1 219) 0 0)) 223 (va_up (va_up (va_up (va_up (I 223) (155 + 3 * nh) (Int32.ofNat a)) (155 + 3 * nh + 1) y) (155 + 3 * nh + 2) u) 154 (Int32.ofNat (nh + 1)))) (fun L' => ?_) ?_ ?_ ?_ ?_
  · have my := r_may1 (d + 4) 1 lM (I := va_up I1 219 (va_up (I1 219) 0 0)) (L := L') J00
    have x3 : ∀ k, (155 : Int32) + Int32.ofNat k = Int32.ofNat (155 + k) := fun k => i_add 155 k
    simp (disch := omega) only [List.cons_append, q_X12_holiday_, e_X12_holiday_0, ↓vM lM, up2_e, r_within, mcI_v, wi_1 c0, wi_1 c1', wi_1 c2, if_neg z1, if_neg c1'', e_X12_holiday_47, ↓mcI_of my, e_X12_holiday_56, J3, if_neg e5', e_X12_holiday_70, b6', ixM, x3, ixR, up_eq, up_ne, up_up]
  · exact i1 0 (by decide) (by decide) (by decide) (by decide)
  · rw [up_ne (by decide), up_ne (by decide)]; exact i1 0 (by decide) (by decide) (by decide) (by decide)
  · rw [up_ne (by decide), up_eq, up_eq]
  · refine ⟨h, hs, bl, bs, cl, cs, nr, n, nh + 1, M, hN, w, lc, mc, ta, rm, pi, mk, Rel_set q hz (fun a h1 h2 h3 => by rw [up_ne (by omega), up_ne h2, i1 a (by omega) (by omega) (by omega) (by omega)]) (fun k hk => by rw [up_ne (by omega), up_eq, up_ne hk, i1 219 (by decide) (by decide) (by decide) (by decide)]) (fun j hj hj2 => ?_) (fun a ha => up_ne ha) ?_⟩
    · rw [up_eq, up_ne (by omega), up_ne (by omega), up_ne (by omega), up_ne (by omega)]
    · rw [← hI1]
      unfold SeR
      simp (disch := omega) only [up_ne, up_eq]
      refine ⟨fun k hk => ?_, b2, fun k hk => ?_, fun k hk => ?_, b5, ⟨trivial, trivial, by omega⟩, fun k hk => ?_⟩
      · simp (disch := omega) only [up_ne]; exact b1 k hk
      · simp (disch := omega) only [up_ne]; exact b3 k hk
      · simp (disch := omega) only [up_ne]; exact b4 k hk
      · by_cases c : k = nh
        · rw [c]
          simp (disch := omega) only [up_ne, up_eq]
          exact ⟨trivial, trivial, trivial⟩
        · simp (disch := omega) only [up_ne]; exact b7 k (by omega)
end
