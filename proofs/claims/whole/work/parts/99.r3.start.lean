/-! the law begins -/
section
variable {G : mG} {I : Nat → Nat → Int32} {L : Nat → Nat → Int64} {N : Nat}
theorem law_all (d : Nat) (hG : G.1 = 100) (hs : G.2.1 ≤ 30000) (k0 : gK G 0 = 31) (hN : gN G 0 = N) (hb : N / 6 ≤ 512) : ∃ G' I' L' z', f_L_law (d + 30) 0 [.ref 0, mU, mU, mU, mU, mU, mU] [] (G, I, L) = some (.inl (some (.int 1)), (G', I', L')) ∧ RelE z' G' I' L' ∧ z' ≤ 512 := by
  obtain ⟨G2, I2, L2, e2, ⟨k100, r100, lX, lH, lP, lQ, lD, lB1, lB2, lC1, lC2, ⟨q1, q2, q3⟩, ⟨q4, q5, -⟩, ⟨q6, q7, -⟩, ⟨q8, q9, -⟩, ⟨q10, q11, -⟩⟩, g1, g2, g3, g4⟩ := g_Z (d + 27) (I := I) (L := L) hG
  have g21 : G2.1 = 219 := g1
  obtain ⟨G3, I3, L3, e3, lM, m1, m2, m3, m4, m5, m6, m7⟩ := g_M (d + 29) (G := G2) (I := I2) (L := L2) (y := 219) g21
  have g31 : G3.1 = 251 := m1
  generalize hG4 : gA G3 21 1 1 = G4
  generalize hI4 : va_up I3 251 (fun _ => 0) = I4
  generalize hL4 : va_up L3 251 (fun _ => 0) = L4
  have sm : ∀ s w, s + w ≤ 219 → Sam G2 G4 s w := fun s w h => Sam_t (fun a h1 h2 => ⟨(m3 a (by omega)).1, (m3 a (by omega)).2.1, (m3 a (by omega)).2.2.1⟩) (by rw [← hG4]; exact Sam_A (by omega))
  have i2 : ∀ a, a < 219 → I4 a = I2 a := fun a ha => by rw [← hI4, up_ne (by omega), (m3 a ha).2.2.2]
  have i3 : ∀ a, a < 251 → I4 a = I3 a := fun a ha => by rw [← hI4, up_ne (by omega)]
  have kz : ∀ a, a < 219 → gK G4 a = gK G2 a ∧ gN G4 a = gN G2 a ∧ gR G4 a = gR G2 a := fun a ha => sm a 1 (by omega) a (Nat.le_refl _) (by omega)
  have lX' : LayX G4 101 := LayX_m (sm 101 2 (by decide)) lX
  have lH' : LayH G4 103 := LayH_m (sm 103 14 (by decide)) lH
  have lP' : LayPP G4 117 := LayPP_m (sm 117 39 (by decide)) lP
  have lQ' : LayPP G4 156 := LayPP_m (sm 156 39 (by decide)) lQ
  have lD' : LayD G4 195 := LayD_m (sm 195 3 (by decide)) lD
  have lB1' : LayW G4 1 199 := LayW_m (sm 199 4 (by decide)) lB1
  have lB2' : LayW G4 1 203 := LayW_m (sm 203 4 (by decide)) lB2
  have lC1' : LayW G4 2 207 := LayW_m (sm 207 4 (by decide)) lC1
  have lC2' : LayW G4 2 211 := LayW_m (sm 211 4 (by decide)) lC2
  have lM' : LayM G4 219 := by rw [← hG4]; exact LayM_m (Sam_A (by omega)) lM
  have r4 : gR G4 100 = gR G2 100 := (kz 100 (by decide)).2.2
  have lB' : LayB G4 103 199 203 207 211 := by
    refine ⟨(kz 100 (by decide)).1.trans k100, ?_, ?_, ?_, ?_, ?_, ?_, ?_, ?_, ?_, ?_, ?_, ?_, ?_, ?_, ⟨(kz 198 (by decide)).1.trans q1, (kz 198 (by decide)).2.1.trans q2⟩, ⟨(kz 215 (by decide)).1.trans q4, (kz 215 (by decide)).2.1.trans q5⟩, ⟨(kz 216 (by decide)).1.trans q6, (kz 216 (by decide)).2.1.trans q7⟩, ⟨(kz 217 (by decide)).1.trans q8, (kz 217 (by decide)).2.1.trans q9⟩, ⟨(kz 218 (by decide)).1.trans q10, (kz 218 (by decide)).2.1.trans q11⟩⟩ <;> rw [r4, r100] <;> simp (disch := decide) only [up_eq, up_ne]
  have g0 : gK G4 0 = 31 := (kz 0 (by decide)).1.trans ((g3 0 (by decide)).1.trans k0)
  have n0 : gN G4 0 = N := (kz 0 (by decide)).2.1.trans ((g3 0 (by decide)).2.1.trans hN)
  have ly : LyR G4 118 103 199 203 207 211 0 (fun _ => 0) := by
    refine ⟨lB', lX', lP'.1, ⟨157, lQ'.1⟩, ⟨lH', lP'.2.1⟩, ⟨lP'.2.2.1, lQ'.2.2.1⟩, ⟨lP'.2.2.2.1, lQ'.2.2.2.1⟩, ⟨lP'.2.2.2.2, lQ'.2.2.2.2⟩, lD', ⟨lB1', lB2'⟩, ⟨lC1', lC2'⟩, lM', ⟨?_, ?_⟩, g0, Or.inr ⟨rfl, rfl⟩, Or.inl ⟨rfl, rfl⟩, Or.inl ⟨rfl, rfl⟩, ?_, by decide, fun i hi => absurd hi (Nat.not_lt_zero _), fun i _ hi => ?_, fun i j _ hj => absurd hj (Nat.not_lt_zero _)⟩
    · rw [← hG4, kA, g31, up_eq]
    · rw [← hG4, nA, g31, up_eq]
    · rw [← hG4, A1, g31]
      decide
    · rw [(kz 198 (by decide)).2.2]
      exact congrFun q3 i
  have h100 : I4 100 = fun _ => 0 := (i2 100 (by decide)).trans (g4 0 (by decide))
  have h101 : I4 101 = va_up (fun _ => 0) 7 (-1) := (i2 101 (by decide)).trans (g4 1 (by decide))
  have h118 : I4 118 = va_up (va_up (va_up (fun _ => 0) 16 100) 17 9999) 18 600 := (i2 118 (by decide)).trans (g4 18 (by decide))
  have h132 : I4 132 = va_up (fun _ => 0) 10 100 := (i2 132 (by decide)).trans (g4 32 (by decide))
  have h134 : I4 134 = fun _ => 0 := (i2 134 (by decide)).trans (g4 34 (by decide))
  have h135 : I4 135 = fun _ => 0 := (i2 135 (by decide)).trans (g4 35 (by decide))
  have h139 : I4 139 = fun _ => 0 := (i2 139 (by decide)).trans (g4 39 (by decide))
  have h152 : I4 152 = fun _ => 0 := (i2 152 (by decide)).trans (g4 52 (by decide))
  have h153 : I4 153 = fun _ => 0 := (i2 153 (by decide)).trans (g4 53 (by decide))
  have h195 : I4 195 = fun _ => 0 := (i2 195 (by decide)).trans (g4 95 (by decide))
  have h200 : I4 200 = fun _ => 0 := (i2 200 (by decide)).trans (g4 100 (by decide))
  have h208 : I4 208 = fun _ => 0 := (i2 208 (by decide)).trans (g4 108 (by decide))
  have h215 : I4 215 = fun _ => 0 := (i2 215 (by decide)).trans (g4 115 (by decide))
  have h217 : I4 217 = pre 40 (fun _ => -1) (fun _ => 0) := (i2 217 (by decide)).trans (g4 117 (by decide))
  have h219 : I4 219 = va_up (va_up (va_up (va_up (fun _ => 0) 9 (-1)) 15 (-1)) 16 (-1)) 18 (-1) := (i3 219 (by decide)).trans m4
  have h220 : I4 220 = fun _ => 0 := (i3 220 (by decide)).trans (m5 1 (by decide) (by decide) (by decide) (by decide))
  have h230 : I4 230 = fun _ => 0 := (i3 230 (by decide)).trans (m5 11 (by decide) (by decide) (by decide) (by decide))
  have h223 : I4 223 = va_up (fun _ => 0) 167 100 := (i3 223 (by decide)).trans m6
  have h240 : I4 240 = pre 40 (fun _ => -1) (fun _ => 0) := (i3 240 (by decide)).trans m7
  have s0 : ∀ j, j ≠ 167 → I4 223 j = 0 := fun j hj => by rw [h223, up_ne hj]
  have n9 : ∀ k, k ≠ 9 → k ≠ 15 → k ≠ 16 → k ≠ 18 → I4 219 k = 0 := fun k k1 k2 k3 k4 => by rw [h219, up_ne k4, up_ne k3, up_ne k2, up_ne k1]
  have b0 : ∀ k, k < 8 → btv 0 k = 0 := by decide
  have re : RelE 0 G4 I4 L4 := by
    refine ⟨118, 103, 199, 203, 207, 211, 0, 0, 0, 0, 0, 0, 0, 0, 0, 0, fun _ => 0, fun _ => 0, fun _ => 0, ⟨ly, Or.inl ⟨rfl, rfl, ?_, ?_, ?_, ?_, ?_, ?_, ?_, ?_, ?_⟩, ⟨⟨?_, ?_, ?_, ?_, ?_, ?_⟩, ?_⟩, ⟨fun k hk => absurd hk (Nat.not_lt_zero _), ⟨?_, ?_⟩, fun hr h2 => ?_, fun hr h2 => ⟨?_, Or.inl ?_⟩, ⟨?_, ?_, ?_, ?_⟩, ⟨?_, ?_, by decide⟩, fun k hk => absurd hk (Nat.not_lt_zero _)⟩, ⟨⟨⟨?_, ?_⟩, fun k hk => absurd hk (Nat.not_lt_zero _), ⟨?_, fun r hr => ?_⟩, ⟨?_, fun r hr => ?_⟩, ⟨?_, ?_, ?_, ?_⟩, fun k hk => absurd hk (Nat.not_lt_zero _), fun k hk => absurd hk (Nat.not_lt_zero _), fun k hk => absurd hk (Nat.not_lt_zero _), fun p hp => ?_⟩, Nat.zero_le _⟩, ⟨?_, fun k hk => absurd hk (Nat.not_lt_zero _)⟩, ⟨⟨?_, by decide, ?_, by decide⟩, fun b j hb => absurd hb (Nat.not_lt_zero _), fun z => absurd rfl z, fun _ j hj => absurd hj (by omega)⟩, ⟨?_, ?_, by decide, fun k hk => absurd hk (Nat.not_lt_zero _), ?_⟩, ⟨fun k hk => ?_, fun k hk => ?_⟩, ⟨⟨?_, ?_, by decide⟩, fun k hk => absurd hk (Nat.not_lt_zero _), fun k hk => absurd hk (Nat.not_lt_zero _), fun k hk => absurd hk (Nat.not_lt_zero _), fun i hi => absurd hi (by omega)⟩, ⟨0, fun _ => 0, ?_, ?_, by decide, fun k hk => absurd hk (Nat.not_lt_zero _), fun k hk => absurd hk (Nat.not_lt_zero _), Or.inl rfl⟩, ⟨0, fun _ => 0, ?_, ?_, by decide, by decide, fun k hk => absurd hk (Nat.not_lt_zero _), fun k hk => absurd hk (Nat.not_lt_zero _), Or.inl rfl⟩, ⟨⟨?_, ?_, fun k hk => absurd hk (Nat.not_lt_zero _)⟩, by decide⟩, by decide⟩, ?_, ?_⟩
    · rw [h118]; simp (disch := decide) only [up_ne]
    · rw [h118]; simp (disch := decide) only [up_ne]
    · rw [h118]; simp (disch := decide) only [up_ne]
    · rw [h118]; simp (disch := decide) only [up_ne, up_eq]
    · rw [h118]; simp (disch := decide) only [up_ne, up_eq]
    · rw [h118]; simp (disch := decide) only [up_eq]
    · rw [h220]
    · rw [h220]
    · rw [h220]
    · rw [h219]; simp (disch := decide) only [up_ne, up_eq]
    · rw [h219]; simp (disch := decide) only [up_ne, up_eq]
    · rw [h219]; simp (disch := decide) only [up_eq]
    · exact n9 20 (by decide) (by decide) (by decide) (by decide)
    · exact n9 21 (by decide) (by decide) (by decide) (by decide)
    · exact n9 24 (by decide) (by decide) (by decide) (by decide)
    · exact n9 23 (by decide) (by decide) (by decide) (by decide)
    · rw [h132, h223, up_eq, up_eq]
    · rw [h223, up_eq]; unfold irng; decide
    · show I4 134 hr = _
      rw [h134, s0 _ (by omega)]
    · show I4 135 hr = _
      rw [h135, s0 _ (by omega)]
    · exact s0 _ (by omega)
    · rw [h132, s0 _ (by decide), up_ne (by decide)]
    · rw [h132, s0 _ (by decide), up_ne (by decide)]
    · rw [h132, s0 _ (by decide), up_ne (by decide)]
    · rw [s0 _ (by decide)]; unfold irng; decide
    · rw [h132, up_ne (by decide)]; rfl
    · rw [s0 _ (by decide)]; rfl
    · rw [h139]; rfl
    · rw [s0 _ (by decide)]; rfl
    · rw [h139]; unfold irng; decide
    · rw [h139, b0 r hr, s0 _ (by omega)]
    · rw [h139]; unfold irng; decide
    · rw [h139, b0 r (by omega), s0 _ (by omega)]
    · rw [h139, s0 _ (by decide)]
    · rw [h139, s0 _ (by decide)]
    · rw [h139]; exact Or.inl rfl
    · rw [h139, s0 _ (by decide)]
    · show I4 152 p = _
      rw [h152, s0 _ (by omega)]
    · rw [h153]
    · rw [h195]; rfl
    · rw [h195]; rfl
    · rw [h101, up_ne (by decide)]; rfl
    · exact n9 3 (by decide) (by decide) (by decide) (by decide)
    · rw [h101, h219, up_eq]; simp (disch := decide) only [up_ne, up_eq]
    · rw [h215, h230]
      exact ⟨rfl, show irng 0 (-50) 50 from by unfold irng; decide⟩
    · rw [h217, h240, pre_lt hk]
      exact ⟨rfl, by unfold irng; decide⟩
    · rw [h100]; rfl
    · exact n9 28 (by decide) (by decide) (by decide) (by decide)
    · show I4 200 1 = _
      rw [h200]; rfl
    · exact n9 36 (by decide) (by decide) (by decide) (by decide)
    · show I4 208 1 = _
      rw [h208]; rfl
    · exact n9 44 (by decide) (by decide) (by decide) (by decide)
    · rw [h100]; rfl
    · exact n9 51 (by decide) (by decide) (by decide) (by decide)
    · rw [← hG4, A1, g31]
      decide
    · rw [← hG4]
      show G3.2.1 + 1 ≤ _
      omega
  obtain ⟨G5, I5, L5, z5, x1, x2, x3⟩ := lw_loop d (N := N) (by omega) N 0 0 G4 I4 L4 rfl re n0 (by omega)
  refine ⟨G5, I5, L5, z5, ?_, x2, by omega⟩
  have k1 : gK (gA G 12 0 16) 100 = 12 := by rw [kA, hG, up_eq]
  have k2 : gK (gA G2 13 0 57) 219 = 13 := by rw [kA, g21, up_eq]
  rw [hG] at e2
  rw [g21] at e3
  rw [e_L_law_0]
  unfold malo hA
  simp only [hG, ↓gk_t k1, ↓mcV_of e2, g21, ↓gk_t k2, ↓mcV_of e3, if_neg (show ¬ (1 < 0 ∨ 100000 < Int32.toNatClampNeg 1) by decide), g31]
  rw [← hG4, ← hI4, ← hL4] at x1
  exact x1
end
