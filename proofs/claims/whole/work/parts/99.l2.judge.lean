/-! call: judge -/
section
variable {z h hs bl bs cl cs nr n nh M hN w lc mc kc ta : Nat} {rm pi mk : Nat → Nat} {G : mG} {I : Nat → Nat → Int32} {L : Nat → Nat → Int64}
theorem ca_judge (d : Nat) (q : Rel z h hs bl bs cl cs nr n nh M hN w lc mc kc ta rm pi mk G I L) (g1 : G.1 ≤ 252 + z + 25 * kc) (g2 : G.2.1 ≤ 60000 + 6 * z + 4000 * kc) (hz : z + 1 ≤ 512) : Ste2 (d + 6) 159 285 [] (z + 1) G I L := by
  obtain ⟨lB, lX, lP, -, ⟨lH1, lH2⟩, ⟨lS, -⟩, ⟨lT, -⟩, ⟨lU, -⟩, lD, -, -, lM, ⟨o1, o2⟩, -, hh, -⟩ := id q.1
  have ho := q.2.1
  obtain ⟨s1, s2, s3, s4, s5, s6⟩ := ho_sz ho
  have lH : LayH G h := by
    rcases hh with ⟨a, -⟩ | ⟨a, -⟩
    · rw [a]; exact lH1
    · rw [a]; exact lH2
  have hb : 103 ≤ h ∧ h + 14 ≤ 132 := by omega
  obtain ⟨-, -, ⟨hF, hHN⟩, hS, ⟨hT, hMz⟩, hU, hD, hTp, hEg, hLg, -, -, -, -⟩ := id q
  have z1 : ¬ (1 : Int32) = 0 := by decide
  have I00 : (va_up I 219 (va_up (I 219) 0 0)) 219 0 = 0 := by rw [up_eq, up_eq]
  have I01 : (va_up I 219 (va_up (I 219) 0 0)) 220 = I 220 := up_ne (by decide)
  have hCl : ClR I cl := q.2.2.2.2.2.2.2.2.2.2.2.1
  obtain ⟨c, W, b1, b2, b3, b4, b5, b6, b7⟩ := hCl
  obtain ⟨-, -, -, -, -, -, -, -, -, -, ⟨lW1, lW2⟩, -, -, -, -, -, hcl, -⟩ := id q.1
  have lW : LayW G 2 cl := by
    rcases hcl with ⟨a, -⟩ | ⟨a, -⟩
    · rw [a]; exact lW1
    · rw [a]; exact lW2
  have hcl9 : 207 ≤ cl ∧ cl + 4 ≤ 215 := by omega
  obtain ⟨⟨d1, d2, d3, d4⟩, d5, -⟩ := id hD
  have key : ∀ j, ∃ v, v < 3 ∧ (j < c → W j ≤ 3 → (∀ S t, mcal mT (d + 4) 17 [.ref cl, .int (Int32.ofNat (pos W j)), .ref 195, .int (Int32.ofNat nr)] (G, stk I (cl + 1) S t, L) = some (.inl (some (.int (tau v))), (G, stk I (cl + 1) S t, L))) ∧ (∀ J K, J 241 = I 241 → J 242 = I 242 → J 220 = I 220 → J 219 23 = I 219 23 → J 228 = I 228 → mcal mT (d + 5) 284 [.ref 219, .int (Int32.ofNat j)] (G, J, K) = some (.inl (some (.int (Int32.ofNat v))), (G, J, K)))) := by
    intro j
    by_cases hj : j < c
    case neg => exact ⟨0, by decide, fun p => absurd p hj⟩
    by_cases hw3 : W j ≤ 3
    case neg => exact ⟨0, by decide, fun _ p => absurd p hw3⟩
    obtain ⟨e1, -, e3, -⟩ := b5 j hj
    obtain ⟨e4, r, qq, f, t, r7, q4, ft, t47, x1, x2, x3, x4, y1, y2, y3, y4⟩ := e3 hw3
    refine ⟨sav (W j) (fun cc b => I 228 (56 * (hN - 1 - b) + 7 * r + cc)) nr hN r qq f t, sav_b, fun _ _ => ⟨fun S u => ?_, fun J K j1 j2 j3 j4 j5 => ?_⟩⟩
    · have ep : pos W (j + 1) = pos W j + 5 := if_pos hw3
      have pp := pos_s (W := W) (j := j) (c := c) hj
      have o : ∀ a, a ≠ cl + 1 → a ≠ cl + 1 + 2 → stk I (cl + 1) S u a = I a := fun a h1 h2 => stk_o h1 h2
      exact c_said (d + 1) (I := stk I (cl + 1) S u) (b := cl) (p := pos W j) (z := pos W c) (w := W j) (r := r) (q := qq) (f := f) (t := t) (nr := nr) (hN := hN) (hw := w) lW lD (by rw [stk_c (by decide)]; exact b1) b4 (by omega) hw3 (by rw [o _ (by omega) (by omega)]; exact e4) (by rw [o _ (by omega) (by omega)]; exact y1) (by rw [o _ (by omega) (by omega)]; exact y2) (by rw [o _ (by omega) (by omega)]; exact y3) (by rw [o _ (by omega) (by omega)]; exact y4) r7 q4 ft t47 s3 d2 (by rw [o _ (by omega) (by omega)]; exact d1) (by rw [o _ (by omega) (by omega)]; exact d3) d4 (fun hr b hb c hc => by
        unfold cEn
        rw [o _ (by omega) (by omega)]
        have := d5 b (7 * r + c) hb (by omega)
        rw [← Nat.add_assoc, ← Nat.add_assoc] at this
        exact this)
    · have := r_said (d + 3) (G := G) (J := J) (K := K) (j := j) (w := W j) (r := r) (q := qq) (f := f) (t := t) (nr := nr) (hN := hN) lM (by omega) hw3 (by rw [j1]; exact e1) (by rw [j2]; exact x1) (by rw [j2]; exact x2) (by rw [j2]; exact x3) (by rw [j2]; exact x4) r7 q4 ft t47 s3 (by rw [j3]; exact s2) d2 (by rw [j4]; exact hHN)
      rw [j5] at this
      exact this
  obtain ⟨I1, a1, a2, a3⟩ := c_verd (d + 1) (G := G) (I := I) (L := L) (b := cl) (c := c) (nr := nr) (W := W) (V := fun j => Classical.choose (key j)) lW b1 b4 (fun j => (Classical.choose_spec (key j)).1) (fun j hj => by
    obtain ⟨e1, e2, e3, e4, e5, e6⟩ := b5 j hj
    exact ⟨e2, fun p => (e3 p).1, e4, e5, e6⟩) b6 b7 (fun j hj hw3 => ((Classical.choose_spec (key j)).2 hj hw3).1)
  have o9 : I1 219 = I 219 := a2 219 (by omega) (by omega)
  have f : ∀ T a, a ≠ 219 → a ≠ 245 → a ≠ cl + 1 → a ≠ cl + 3 → va_up (va_up I1 219 (va_up (I1 219) 0 0)) 245 T a = I a := fun T a h1 h2 h3 h4 => by rw [up_ne h2, up_ne h1, a2 a h3 h4]
  obtain ⟨T, r1⟩ := r_judge (d + 3) (G := G) (J := I1) (K := L) (c := c) (W := W) (V := fun j => Classical.choose (key j)) lM b3 (by rw [o9]; exact b2) (fun j => (Classical.choose_spec (key j)).1) (fun j hj => by
    obtain ⟨e1, e2, -⟩ := b5 j hj
    rw [a2 241 (by omega) (by omega)]
    exact ⟨e2, e1⟩) b6 b7 (fun j hj hw3 T => ((Classical.choose_spec (key j)).2 hj hw3).2 _ _ (f T 241 (by decide) (by decide) (by omega) (by omega)) (f T 242 (by decide) (by decide) (by omega) (by omega)) (f T 220 (by decide) (by decide) (by omega) (by omega)) (by rw [up_ne (by decide), up_eq, up_ne (by decide), o9]) (f T 228 (by decide) (by decide) (by omega) (by omega)))
  have hc : mcal mT (d + 6) 159 [.ref 100] (G, I, L) = some (.inl (some (.int (if c = 0 then -1 else tau (evj W (fun j => Classical.choose (key j)) c 0)))), (G, I1, L)) := by
    have k2 := lW.1
    rw [q_X11_judge_, e_X11_judge_0]
    simp only [↓vB lB, ↓vP lP, ↓vH lH, s1, ↓gk_t k2, ↓mcI_of a1]
  have qq : Qui I (va_up (va_up I1 219 (va_up (I1 219) 0 0)) 245 T) L L := by
    refine ⟨fun a ha => ?_, fun k k0 _ _ _ _ _ => ?_, fun j hj => ?_, ?_, fun _ _ _ _ _ => rfl, fun _ _ => rfl⟩
    · unfold Scr at ha
      exact f T a (by omega) (by omega) (by omega) (by omega)
    · rw [up_ne (by decide), up_eq, up_ne k0, o9]
    · rw [f T 223 (by decide) (by decide) (by omega) (by omega)]
    · have e0 := f T 200 (by decide) (by decide) (by omega) (by omega)
      have e4 := f T 204 (by decide) (by decide) (by omega) (by omega)
      rw [e0, e4]
      rcases hcl with ⟨rfl, -⟩ | ⟨rfl, -⟩
      · have x1 : va_up (va_up I1 219 (va_up (I1 219) 0 0)) 245 T 208 1 = I 208 1 := by rw [up_ne (by decide), up_ne (by decide)]; exact a3
        have x2 := f T 212 (by decide) (by decide) (by decide) (by decide)
        rw [x1, x2]
        exact ⟨rfl, rfl, rfl, rfl⟩
      · have x1 : va_up (va_up I1 219 (va_up (I1 219) 0 0)) 245 T 212 1 = I 212 1 := by rw [up_ne (by decide), up_ne (by decide)]; exact a3
        have x2 := f T 208 (by decide) (by decide) (by decide) (by decide)
        rw [x1, x2]
        exact ⟨rfl, rfl, rfl, rfl⟩
  refine ⟨_, G, I1, L, _, L, hc, a2 0 (by omega) (by omega), rfl, r1, ?_, h, hs, bl, bs, cl, cs, nr, n, nh, M, hN, w, lc, mc, kc, ta, rm, pi, mk, Rel_q q q.1 (Nat.le_succ z) hz qq, by omega, by omega⟩
  rw [qq.1 0 (by unfold Scr; omega)]
end
