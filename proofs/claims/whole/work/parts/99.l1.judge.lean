/-! claims judged: the class's and the reference's stack -/
section
variable {G : mG} {I : Nat → Nat → Int32} {L : Nat → Nat → Int64} {b c nr : Nat} {W V : Nat → Nat}
theorem c_verd (d : Nat) (lW : LayW G 2 b) (hz : I (b + 1) 1 = Int32.ofNat (pos W c)) (z2 : pos W c ≤ 200) (hV : ∀ j, V j < 3) (hW : ∀ j, j < c → W j ≤ 6 ∧ (W j ≤ 3 → I (b + 2) (pos W j) = Int32.ofNat (W j)) ∧ (W j = 4 → I (b + 2) (pos W j) = 5) ∧ (W j = 5 → I (b + 2) (pos W j) = 6) ∧ (W j = 6 → I (b + 2) (pos W j) = 4)) (hh : ∀ j, j < c → (W j ≤ 3 → hgc W j < 15) ∧ (W j = 4 ∨ W j = 5 → 2 ≤ hgc W j) ∧ (W j = 6 → 1 ≤ hgc W j)) (he : c = 0 ∨ hgc W c = 1) (hs : ∀ j, j < c → W j ≤ 3 → ∀ S t, mcal mT (d + 3) 17 [.ref b, .int (Int32.ofNat (pos W j)), .ref 195, .int (Int32.ofNat nr)] (G, stk I (b + 1) S t, L) = some (.inl (some (.int (tau (V j)))), (G, stk I (b + 1) S t, L))) : ∃ I', mcal mT (d + 4) 15 [.ref b, .ref 195, .int (Int32.ofNat nr)] (G, I, L) = some (.inl (some (.int (if c = 0 then -1 else tau (evj W V c 0)))), (G, I', L)) ∧ (∀ a, a ≠ b + 1 → a ≠ b + 3 → I' a = I a) ∧ I' (b + 1) 1 = I (b + 1) 1 := by
  have lC := lW.2.2
  have hb := hgc_b (fun j hj => (hh j hj).1)
  have eb := evj_b (W := W) hV
  have lp : ∀ k j, j + k = c → ∀ S, (∀ i, i < hgc W j → S i = tau (evj W V j i)) → ∃ S', (∀ i, i < hgc W c → S' i = tau (evj W V c i)) ∧ f_X1_verdict (d + 3) 22 [.ref b, .ref 195, .int (Int32.ofNat nr), .int (Int32.ofNat (pos W j)), mU, mU] [] (G, stk I (b + 1) S (hgc W j), L) = f_X1_verdict (d + 3) 149 [.ref b, mU, mU, mU, mU, mU] [] (G, stk I (b + 1) S' (hgc W c), L) := by
    intro k
    induction k with
    | zero =>
      intro j hj S hS
      have e : j = c := by omega
      rw [e] at hS ⊢
      refine ⟨S, hS, ?_⟩
      rw [e_X1_verdict_22]
      simp only [↓vW lW, ↓vC lC, stk_c (show (1 : Nat) ≠ 3 by decide), hz, if_pos i_rf]
    | succ k ih =>
      intro j hj S hS
      obtain ⟨w1, w2, w3, w4, w5⟩ := hW j (by omega)
      obtain ⟨p1, p2⟩ := pos_s (W := W) (j := j) (c := c) (by omega)
      have nn : ¬ Int32.ofNat (pos W c) ≤ Int32.ofNat (pos W j) := fun p => by have := (i_le (by omega) (by omega)).mp p; omega
      have at_ := c_at (d + 2) (G := G) (I := stk I (b + 1) S (hgc W j)) (L := L) (c := b + 1) (z := pos W c) (j := pos W j) lC (by rw [stk_c (by decide)]; exact hz) z2 (by omega)
      have e2 : stk I (b + 1) S (hgc W j) (b + 1 + 1) (pos W j) = I (b + 2) (pos W j) := by
        rw [stk_o (by omega) (by omega)]
      rw [e2] at at_
      have h15 := hb j (by omega)
      obtain ⟨h1, h2, h3⟩ := hh j (by omega)
      by_cases p : W j ≤ 3
      · rw [w2 p] at at_
        have lt := h1 p
        have n4 : ¬ (4 : Int32) ≤ Int32.ofNat (W j) := fun q => by have := (i_le (a := 4) (by decide) (by omega)).mp q; omega
        have eh : hgc W (j + 1) = hgc W j + 1 := if_pos p
        have ep : pos W (j + 1) = pos W j + 4 + 1 := if_pos p
        have e4 : Int32.ofNat (pos W j) + 4 = Int32.ofNat (pos W j + 4) := i_add _ 4
        have pu := c_push (d + 2) (G := G) (I := I) (L := L) (S := S) (t := hgc W j) (tau (V j)) lC lt
        obtain ⟨S', s1, s2⟩ := ih (j + 1) (by omega) (va_up S (hgc W j) (tau (V j))) (fun i hi => by
          have ee : evj W V (j + 1) = va_up (evj W V j) (hgc W j) (V j) := if_pos p
          rw [ee]
          by_cases q : i = hgc W j
          · rw [q, up_eq, up_eq]
          · rw [up_ne q, up_ne q]; exact hS i (by omega))
        rw [eh, ep] at s2
        refine ⟨S', s1, Eq.trans ?_ s2⟩
        rw [e_X1_verdict_22]
        simp only [↓vW lW, ↓vC lC, stk_c (show (1 : Nat) ≠ 3 by decide), hz, if_neg nn, ↓mcI_of at_, if_neg n4, ↓mcI_of (hs j (by omega) p S (hgc W j)), ↓mcV_of pu, e4, e_X1_verdict_143, i_one]
      · have ep : pos W (j + 1) = pos W j + 1 := if_neg p
        by_cases q6 : W j = 6
        · rw [w5 q6] at at_
          obtain ⟨u, hu⟩ : ∃ u, hgc W j = u + 1 := ⟨hgc W j - 1, by have := h3 q6; omega⟩
          have eh : hgc W (j + 1) = u + 1 := by
            have : hgc W (j + 1) = hgc W j := (if_neg p).trans (if_pos q6)
            omega
          have po := c_pop (d + 2) (G := G) (I := I) (L := L) (S := S) (t := u) lC (by omega)
          have pu := c_push (d + 2) (G := G) (I := I) (L := L) (S := S) (t := u) (tau (2 - evj W V j u)) lC (by omega)
          have eS : S u = tau (evj W V j u) := hS u (by omega)
          obtain ⟨S', s1, s2⟩ := ih (j + 1) (by omega) (va_up S u (tau (2 - evj W V j u))) (fun i hi => by
            have ee : evj W V (j + 1) = va_up (evj W V j) (hgc W j - 1) (2 - evj W V j (hgc W j - 1)) := (if_neg p).trans (if_pos q6)
            rw [ee, hu, show u + 1 - 1 = u from rfl]
            by_cases q : i = u
            · rw [q, up_eq, up_eq]
            · rw [up_ne q, up_ne q]; exact hS i (by omega))
          rw [eh, ep] at s2
          refine ⟨S', s1, Eq.trans ?_ s2⟩
          have tn := tau_n (evj W V j u) (eb j u)
          rw [hu] at at_ ⊢
          rw [e_X1_verdict_22]
          simp only [↓vW lW, ↓vC lC, stk_c (show (1 : Nat) ≠ 3 by decide), hz, if_neg nn, ↓mcI_of at_, if_pos (show (4 : Int32) ≤ 4 by decide), e_X1_verdict_69, if_pos (show (4 : Int32) = 4 from rfl), ↓mcI_of po, eS]
          by_cases m : tau (evj W V j u) = -1
          · rw [if_pos m] at tn
            simp only [if_pos m, e_X1_verdict_102, ↓vC lC]
            rw [tn]
            simp only [↓mcV_of pu, e_X1_verdict_143, i_one, if_true]
          · rw [if_neg m] at tn
            simp only [if_neg m, e_X1_verdict_98, e_X1_verdict_102, ↓vC lC]
            rw [tn]
            simp only [↓mcV_of pu, e_X1_verdict_143, i_one, if_true]
        · have w45 : W j = 4 ∨ W j = 5 := by omega
          obtain ⟨u, hu⟩ : ∃ u, hgc W j = u + 2 := ⟨hgc W j - 2, by have := h2 w45; omega⟩
          have eh : hgc W (j + 1) = u + 1 := by
            have : hgc W (j + 1) = hgc W j - 1 := (if_neg p).trans (if_neg q6)
            omega
          have po1 := c_pop (d + 2) (G := G) (I := I) (L := L) (S := S) (t := u + 1) lC (by omega)
          have po2 := c_pop (d + 2) (G := G) (I := I) (L := L) (S := S) (t := u) lC (by omega)
          have pu := c_push (d + 2) (G := G) (I := I) (L := L) (S := S) (t := u) (tau (opj (W j) (evj W V j u) (evj W V j (u + 1)))) lC (by omega)
          have eS : S u = tau (evj W V j u) := hS u (by omega)
          have eS1 : S (u + 1) = tau (evj W V j (u + 1)) := hS (u + 1) (by omega)
          obtain ⟨S', s1, s2⟩ := ih (j + 1) (by omega) (va_up S u (tau (opj (W j) (evj W V j u) (evj W V j (u + 1))))) (fun i hi => by
            have ee : evj W V (j + 1) = va_up (evj W V j) (hgc W j - 2) (opj (W j) (evj W V j (hgc W j - 2)) (evj W V j (hgc W j - 1))) := (if_neg p).trans (if_neg q6)
            rw [ee, hu, show u + 2 - 2 = u from rfl, show u + 2 - 1 = u + 1 from rfl]
            by_cases q : i = u
            · rw [q, up_eq, up_eq]
            · rw [up_ne q, up_ne q]; exact hS i (by omega))
          rw [eh, ep] at s2
          refine ⟨S', s1, Eq.trans ?_ s2⟩
          have ja := jnd_a (evj W V j u) (eb j u) (evj W V j (u + 1)) (eb j (u + 1))
          have jo := jnd_o (evj W V j u) (eb j u) (evj W V j (u + 1)) (eb j (u + 1))
          rw [hu] at at_ ⊢
          rw [e_X1_verdict_22]
          rcases w45 with q | q
          · rw [w3 q] at at_
            have cj := c_jnd (d + 2) (G := G) (I := stk I (b + 1) S u) (L := L) (tau (evj W V j (u + 1))) (tau (evj W V j u)) 0
            rw [ja] at cj
            have eo : opj (W j) (evj W V j u) (evj W V j (u + 1)) = (if evj W V j (u + 1) ≤ evj W V j u then evj W V j (u + 1) else evj W V j u) := if_pos q
            rw [eo] at pu ⊢
            simp only [↓vW lW, ↓vC lC, stk_c (show (1 : Nat) ≠ 3 by decide), hz, if_neg nn, ↓mcI_of at_, if_pos (show (4 : Int32) ≤ 5 by decide), e_X1_verdict_69, if_neg (show ¬ (5 : Int32) = 4 by decide), e_X1_verdict_108, ↓mcI_of po1, ↓mcI_of po2, eS, eS1, if_true, e_X1_verdict_137, ↓mcI_of cj, ↓mcV_of pu, e_X1_verdict_143, i_one]
          · rw [w4 q] at at_
            have cj := c_jnd (d + 2) (G := G) (I := stk I (b + 1) S u) (L := L) (tau (evj W V j (u + 1))) (tau (evj W V j u)) 1
            rw [jo] at cj
            have eo : opj (W j) (evj W V j u) (evj W V j (u + 1)) = (if evj W V j u ≤ evj W V j (u + 1) then evj W V j (u + 1) else evj W V j u) := if_neg (by omega)
            rw [eo] at pu ⊢
            simp only [↓vW lW, ↓vC lC, stk_c (show (1 : Nat) ≠ 3 by decide), hz, if_neg nn, ↓mcI_of at_, if_pos (show (4 : Int32) ≤ 6 by decide), e_X1_verdict_69, if_neg (show ¬ (6 : Int32) = 4 by decide), e_X1_verdict_108, ↓mcI_of po1, ↓mcI_of po2, eS, eS1, if_neg (show ¬ (6 : Int32) = 5 by decide), e_X1_verdict_136, e_X1_verdict_137, ↓mcI_of cj, ↓mcV_of pu, e_X1_verdict_143, i_one]
  rw [q_X1_verdict_, e_X1_verdict_0]
  by_cases c0 : c = 0
  · refine ⟨I, ?_, fun _ _ _ => rfl, rfl⟩
    have e0 : Int32.ofNat (pos W c) = 0 := by rw [c0]; rfl
    simp only [↓vW lW, ↓vC lC, hz, if_pos e0, if_pos c0]
  · have pp := pos_s (W := W) (j := 0) (c := c) (by omega)
    have e0 : ¬ Int32.ofNat (pos W c) = 0 := fun t => by have := (i_eq (b := 0) (by omega) (by decide)).mp t; omega
    have h1 : hgc W c = 1 := he.resolve_left c0
    obtain ⟨S', s1, s2⟩ := lp c 0 (Nat.zero_add _) (I (b + 1 + 2)) (fun i hi => absurd hi (Nat.not_lt_zero _))
    have e3 : up2 I (b + 1) 3 0 = stk I (b + 1) (I (b + 1 + 2)) 0 := by
      unfold stk
      rw [up_id]
      rfl
    have po := c_pop (d + 2) (G := G) (I := I) (L := L) (S := S') (t := 0) lC (by decide)
    refine ⟨stk I (b + 1) S' 0, ?_, fun a h2 h3 => stk_o h2 (by omega), stk_c (by decide)⟩
    simp only [↓vW lW, ↓vC lC, hz, if_neg e0, if_neg c0, e_X1_verdict_12, e3]
    refine Eq.trans s2 ?_
    rw [h1, e_X1_verdict_149, ← s1 0 (by omega)]
    simp only [↓vW lW, ↓vC lC, ↓mcI_of po]
end
section
variable {G : mG} {J : Nat → Nat → Int32} {K : Nat → Nat → Int64} {c : Nat} {W V : Nat → Nat}
theorem r_said (e : Nat) {j w r q f t nr hN : Nat} (lM : LayM G 219) (hj : j < 110) (hw3 : w ≤ 3) (iw : J 241 j = Int32.ofNat w) (i1 : J 242 (4 * j) = Int32.ofNat r) (i2 : J 242 (4 * j + 1) = Int32.ofNat q) (i3 : J 242 (4 * j + 2) = Int32.ofNat f) (i4 : J 242 (4 * j + 3) = Int32.ofNat t) (hr : r ≤ 7) (hq : q ≤ 400) (hf : f ≤ t) (ht : t ≤ 47) (hnr : nr ≤ 8) (s2 : J 220 163 = Int32.ofNat nr) (hN48 : hN ≤ 48) (d0 : J 219 23 = Int32.ofNat hN) : mcal mT (e + 2) 284 [.ref 219, .int (Int32.ofNat j)] (G, J, K) = some (.inl (some (.int (Int32.ofNat (sav w (fun cc b => J 228 (56 * (hN - 1 - b) + 7 * r + cc)) nr hN r q f t)))), (G, J, K)) := by
  have m4 : (4 : Int32) * Int32.ofNat j = Int32.ofNat (4 * j) := i_mul 4 j
  have m41 : Int32.ofNat (4 * j) + 1 = Int32.ofNat (4 * j + 1) := i_add _ 1
  have m42 : Int32.ofNat (4 * j) + 2 = Int32.ofNat (4 * j + 2) := i_add _ 2
  have m43 : Int32.ofNat (4 * j) + 3 = Int32.ofNat (4 * j + 3) := i_add _ 3
  have s10 : (10 : Int32) * Int32.ofNat q = Int32.ofNat (10 * q) := i_mul 10 q
  have ro : mcal mT (e + 1) 199 [.ref 219] (G, J, K) = some (.inl (some (.int (Int32.ofNat nr))), (G, J, K)) := by
    rw [← s2]; exact r_rooms e lM
  rw [q_X12_saidBy_, e_X12_saidBy_0]
  simp (disch := omega) only [↓vM lM, m4, m41, m42, m43, i1, i2, i3, i4, ↓mcI_of ro]
  unfold sav
  by_cases c1 : nr ≤ r
  · rw [if_pos ((i_le (by omega) (by omega)).mpr c1), if_pos c1, e_X12_saidBy_64]
    rfl
  rw [if_neg (fun p => c1 ((i_le (by omega) (by omega)).mp p)), if_neg c1]
  simp only [d0]
  by_cases c2 : t < hN
  case neg =>
    rw [if_neg (fun p => c2 ((i_lt (by omega) (by omega)).mp p)), if_neg c2, e_X12_saidBy_64]
    rfl
  rw [if_pos ((i_lt (by omega) (by omega)).mpr c2), if_pos c2, s10]
  generalize hD : (fun cc b => J 228 (56 * (hN - 1 - b) + 7 * r + cc)) = D
  have dia : ∀ b, b < hN → ∀ cc, cc < 4 → mcal mT (e + 1) 218 [.ref 219, .int (Int32.ofNat r), .int (Int32.ofNat b), .int (Int32.ofNat cc)] (G, J, K) = some (.inl (some (.int (D cc b))), (G, J, K)) := by
    intro b hb cc hc
    rw [← hD]
    exact r_diaryOf e lM d0 hN48 hb (by omega) (by omega)
  have b1 : ∀ b, hlb w D q b ≤ 1 := fun b => hlb_b
  -- one hour
  have st : ∀ i, f + i ≤ t → ∀ x6 : Nat, f_X12_saidBy (e + 1) 73 [.ref 219, .int (Int32.ofNat j), .int (Int32.ofNat r), .int (Int32.ofNat (10 * q)), .int (Int32.ofNat f), .int (Int32.ofNat t), .int (Int32.ofNat x6), .int (Int32.ofNat (f + i)), mU] [] (G, J, K) = f_X12_saidBy (e + 1) 73 [.ref 219, .int (Int32.ofNat j), .int (Int32.ofNat r), .int (Int32.ofNat (10 * q)), .int (Int32.ofNat f), .int (Int32.ofNat t), .int (Int32.ofNat (x6 + hlb w D q (f + i))), .int (Int32.ofNat (f + i + 1)), mU] [] (G, J, K) := by
    intro i hi x6
    have y1 : f_X12_saidBy (e + 1) 184 [.ref 219, .int (Int32.ofNat j), .int (Int32.ofNat r), .int (Int32.ofNat (10 * q)), .int (Int32.ofNat f), .int (Int32.ofNat t), .int (Int32.ofNat x6), .int (Int32.ofNat (f + i)), mU] [.int 1] (G, J, K) = f_X12_saidBy (e + 1) 73 [.ref 219, .int (Int32.ofNat j), .int (Int32.ofNat r), .int (Int32.ofNat (10 * q)), .int (Int32.ofNat f), .int (Int32.ofNat t), .int (Int32.ofNat (x6 + 1)), .int (Int32.ofNat (f + i + 1)), mU] [] (G, J, K) := by
      rw [e_X12_saidBy_184, if_neg (by decide), e_X12_saidBy_198, i_one, i_one]
    have y0 : f_X12_saidBy (e + 1) 184 [.ref 219, .int (Int32.ofNat j), .int (Int32.ofNat r), .int (Int32.ofNat (10 * q)), .int (Int32.ofNat f), .int (Int32.ofNat t), .int (Int32.ofNat x6), .int (Int32.ofNat (f + i)), mU] [.int 0] (G, J, K) = f_X12_saidBy (e + 1) 73 [.ref 219, .int (Int32.ofNat j), .int (Int32.ofNat r), .int (Int32.ofNat (10 * q)), .int (Int32.ofNat f), .int (Int32.ofNat t), .int (Int32.ofNat x6), .int (Int32.ofNat (f + i + 1)), mU] [] (G, J, K) := by
      rw [e_X12_saidBy_184, if_pos rfl, e_X12_saidBy_197, e_X12_saidBy_198, Int32.add_zero, i_one]
    have d_0 : mcal mT (e + 1) 218 [.ref 219, .int (Int32.ofNat r), .int (Int32.ofNat (f + i)), .int 0] (G, J, K) = _ := dia (f + i) (by omega) 0 (by decide)
    have d_1 : mcal mT (e + 1) 218 [.ref 219, .int (Int32.ofNat r), .int (Int32.ofNat (f + i)), .int 1] (G, J, K) = _ := dia (f + i) (by omega) 1 (by decide)
    have d_2 : mcal mT (e + 1) 218 [.ref 219, .int (Int32.ofNat r), .int (Int32.ofNat (f + i)), .int 2] (G, J, K) = _ := dia (f + i) (by omega) 2 (by decide)
    have d_3 : mcal mT (e + 1) 218 [.ref 219, .int (Int32.ofNat r), .int (Int32.ofNat (f + i)), .int 3] (G, J, K) = _ := dia (f + i) (by omega) 3 (by decide)
    rw [e_X12_saidBy_73, if_neg (fun p => by have := (i_lt (by omega) (by omega)).mp p; omega)]
    obtain rfl | rfl | rfl | rfl : w = 0 ∨ w = 1 ∨ w = 2 ∨ w = 3 := by omega
    · simp (disch := omega) only [↓vM lM, iw, ↓if_pos (show Int32.ofNat 0 = 0 from rfl), ↓mcI_of d_0]
      rw [show hlb 0 D q (f + i) = (if Int32.ofNat (10 * q) ≤ D 0 (f + i) then 0 else 1) from if_pos rfl]
      by_cases z : Int32.ofNat (10 * q) ≤ D 0 (f + i)
      · rw [if_pos z, if_pos z, e_X12_saidBy_105]; exact y0
      · rw [if_neg z, if_neg z]; exact y1
    · simp (disch := omega) only [↓vM lM, iw, ↓if_neg (show ¬ Int32.ofNat 1 = 0 by decide), e_X12_saidBy_109, ↓if_pos (show Int32.ofNat 1 = 1 from rfl), ↓mcI_of d_1]
      rw [show hlb 1 D q (f + i) = (if D 1 (f + i) ≤ Int32.ofNat (10 * q) then 0 else 1) from (if_neg (by decide)).trans (if_pos rfl)]
      by_cases z : D 1 (f + i) ≤ Int32.ofNat (10 * q)
      · rw [if_pos z, if_pos z, e_X12_saidBy_135]; exact y0
      · rw [if_neg z, if_neg z]; exact y1
    · simp (disch := omega) only [↓vM lM, iw, ↓if_neg (show ¬ Int32.ofNat 2 = 0 by decide), e_X12_saidBy_109, ↓if_neg (show ¬ Int32.ofNat 2 = 1 by decide), e_X12_saidBy_139, ↓if_pos (show Int32.ofNat 2 = 2 from rfl), ↓mcI_of d_2]
      rw [show hlb 2 D q (f + i) = (if D 2 (f + i) ≤ 0 then 0 else 1) from (if_neg (by decide)).trans ((if_neg (by decide)).trans (if_pos rfl))]
      by_cases z : D 2 (f + i) ≤ 0
      · rw [if_pos z, if_pos z, e_X12_saidBy_164]; exact y0
      · rw [if_neg z, if_neg z]; exact y1
    · simp (disch := omega) only [↓vM lM, iw, ↓if_neg (show ¬ Int32.ofNat 3 = 0 by decide), e_X12_saidBy_109, ↓if_neg (show ¬ Int32.ofNat 3 = 1 by decide), e_X12_saidBy_139, ↓if_neg (show ¬ Int32.ofNat 3 = 2 by decide), e_X12_saidBy_168, ↓mcI_of d_3]
      rw [show hlb 3 D q (f + i) = (if D 3 (f + i) ≤ 0 then 0 else 1) from (if_neg (by decide)).trans ((if_neg (by decide)).trans (if_neg (by decide)))]
      by_cases z : D 3 (f + i) ≤ 0
      · rw [if_pos z, if_pos z, e_X12_saidBy_183]; exact y0
      · rw [if_neg z, if_neg z]; exact y1
  have lp : ∀ m, m ≤ t - f + 1 → f_X12_saidBy (e + 1) 73 [.ref 219, .int (Int32.ofNat j), .int (Int32.ofNat r), .int (Int32.ofNat (10 * q)), .int (Int32.ofNat f), .int (Int32.ofNat t), .int (Int32.ofNat 0), .int (Int32.ofNat (f + 0)), mU] [] (G, J, K) = f_X12_saidBy (e + 1) 73 [.ref 219, .int (Int32.ofNat j), .int (Int32.ofNat r), .int (Int32.ofNat (10 * q)), .int (Int32.ofNat f), .int (Int32.ofNat t), .int (Int32.ofNat (sN (fun i => hlb w D q (f + i)) m)), .int (Int32.ofNat (f + m)), mU] [] (G, J, K) := by
    intro m
    induction m with
    | zero => intro _; rfl
    | succ m ih =>
      intro hm
      exact (ih (by omega)).trans (st m (by omega) _)
  rw [e_X12_saidBy_66]
  refine Eq.trans (lp (t - f + 1) (Nat.le_refl _)) ?_
  have sb := sN_le (f := fun i => hlb w D q (f + i)) (b := 1) (t - f + 1) (fun i _ => b1 (f + i))
  have ed : (Int32.ofNat t - Int32.ofNat f) + 1 = Int32.ofNat (t - f + 1) := by rw [i_sub hf (by omega), i_one]
  rw [e_X12_saidBy_73, if_pos ((i_lt (by omega) (by omega)).mpr (by omega)), e_X12_saidBy_207]
  simp (disch := omega) only [↓vM lM, iw, ed]
  by_cases w1 : w ≤ 1
  · rw [if_neg (show ¬ (1 : Int32) < Int32.ofNat w from fun p => by have := (i_lt (a := 1) (by decide) (by omega)).mp p; omega), if_pos w1]
    by_cases z : sN (fun i => hlb w D q (f + i)) (t - f + 1) = t - f + 1
    · rw [if_pos (by rw [z]), if_pos z, e_X12_saidBy_247]; rfl
    · rw [if_neg (fun p => z ((i_eq (by omega) (by omega)).mp p)), if_neg z, e_X12_saidBy_233, e_X12_saidBy_247]; rfl
  · rw [if_pos (show (1 : Int32) < Int32.ofNat w from (i_lt (a := 1) (by decide) (by omega)).mpr (by omega)), if_neg w1, e_X12_saidBy_237]
    by_cases z : sN (fun i => hlb w D q (f + i)) (t - f + 1) = 0
    · rw [if_pos (by rw [z]; decide), if_pos z, e_X12_saidBy_246, e_X12_saidBy_247]; rfl
    · rw [if_neg (show ¬ Int32.ofNat (sN (fun i => hlb w D q (f + i)) (t - f + 1)) ≤ 0 from fun p => by have := (i_le (b := 0) (by omega) (by decide)).mp p; omega), if_neg z, e_X12_saidBy_247]; rfl
theorem r_judge (e : Nat) (lM : LayM G 219) (c2 : c ≤ 110) (hc : J 219 44 = Int32.ofNat c) (hV : ∀ j, V j < 3) (hW : ∀ j, j < c → W j ≤ 6 ∧ J 241 j = Int32.ofNat (W j)) (hh : ∀ j, j < c → (W j ≤ 3 → hgc W j < 15) ∧ (W j = 4 ∨ W j = 5 → 2 ≤ hgc W j) ∧ (W j = 6 → 1 ≤ hgc W j)) (he : c = 0 ∨ hgc W c = 1) (hs : ∀ j, j < c → W j ≤ 3 → ∀ T, mcal mT (e + 2) 284 [.ref 219, .int (Int32.ofNat j)] (G, va_up (va_up J 219 (va_up (J 219) 0 0)) 245 T, K) = some (.inl (some (.int (Int32.ofNat (V j)))), (G, va_up (va_up J 219 (va_up (J 219) 0 0)) 245 T, K))) : ∃ T, mcal mT (e + 3) 285 [.ref 219] (G, J, K) = some (.inl (some (.int (if c = 0 then -1 else tau (evj W V c 0)))), (G, va_up (va_up J 219 (va_up (J 219) 0 0)) 245 T, K)) := by
  generalize hJ0 : va_up J 219 (va_up (J 219) 0 0) = J0 at hs
  have hb := hgc_b (fun j hj => (hh j hj).1)
  have eb := evj_b (W := W) hV
  have o44 : J0 219 44 = Int32.ofNat c := by rw [← hJ0, up_eq, up_ne (by decide)]; exact hc
  have o41 : J0 241 = J 241 := by rw [← hJ0, up_ne (by decide)]
  have z9 : ∀ T, va_up J0 245 T 219 = J0 219 := fun T => up_ne (by decide)
  have z1 : ∀ T, va_up J0 245 T 241 = J 241 := fun T => by rw [up_ne (by decide), o41]
  have zS : ∀ T, va_up J0 245 T 245 = T := fun T => up_eq
  have up5 : ∀ T i v, up2 (va_up J0 245 T) (219 + 26) i v = va_up J0 245 (va_up T i v) := fun T i v => by
    show va_up (va_up J0 245 T) 245 (va_up (va_up J0 245 T 245) i v) = _
    rw [up_eq, up_up]
  have lp : ∀ k j, j + k = c → ∀ S, (∀ i, i < hgc W j → S i = Int32.ofNat (evj W V j i)) → ∃ S', (∀ i, i < hgc W c → S' i = Int32.ofNat (evj W V c i)) ∧ f_X12_judge (e + 2) 18 [.ref 219, .int (Int32.ofNat (hgc W j)), .int (Int32.ofNat j), mU, mU] [] (G, va_up J0 245 S, K) = f_X12_judge (e + 2) 156 [.ref 219, mU, mU, mU, mU] [] (G, va_up J0 245 S', K) := by
    intro k
    induction k with
    | zero =>
      intro j hj S hS
      have ej : j = c := by omega
      rw [ej] at hS ⊢
      refine ⟨S, hS, ?_⟩
      rw [e_X12_judge_18]
      simp only [↓vM lM, z9, o44, if_pos i_rf]
    | succ k ih =>
      intro j hj S hS
      obtain ⟨w1, w2⟩ := hW j (by omega)
      have nn : ¬ Int32.ofNat c ≤ Int32.ofNat j := fun p => by have := (i_le (by omega) (by omega)).mp p; omega
      have h15 := hb j (by omega)
      obtain ⟨h1, h2, h3⟩ := hh j (by omega)
      by_cases p : W j ≤ 3
      · have lt := h1 p
        have n3 : ¬ (3 : Int32) < Int32.ofNat (W j) := fun q => by have := (i_lt (a := 3) (by decide) (by omega)).mp q; omega
        have eh : hgc W (j + 1) = hgc W j + 1 := if_pos p
        obtain ⟨S', s1, s2⟩ := ih (j + 1) (by omega) (va_up S (hgc W j) (Int32.ofNat (V j))) (fun i hi => by
          have ee : evj W V (j + 1) = va_up (evj W V j) (hgc W j) (V j) := if_pos p
          rw [ee]
          by_cases q : i = hgc W j
          · rw [q, up_eq, up_eq]
          · rw [up_ne q, up_ne q]; exact hS i (by omega))
        rw [eh] at s2
        refine ⟨S', s1, Eq.trans ?_ s2⟩
        rw [e_X12_judge_18]
        simp (disch := omega) only [↓vM lM, z9, o44, if_neg nn, z1, w2, if_neg n3, ↓mcI_of (hs j (by omega) p S), up5, e_X12_judge_150, i_one]
      · have p3 : (3 : Int32) < Int32.ofNat (W j) := (i_lt (a := 3) (by decide) (by omega)).mpr (by omega)
        by_cases q6 : W j = 6
        · have e6 : Int32.ofNat (W j) = 6 := by rw [q6]; rfl
          obtain ⟨u, hu⟩ : ∃ u, hgc W j = u + 1 := ⟨hgc W j - 1, by have := h3 q6; omega⟩
          have eh : hgc W (j + 1) = u + 1 := by
            have : hgc W (j + 1) = hgc W j := (if_neg p).trans (if_pos q6)
            omega
          have eS : S u = Int32.ofNat (evj W V j u) := hS u (by omega)
          have e2 : (2 : Int32) - Int32.ofNat (evj W V j u) = Int32.ofNat (2 - evj W V j u) := i_sub (a := 2) (by have := eb j u; omega) (by decide)
          obtain ⟨S', s1, s2⟩ := ih (j + 1) (by omega) (va_up S u (Int32.ofNat (2 - evj W V j u))) (fun i hi => by
            have ee : evj W V (j + 1) = va_up (evj W V j) (hgc W j - 1) (2 - evj W V j (hgc W j - 1)) := (if_neg p).trans (if_pos q6)
            rw [ee, hu, show u + 1 - 1 = u from rfl]
            by_cases q : i = u
            · rw [q, up_eq, up_eq]
            · rw [up_ne q, up_ne q]; exact hS i (by omega))
          rw [eh] at s2
          refine ⟨S', s1, Eq.trans ?_ s2⟩
          rw [hu, e_X12_judge_18]
          simp (disch := omega) only [↓vM lM, z9, o44, if_neg nn, z1, w2, if_pos p3, e_X12_judge_53, if_pos e6, i_pred, zS, eS, e2, up5, e_X12_judge_150, i_one]
        · have w45 : W j = 4 ∨ W j = 5 := by omega
          have e6 : ¬ Int32.ofNat (W j) = 6 := fun t => q6 ((i_eq (b := 6) (by omega) (by decide)).mp t)
          obtain ⟨u, hu⟩ : ∃ u, hgc W j = u + 2 := ⟨hgc W j - 2, by have := h2 w45; omega⟩
          have eh : hgc W (j + 1) = u + 1 := by
            have : hgc W (j + 1) = hgc W j - 1 := (if_neg p).trans (if_neg q6)
            omega
          have m1 : Int32.ofNat (u + 2) + (-1) = Int32.ofNat (u + 1) := by rw [i_m1, i_pred]
          have eS : S u = Int32.ofNat (evj W V j u) := hS u (by omega)
          have eS1 : S (u + 1) = Int32.ofNat (evj W V j (u + 1)) := hS (u + 1) (by omega)
          have b0 := eb j u
          have b1 := eb j (u + 1)
          obtain ⟨S', s1, s2⟩ := ih (j + 1) (by omega) (va_up S u (Int32.ofNat (opj (W j) (evj W V j u) (evj W V j (u + 1))))) (fun i hi => by
            have ee : evj W V (j + 1) = va_up (evj W V j) (hgc W j - 2) (opj (W j) (evj W V j (hgc W j - 2)) (evj W V j (hgc W j - 1))) := (if_neg p).trans (if_neg q6)
            rw [ee, hu, show u + 2 - 2 = u from rfl, show u + 2 - 1 = u + 1 from rfl]
            by_cases q : i = u
            · rw [q, up_eq, up_eq]
            · rw [up_ne q, up_ne q]; exact hS i (by omega))
          rw [eh] at s2
          refine ⟨S', s1, Eq.trans ?_ s2⟩
          rw [hu, e_X12_judge_18]
          simp (disch := omega) only [↓vM lM, z9, o44, if_neg nn, z1, w2, if_pos p3, e_X12_judge_53, if_neg e6, e_X12_judge_85, m1, i_pred, zS, eS, eS1]
          have fin : ∀ v, f_X12_judge (e + 2) 149 [.ref 219, .int (Int32.ofNat (u + 1)), .int (Int32.ofNat j), mU, mU] [.int v, .int (Int32.ofNat u), .ref (219 + 26)] (G, va_up J0 245 S, K) = f_X12_judge (e + 2) 18 [.ref 219, .int (Int32.ofNat (u + 1)), .int (Int32.ofNat (j + 1)), mU, mU] [] (G, va_up J0 245 (va_up S u v), K) := by
            intro v
            rw [e_X12_judge_149]
            simp (disch := omega) only [↓vM lM, up5, e_X12_judge_150, i_one]
          rw [← fin]
          unfold opj
          by_cases q : W j = 4
          · rw [if_pos (by rw [q]; rfl), if_pos q]
            by_cases l : evj W V j (u + 1) ≤ evj W V j u
            · rw [if_pos ((i_le (by omega) (by omega)).mpr l), if_pos l, e_X12_judge_132]
            · rw [if_neg (fun t => l ((i_le (by omega) (by omega)).mp t)), if_neg l]
          · rw [if_neg (show ¬ Int32.ofNat (W j) = 4 from fun t => q ((i_eq (b := 4) (by omega) (by decide)).mp t)), if_neg q, e_X12_judge_137]
            by_cases l : evj W V j u ≤ evj W V j (u + 1)
            · rw [if_pos ((i_le (by omega) (by omega)).mpr l), if_pos l, e_X12_judge_147]
            · rw [if_neg (fun t => l ((i_le (by omega) (by omega)).mp t)), if_neg l]
  rw [q_X12_judge_, e_X12_judge_0]
  have e9 : up2 J 219 0 0 = J0 := hJ0
  by_cases c0 : c = 0
  · refine ⟨J0 245, ?_⟩
    have e0 : Int32.ofNat c = 0 := by rw [c0]; rfl
    simp only [↓vM lM, e9, o44, if_pos e0, if_pos c0, up_id]
  · have e0 : ¬ Int32.ofNat c = 0 := fun t => c0 ((i_eq (b := 0) (by omega) (by decide)).mp t)
    have h1 : hgc W c = 1 := he.resolve_left c0
    obtain ⟨S', s1, s2⟩ := lp c 0 (Nat.zero_add _) (J0 245) (fun i hi => absurd hi (Nat.not_lt_zero _))
    rw [up_id] at s2
    have g0 : ∀ f, gx G (219 + 26) 20 0 f = f 0 := fun f => by
      show gx G (219 + 26) 20 (Int32.ofNat 0) f = f 0
      simp (disch := omega) only [↓vM lM]
    refine ⟨S', ?_⟩
    simp only [↓vM lM, e9, o44, if_neg e0, if_neg c0, e_X12_judge_14]
    refine Eq.trans s2 ?_
    have s0 : S' 0 = Int32.ofNat (evj W V c 0) := s1 0 (by omega)
    have b3 := eb c 0
    generalize evj W V c 0 = x at b3 s0
    rw [e_X12_judge_156]
    simp only [↓vM lM, ↓g0, zS, s0]
    obtain rfl | rfl | rfl : x = 0 ∨ x = 1 ∨ x = 2 := by omega
    · rw [if_neg (by decide), e_X12_judge_170]
      simp only [↓vM lM, ↓g0, zS, s0]
      rw [if_pos (by decide), e_X12_judge_184]
      rfl
    · rw [if_neg (by decide), e_X12_judge_170]
      simp only [↓vM lM, ↓g0, zS, s0]
      rw [if_neg (by decide), e_X12_judge_183, e_X12_judge_184]
      rfl
    · rw [if_pos (by decide), e_X12_judge_184]
      rfl
end
