/-! parts of a bill: class and reference -/
def shw (m e : Int32) : Int32 := m + Int64.toInt32 ((Int32.toInt64 m * Int32.toInt64 e) / 100)
theorem ev_c {W : Nat → Nat} {V V' : Nat → Int32} : ∀ c, (∀ j, j < c → W j ≤ 5 → V j = V' j) → ev W V c = ev W V' c := by
  intro c
  induction c with
  | zero => intro _; rfl
  | succ c ih =>
    intro h
    have a := ih (fun j hj => h j (by omega))
    unfold ev
    rw [a]
    by_cases p : W c ≤ 5
    · rw [if_pos p, if_pos p, h c (by omega) p]
    · rw [if_neg p, if_neg p]
def QuP (bl : Nat) (I I' : Nat → Nat → Int32) : Prop := (∀ a, a ≠ bl → a ≠ bl + 1 → a ≠ bl + 3 → a ≠ 216 → I' a = I a) ∧ I' (bl + 1) 1 = I (bl + 1) 1
theorem QuP_t {bl : Nat} {I I1 I2 : Nat → Nat → Int32} (a : QuP bl I I1) (b : QuP bl I1 I2) : QuP bl I I2 := ⟨fun x h1 h2 h3 h4 => (b.1 x h1 h2 h3 h4).trans (a.1 x h1 h2 h3 h4), b.2.trans a.2⟩
/-- a name's value -/
def nmv (sh : Nat → Int32) (n k : Nat) (si se : Int32) (w : Nat) : Int32 := if w = 1 then sh k else if w = 2 then si else if w = 3 then sm n sh else if w = 4 then Int32.ofNat n else se
section
variable {G : mG} {I : Nat → Nat → Int32} {L : Nat → Nat → Int64} {h hs bl bs cl cs n k c : Nat} {W : Nat → Nat}
theorem c_shw (d : Nat) (lB : LayB G hs bl bs cl cs) (lP : LayP G 117 h 132 139 153) (lT : LayT G 139) (hk : k < 8) : mcal mT (d + 1) 156 [.ref 100, .int (Int32.ofNat k)] (G, I, L) = some (.inl (some (.int (shw (I 151 k) (I 215 k)))), (G, I, L)) := by
  have z100 : ¬ (100 : Nat) = 0 := by decide
  simp (disch := omega) only [q_X11_meterShows_, e_X11_meterShows_0, ↓vB lB, ↓vP lP, ↓vT lT, if_neg z100]
  rfl
theorem c_allM (d : Nat) (lB : LayB G hs bl bs cl cs) (lP : LayP G 117 h 132 139 153) (lH : LayH G h) (lT : LayT G 139) (s4 : I h 10 = Int32.ofNat n) (s6 : n ≤ 8) : mcal mT (d + 2) 155 [.ref 100] (G, I, L) = some (.inl (some (.int (sm n (fun k => shw (I 151 k) (I 215 k))))), (G, I, L)) := by
  rw [q_X11_allMeters_, e_X11_allMeters_0]
  have lp := loopx (fun k (s : Int32) => f_X11_allMeters (d + 1) 4 [.ref 100, .int s, .int k] [] (G, I, L)) (fun j => sm j (fun k => shw (I 151 k) (I 215 k))) n (fun k hk => by
    have nn : ¬ Int32.ofNat n ≤ Int32.ofNat k := fun p => by have := (i_le (by omega) (by omega)).mp p; omega
    show f_X11_allMeters (d + 1) 4 _ _ _ = f_X11_allMeters (d + 1) 4 _ _ _
    rw [e_X11_allMeters_4]
    simp only [↓vB lB, ↓vP lP, ↓vH lH, s4, if_neg nn, ↓mcI_of (c_shw d (L := L) (I := I) lB lP lT (show k < 8 by omega)), i_one]
    rfl)
  refine Eq.trans lp ?_
  show f_X11_allMeters (d + 1) 4 _ _ _ = _
  rw [e_X11_allMeters_4]
  simp only [↓vB lB, ↓vP lP, ↓vH lH, s4, if_pos i_rf, e_X11_allMeters_32]
theorem c_partOf (d : Nat) {N : Nat → Int32} {sh : Nat → Int32} (lB : LayB G hs bl bs cl cs) (lP : LayP G 117 h 132 139 153) (lH : LayH G h) (lT : LayT G 139) (lW : LayW G 1 bl) (hb : 103 ≤ h ∧ h + 14 ≤ 132) (hbl : 199 ≤ bl ∧ bl + 4 ≤ 207) (s4 : I h 10 = Int32.ofNat n) (hk : k < n) (s6 : n ≤ 8) (hsh : ∀ k, k < n → shw (I 151 k) (I 215 k) = sh k) (hc : I (bl + 1) 1 = Int32.ofNat c) (c2 : c ≤ 200) (hW : ∀ j, j < c → W j ≤ 9 ∧ 0 ≤ N j ∧ I (bl + 2) j = (if W j = 0 then N j else -Int32.ofNat (W j))) (hh : ∀ j, j < c → (W j ≤ 5 → hgt W j < 15) ∧ (¬ W j ≤ 5 → 2 ≤ hgt W j)) (he : c = 0 ∨ hgt W c = 1) : ∃ I', mcal mT (d + 4) 154 [.ref 100, .int (Int32.ofNat k), .int (sm n sh)] (G, I, L) = some (.inl (some (.int (clp (if c = 0 then 0 else ev W (fun j => if W j = 0 then N j else nmv sh n k (I (h + 11) k) (I (h + 13) k) (W j)) c 0)))), (G, I', L)) ∧ QuP bl I I' ∧ I' 216 = I 216 := by
  generalize hIB : va_up I bl (va_up (va_up (va_up (va_up (va_up (I bl) 1 (sh k)) 2 (I (h + 11) k)) 3 (sm n sh)) 4 (Int32.ofNat n)) 5 (I (h + 13) k)) = IB
  have o : ∀ a, a ≠ bl → IB a = I a := fun a ha => by rw [← hIB, up_ne ha]
  obtain ⟨S, v⟩ := c_value d (G := G) (I := IB) (L := L) (b := bl) (c := c) (W := W) (N := N) lW (by rw [o _ (by omega)]; exact hc) c2 (fun j hj => by rw [o _ (by omega)]; exact hW j hj) hh he
  have ee : ev W (fun j => if W j = 0 then N j else IB bl (W j)) c = ev W (fun j => if W j = 0 then N j else nmv sh n k (I (h + 11) k) (I (h + 13) k) (W j)) c := by
    refine ev_c c (fun j hj p => ?_)
    show (if W j = 0 then N j else IB bl (W j)) = (if W j = 0 then N j else nmv sh n k (I (h + 11) k) (I (h + 13) k) (W j))
    by_cases q : W j = 0
    · rw [if_pos q, if_pos q]
    · rw [if_neg q, if_neg q, ← hIB, up_eq]
      unfold nmv
      obtain e | e | e | e | e : W j = 1 ∨ W j = 2 ∨ W j = 3 ∨ W j = 4 ∨ W j = 5 := by omega
      · rw [e, up_ne (by decide), up_ne (by decide), up_ne (by decide), up_ne (by decide), up_eq, if_pos rfl]
      · rw [e, up_ne (by decide), up_ne (by decide), up_ne (by decide), up_eq, if_neg (by decide), if_pos rfl]
      · rw [e, up_ne (by decide), up_ne (by decide), up_eq, if_neg (by decide), if_neg (by decide), if_pos rfl]
      · rw [e, up_ne (by decide), up_eq, if_neg (by decide), if_neg (by decide), if_neg (by decide), if_pos rfl]
      · rw [e, up_eq, if_neg (by decide), if_neg (by decide), if_neg (by decide), if_neg (by decide)]
  rw [ee] at v
  have ms := c_shw (d + 2) (L := L) (I := I) lB lP lT (show k < 8 by omega)
  rw [hsh k hk] at ms
  have lW1 := lW.1
  refine ⟨stk IB (bl + 1) S 0, ?_, ⟨fun a h1 h2 h3 h4 => ?_, ?_⟩, ?_⟩
  · rw [q_X11_partOf_, e_X11_partOf_0]
    simp (disch := omega) only [↓vB lB, ↓vP lP, ↓mcI_of ms, ↓gk_t lW1, ↓vH lH, up2_e, up_eq, up_up, up_ne, s4]
    rw [hIB]
    simp only [↓mcI_of v]
    rfl
  · rw [stk_o (by omega) (by omega), o a h1]
  · rw [stk_c (by decide), o _ (by omega)]
  · rw [stk_o (by omega) (by omega), o 216 (by omega)]
end
section
variable {G : mG} {J : Nat → Nat → Int32} {K : Nat → Nat → Int64} {n k c : Nat} {W : Nat → Nat} {sh N : Nat → Int32}
theorem r_shw (e : Nat) {m er : Int32} (lM : LayM G 219) (hk : k < 8) (hm : K 225 (8 + k) = Int32.toInt64 m) (he : J 230 k = er) : mcal mT (e + 1) 235 [.ref 219, .int (Int32.ofNat k)] (G, J, K) = some (.inl (some (.int (shw m er))), (G, J, K)) := by
  have z100 : ¬ (100 : Nat) = 0 := by decide
  simp (disch := omega) only [q_X12_shown_, e_X12_shown_0, ↓vM lM, ixA, if_neg z100]
  rw [show K (219 + 6) (8 + k) = Int32.toInt64 m from hm, show J (219 + 11) k = er from he, Int64.toInt32_add, Int32.toInt32_toInt64]
  rfl
theorem r_nameOf (e : Nat) {w : Nat} (lM : LayM G 219) (s5 : J 220 164 = Int32.ofNat n) (s6 : n ≤ 8) (hk : k < n) (hm : ∀ i, i < n → mcal mT (e + 1) 235 [.ref 219, .int (Int32.ofNat i)] (G, J, K) = some (.inl (some (.int (sh i))), (G, J, K))) (h1 : 1 ≤ w) (h5 : w ≤ 5) : mcal mT (e + 2) 265 [.ref 219, .int (Int32.ofNat w), .int (Int32.ofNat k)] (G, J, K) = some (.inl (some (.int (nmv sh n k (J 220 (136 + k)) (J 220 (152 + k)) w))), (G, J, K)) := by
  have rd : mcal mT (e + 1) 200 [.ref 219] (G, J, K) = some (.inl (some (.int (Int32.ofNat n))), (G, J, K)) := by
    rw [← s5]; exact r_radiators e lM
  rw [q_X12_nameOf_, e_X12_nameOf_0]
  unfold nmv
  obtain rfl | rfl | rfl | rfl | rfl : w = 1 ∨ w = 2 ∨ w = 3 ∨ w = 4 ∨ w = 5 := by omega
  · rw [if_pos (by decide), if_pos rfl]
    simp only [↓vM lM, ↓mcI_of (hm k hk)]
  · rw [if_neg (by decide), e_X12_nameOf_11, if_pos (by decide), if_neg (by decide), if_pos rfl]
    simp (disch := omega) only [↓vM lM, show (136 : Int32) + Int32.ofNat k = Int32.ofNat (136 + k) from i_add 136 k]
  · rw [if_neg (by decide), e_X12_nameOf_11, if_neg (by decide), e_X12_nameOf_27, if_neg (by decide), e_X12_nameOf_37, if_neg (by decide), e_X12_nameOf_53, if_neg (by decide), if_neg (by decide), if_pos rfl]
    have lp := loopx (fun k (s : Int32) => f_X12_nameOf (e + 1) 58 [.ref 219, mU, mU, .int s, .int k] [] (G, J, K)) (fun j => sm j sh) n (fun k hk => by
      have nn : ¬ Int32.ofNat n ≤ Int32.ofNat k := fun p => by have := (i_le (by omega) (by omega)).mp p; omega
      show f_X12_nameOf (e + 1) 58 _ _ _ = f_X12_nameOf (e + 1) 58 _ _ _
      rw [e_X12_nameOf_58]
      simp only [↓vM lM, ↓mcI_of rd, if_neg nn, ↓mcI_of (hm k hk), i_one]
      rfl)
    refine Eq.trans lp ?_
    show f_X12_nameOf (e + 1) 58 _ _ _ = _
    rw [e_X12_nameOf_58]
    simp only [↓vM lM, ↓mcI_of rd, if_pos i_rf, e_X12_nameOf_82]
  · rw [if_neg (by decide), e_X12_nameOf_11, if_neg (by decide), e_X12_nameOf_27, if_pos (by decide), if_neg (by decide), if_neg (by decide), if_neg (by decide), if_pos rfl]
    simp only [↓vM lM, ↓mcI_of rd]
  · rw [if_neg (by decide), e_X12_nameOf_11, if_neg (by decide), e_X12_nameOf_27, if_neg (by decide), e_X12_nameOf_37, if_pos (by decide), if_neg (by decide), if_neg (by decide), if_neg (by decide), if_neg (by decide)]
    simp (disch := omega) only [↓vM lM, show (152 : Int32) + Int32.ofNat k = Int32.ofNat (152 + k) from i_add 152 k]
theorem r_partOf (e : Nat) {NM : Nat → Int32} (lM : LayM G 219) (hc : J 219 36 = Int32.ofNat c) (c2 : c ≤ 200) (hW : ∀ j, j < c → W j ≤ 9 ∧ J 235 j = Int32.ofNat (W j) ∧ J 236 j = N j) (hh : ∀ j, j < c → (W j ≤ 5 → hgt W j < 15) ∧ (¬ W j ≤ 5 → 2 ≤ hgt W j)) (he : c = 0 ∨ hgt W c = 1) (hn : ∀ T w, 1 ≤ w → w ≤ 5 → mcal mT (e + 2) 265 [.ref 219, .int (Int32.ofNat w), .int (Int32.ofNat k)] (G, va_up J 239 T, K) = some (.inl (some (.int (NM w))), (G, va_up J 239 T, K))) : ∃ T, mcal mT (e + 3) 266 [.ref 219, .int (Int32.ofNat k)] (G, J, K) = some (.inl (some (.int (clp (if c = 0 then 0 else ev W (fun j => if W j = 0 then N j else NM (W j)) c 0)))), (G, va_up J 239 T, K)) := by
  have hb := hgt_b hh
  have z9 : ∀ T, va_up J 239 T 219 = J 219 := fun T => up_ne (by decide)
  have z5 : ∀ T, va_up J 239 T 235 = J 235 := fun T => up_ne (by decide)
  have z6 : ∀ T, va_up J 239 T 236 = J 236 := fun T => up_ne (by decide)
  have lp : ∀ m j, j + m = c → ∀ S, (∀ i, i < hgt W j → S i = ev W (fun j => if W j = 0 then N j else NM (W j)) j i) → ∃ S', (∀ i, i < hgt W c → S' i = ev W (fun j => if W j = 0 then N j else NM (W j)) c i) ∧ f_X12_partOf (e + 2) 13 [.ref 219, .int (Int32.ofNat k), .int (Int32.ofNat (hgt W j)), .int (Int32.ofNat j), mU, mU, mU] [] (G, va_up J 239 S, K) = f_X12_partOf (e + 2) 174 [.ref 219, mU, mU, mU, mU, mU, mU] [] (G, va_up J 239 S', K) := by
    intro m
    induction m with
    | zero =>
      intro j hj S hS
      have ej : j = c := by omega
      rw [ej] at hS ⊢
      refine ⟨S, hS, ?_⟩
      rw [e_X12_partOf_13]
      simp only [↓vM lM, z9, hc, if_pos i_rf]
    | succ m ih =>
      intro j hj S hS
      obtain ⟨w1, w2, w3⟩ := hW j (by omega)
      have nn : ¬ Int32.ofNat c ≤ Int32.ofNat j := fun p => by have := (i_le (by omega) (by omega)).mp p; omega
      have hj1 := (hh j (by omega))
      have h15 := hb j (by omega)
      by_cases p : W j ≤ 5
      · have p5 : ¬ (5 : Int32) < Int32.ofNat (W j) := fun q => by have := (i_lt (a := 5) (by decide) (by omega)).mp q; omega
        have lt := hj1.1 p
        have eh : hgt W (j + 1) = hgt W j + 1 := if_pos p
        have fin : ∀ v, f_X12_partOf (e + 2) 61 [.ref 219, .int (Int32.ofNat k), .int (Int32.ofNat (hgt W j)), .int (Int32.ofNat j), mU, mU, mU] [.int v, .int (Int32.ofNat (hgt W j)), .ref (219 + 20)] (G, va_up J 239 S, K) = f_X12_partOf (e + 2) 13 [.ref 219, .int (Int32.ofNat k), .int (Int32.ofNat (hgt W (j + 1))), .int (Int32.ofNat (j + 1)), mU, mU, mU] [] (G, va_up J 239 (va_up S (hgt W j) v), K) := by
          intro v
          rw [e_X12_partOf_61]
          simp (disch := omega) only [↓vM lM, e_X12_partOf_168, i_one]
          rw [show up2 (va_up J 239 S) (219 + 20) (hgt W j) v = va_up J 239 (va_up S (hgt W j) v) from by
            show va_up (va_up J 239 S) 239 (va_up (va_up J 239 S 239) (hgt W j) v) = _
            rw [up_eq, up_up], eh]
        have st : f_X12_partOf (e + 2) 13 [.ref 219, .int (Int32.ofNat k), .int (Int32.ofNat (hgt W j)), .int (Int32.ofNat j), mU, mU, mU] [] (G, va_up J 239 S, K) = f_X12_partOf (e + 2) 13 [.ref 219, .int (Int32.ofNat k), .int (Int32.ofNat (hgt W (j + 1))), .int (Int32.ofNat (j + 1)), mU, mU, mU] [] (G, va_up J 239 (va_up S (hgt W j) (if W j = 0 then N j else NM (W j))), K) := by
          rw [e_X12_partOf_13]
          by_cases q : W j = 0
          · have q0 : Int32.ofNat (W j) = 0 := by rw [q]; rfl
            simp (disch := omega) only [↓vM lM, z9, hc, if_neg nn, z5, w2, if_neg p5, if_pos q0, z6, w3]
            rw [if_pos q]
            exact fin _
          · have q0 : ¬ Int32.ofNat (W j) = 0 := fun t => q ((i_eq (b := 0) (by omega) (by decide)).mp t)
            simp (disch := omega) only [↓vM lM, z9, hc, if_neg nn, z5, w2, if_neg p5, if_neg q0, e_X12_partOf_54, ↓mcI_of (hn S (W j) (by omega) p)]
            rw [if_neg q]
            exact fin _
        obtain ⟨S', s1, s2⟩ := ih (j + 1) (by omega) (va_up S (hgt W j) (if W j = 0 then N j else NM (W j))) (fun i hi => by
          have ee : ev W (fun j => if W j = 0 then N j else NM (W j)) (j + 1) = va_up (ev W (fun j => if W j = 0 then N j else NM (W j)) j) (hgt W j) (if W j = 0 then N j else NM (W j)) := if_pos p
          rw [ee]
          by_cases q : i = hgt W j
          · rw [q, up_eq, up_eq]
          · rw [up_ne q, up_ne q]; exact hS i (by omega))
        exact ⟨S', s1, st.trans s2⟩
      · have p5 : (5 : Int32) < Int32.ofNat (W j) := (i_lt (a := 5) (by decide) (by omega)).mpr (by omega)
        have h2 := hj1.2 p
        obtain ⟨u, hu⟩ : ∃ u, hgt W j = u + 2 := ⟨hgt W j - 2, by omega⟩
        have eh : hgt W (j + 1) = u + 1 := by
          have : hgt W (j + 1) = hgt W j - 1 := if_neg p
          omega
        have m1 : Int32.ofNat (u + 2) + (-1) = Int32.ofNat (u + 1) := by rw [i_m1, i_pred]
        have fin : ∀ v, f_X12_partOf (e + 2) 167 [.ref 219, .int (Int32.ofNat k), .int (Int32.ofNat (u + 1)), .int (Int32.ofNat j), mU, mU, mU] [.int v, .int (Int32.ofNat u), .ref (219 + 20)] (G, va_up J 239 S, K) = f_X12_partOf (e + 2) 13 [.ref 219, .int (Int32.ofNat k), .int (Int32.ofNat (hgt W (j + 1))), .int (Int32.ofNat (j + 1)), mU, mU, mU] [] (G, va_up J 239 (va_up S u v), K) := by
          intro v
          rw [e_X12_partOf_167]
          simp (disch := omega) only [↓vM lM, e_X12_partOf_168, i_one]
          rw [show up2 (va_up J 239 S) (219 + 20) u v = va_up J 239 (va_up S u v) from by
            show va_up (va_up J 239 S) 239 (va_up (va_up J 239 S 239) u v) = _
            rw [up_eq, up_up], eh]
        have zS : ∀ T, va_up J 239 T 239 = T := fun T => up_eq
        have st : f_X12_partOf (e + 2) 13 [.ref 219, .int (Int32.ofNat k), .int (Int32.ofNat (hgt W j)), .int (Int32.ofNat j), mU, mU, mU] [] (G, va_up J 239 S, K) = f_X12_partOf (e + 2) 13 [.ref 219, .int (Int32.ofNat k), .int (Int32.ofNat (hgt W (j + 1))), .int (Int32.ofNat (j + 1)), mU, mU, mU] [] (G, va_up J 239 (va_up S u (opv (W j) (S u) (S (u + 1)))), K) := by
          rw [e_X12_partOf_13]
          simp (disch := omega) only [↓vM lM, z9, hc, if_neg nn, z5, w2, if_pos p5]
          rw [e_X12_partOf_68, hu, m1, i_pred]
          simp (disch := omega) only [↓vM lM, zS]
          rw [← fin]
          unfold opv
          obtain q | q | q | q : W j = 6 ∨ W j = 7 ∨ W j = 8 ∨ W j = 9 := by omega
          · rw [q, if_pos (by decide), if_pos rfl]
          · rw [q, if_neg (by decide), e_X12_partOf_111, if_pos (by decide), if_neg (by decide), if_pos rfl]
          · rw [q, if_neg (by decide), e_X12_partOf_111, if_neg (by decide), e_X12_partOf_126, if_pos (by decide), if_neg (by decide), if_neg (by decide), if_pos rfl]
          · rw [q, if_neg (by decide), e_X12_partOf_111, if_neg (by decide), e_X12_partOf_126, if_neg (by decide), e_X12_partOf_141, if_neg (show ¬ (9 : Nat) = 6 by decide), if_neg (show ¬ (9 : Nat) = 7 by decide), if_neg (show ¬ (9 : Nat) = 8 by decide)]
            by_cases z : S (u + 1) = 0
            · rw [if_pos z, if_pos z]
            · rw [if_neg z, if_neg z, e_X12_partOf_150]
              by_cases y : S (u + 1) = -1
              · rw [if_pos y, y, div_m1]
              · rw [if_neg y, e_X12_partOf_162, if_neg z]
        obtain ⟨S', s1, s2⟩ := ih (j + 1) (by omega) (va_up S u (opv (W j) (S u) (S (u + 1)))) (fun i hi => by
          have ee : ev W (fun j => if W j = 0 then N j else NM (W j)) (j + 1) = va_up (ev W (fun j => if W j = 0 then N j else NM (W j)) j) (hgt W j - 2) (opv (W j) (ev W (fun j => if W j = 0 then N j else NM (W j)) j (hgt W j - 2)) (ev W (fun j => if W j = 0 then N j else NM (W j)) j (hgt W j - 1))) := if_neg p
          rw [ee, hu, show u + 2 - 2 = u from rfl, show u + 2 - 1 = u + 1 from rfl, hS u (by omega), hS (u + 1) (by omega)]
          by_cases q : i = u
          · rw [q, up_eq, up_eq]
          · rw [up_ne q, up_ne q]; exact hS i (by omega))
        exact ⟨S', s1, st.trans s2⟩
  obtain ⟨S', s1, s2⟩ := lp c 0 (Nat.zero_add _) (J 239) (fun i hi => absurd hi (Nat.not_lt_zero _))
  rw [up_id] at s2
  rw [q_X12_partOf_, e_X12_partOf_0]
  by_cases c0 : c = 0
  · refine ⟨J 239, ?_⟩
    have e0 : Int32.ofNat c = 0 := by rw [c0]; rfl
    simp only [↓vM lM, hc, if_pos e0, if_pos c0, up_id]
    rfl
  · refine ⟨S', ?_⟩
    have e0 : ¬ Int32.ofNat c = 0 := fun t => c0 ((i_eq (b := 0) (by omega) (by decide)).mp t)
    have h1 : hgt W c = 1 := he.resolve_left c0
    have zS : ∀ T, va_up J 239 T 239 = T := fun T => up_eq
    have g0 : ∀ f, gx G (219 + 20) 20 0 f = f 0 := fun f => by
      show gx G (219 + 20) 20 (Int32.ofNat 0) f = f 0
      simp (disch := omega) only [↓vM lM]
    simp only [↓vM lM, hc, if_neg e0, if_neg c0, e_X12_partOf_9]
    refine Eq.trans s2 ?_
    rw [← s1 0 (by omega), clp_r, e_X12_partOf_174]
    simp only [↓vM lM, ↓g0, zS]
    by_cases c1 : 0 ≤ S' 0
    · rw [if_pos c1, if_pos c1, e_X12_partOf_187]
      simp only [↓vM lM, ↓g0, zS]
      by_cases c2 : S' 0 ≤ 1000000
      · rw [if_pos c2, if_pos c2, e_X12_partOf_205]
        simp only [↓vM lM, ↓g0, zS, e_X12_partOf_211]
      · rw [if_neg c2, if_neg c2, e_X12_partOf_211]
    · rw [if_neg c1, if_neg c1, e_X12_partOf_211]
end
