/-! fills, compare, the next opening of a tap -/
theorem c_fillI (d : Nat) {G : mG} {I : Nat → Nat → Int32} {L : Nat → Nat → Int64} {a n : Nat} (v : Int32) (hK : gK G a = 20) (hN : gN G a = n) (hn : n < 2147483648) : mcal mT (d + 1) 293 [.ref a, .int v] (G, I, L) = some (.inl none, (G, va_up I a (pre n (fun _ => v) (I a)), L)) := by
  rw [q_J7_fill_53178_, e_J7_fill_53178_0, gk_t hK, hN]
  have A := loopx (fun x (q : Nat → Nat → Int32) => f_J7_fill_53178 d 5 [.ref a, .int v, .int x, .int (Int32.ofNat n)] [] (G, q, L))
    (fun k => va_up I a (pre k (fun _ => v) (I a))) n (by
      intro k hk
      have e1 : ¬ Int32.ofNat n ≤ Int32.ofNat k := by rw [i_le (by omega) (by omega)]; omega
      rw [e_J7_fill_53178_5, if_neg e1, gx_t hK (by omega) (by omega)]
      simp only [up2_e, up_eq, up_up, i_one]
      rw [pre_s]
      rfl)
  simp only [pre_0, up_id] at A
  rw [A, e_J7_fill_53178_5, if_pos (by rw [i_le (by omega) (by omega)]; omega), e_J7_fill_53178_20]
theorem c_fillL (d : Nat) {G : mG} {I : Nat → Nat → Int32} {L : Nat → Nat → Int64} {a n : Nat} (v : Int64) (hK : gK G a = 21) (hN : gN G a = n) (hn : n < 2147483648) : mcal mT (d + 1) 292 [.ref a, .long v] (G, I, L) = some (.inl none, (G, I, va_up L a (pre n (fun _ => v) (L a)))) := by
  rw [q_J7_fill_d0a16_, e_J7_fill_d0a16_0, gk_t hK, hN]
  have A := loopx (fun x (q : Nat → Nat → Int64) => f_J7_fill_d0a16 d 6 [.ref a, .long v, mU, .int x, .int (Int32.ofNat n)] [] (G, I, q))
    (fun k => va_up L a (pre k (fun _ => v) (L a))) n (by
      intro k hk
      have e1 : ¬ Int32.ofNat n ≤ Int32.ofNat k := by rw [i_le (by omega) (by omega)]; omega
      rw [e_J7_fill_d0a16_6, if_neg e1, gx_t hK (by omega) (by omega)]
      simp only [up2_e, up_eq, up_up, i_one]
      rw [pre_s]
      rfl)
  simp only [pre_0, up_id] at A
  rw [A, e_J7_fill_d0a16_6, if_pos (by rw [i_le (by omega) (by omega)]; omega), e_J7_fill_d0a16_22]
def cmp3 (x y : Int32) : Int32 := if y ≤ x then (if x = y then 0 else 1) else -1
theorem c_compare (d : Nat) (x y : Int32) (h : mH) : mcal mT (d + 1) 289 [.int x, .int y] h = some (.inl (some (.int (cmp3 x y))), h) := by
  obtain ⟨G, I, L⟩ := h
  unfold cmp3
  simp only [q_J6_compare_7cf53_, e_J6_compare_7cf53_0, e_J6_compare_7cf53_9, e_J6_compare_7cf53_18, e_J6_compare_7cf53_19]
  by_cases c : y ≤ x
  · simp only [if_pos c]
    by_cases c2 : x = y
    · simp only [if_pos c2]
    · simp only [if_neg c2]
  · simp only [if_neg c]
def wth (I : Nat → Nat → Int32) (h t k sn : Nat) : Int32 := I (t + 1) sn - (if I (h + 12) k = 3 then (if ((I t 1 >>> (Int32.ofNat sn &&& 31)) &&& 1) = 0 then 0 else 300) else 0)
def nop (I : Nat → Nat → Int32) (h t u : Nat) (goal : Int32) (k sn : Nat) : Int32 :=
  if I (h + 12) k = 0 then I (t + 7) k else if ((I u 0 >>> (Int32.ofNat k &&& 31)) &&& 1) = 0 then
    (if I (h + 12) k = 2 then jmax 0 (jmin 16 (I (t + 7) k + cmp3 goal (wth I h t k sn) * 2)) else if goal - 20 ≤ wth I h t k sn then (if wth I h t k sn ≤ goal + 20 then I (t + 7) k else 0) else 16)
  else I (t + 7) k
theorem c_nextOpening (d : Nat) {G : mG} {I : Nat → Nat → Int32} {L : Nat → Nat → Int64} {p h s t u k sn : Nat} (goal : Int32) (hP : LayP G p h s t u) (hH : LayH G h) (hT : LayT G t) (hU : LayU G u) (hk : k < 8) (hs : I (u + 1) k = Int32.ofNat sn) (hs8 : sn < 8) : mcal mT (d + 2) 69 [.ref p, .int (Int32.ofNat k), .int goal] (G, I, L) = some (.inl (some (.int (nop I h t u goal k sn))), (G, I, L)) := by
  simp (disch := omega) only [q_X6_nextOpening_, e_X6_nextOpening_0, ↓vP hP, ↓vH hH, ↓vT hT, ↓vU hU, e_X6_nextOpening_40]
  unfold nop
  by_cases c1 : I (h + 12) k = 0
  · simp only [if_pos c1]
  by_cases c2 : ((I u 0 >>> (Int32.ofNat k &&& 31)) &&& 1) = 0
  · simp only [if_neg c1, if_pos c2]
    have key : ∀ w : Int32, f_X6_nextOpening (d + 1) 103 [mU, mU, .int goal, .int (I (t + 7) k), .int (I (h + 12) k), mU, mU, mU, mU] [.int w, .int (I (t + 1) sn)] (G, I, L) = some (.inl (some (.int (if I (h + 12) k = 2 then jmax 0 (jmin 16 (I (t + 7) k + cmp3 goal (I (t + 1) sn - w) * 2)) else if goal - 20 ≤ I (t + 1) sn - w then (if I (t + 1) sn - w ≤ goal + 20 then I (t + 7) k else 0) else 16))), (G, I, L)) := by
      intro w
      rw [e_X6_nextOpening_103]
      by_cases c : I (h + 12) k = 2
      · simp only [if_pos c, c_compare, mcI_v]
      · simp only [if_neg c, e_X6_nextOpening_136]
        by_cases c3 : goal - 20 ≤ I (t + 1) sn - w
        · simp only [if_pos c3, e_X6_nextOpening_148]
          by_cases c4 : I (t + 1) sn - w ≤ goal + 20
          · simp only [if_pos c4, e_X6_nextOpening_161, e_X6_nextOpening_162]
          · simp only [if_neg c4, e_X6_nextOpening_162]
        · simp only [if_neg c3]
    simp (disch := omega) only [e_X6_nextOpening_42, ↓vP hP, ↓vT hT, ↓vU hU, hs, wth]
    by_cases c5 : I (h + 12) k = 3
    · simp only [if_pos c5]
      by_cases c6 : ((I t 1 >>> (Int32.ofNat sn &&& 31)) &&& 1) = 0
      · simp (disch := omega) only [if_pos c6, e_X6_nextOpening_78, e_X6_nextOpening_79, ↓vP hP, ↓vT hT, if_true, e_X6_nextOpening_102]
        exact key 0
      · simp (disch := omega) only [if_neg c6, e_X6_nextOpening_79, ↓vP hP, ↓vT hT, if_neg (show ¬ (1 : Int32) = 0 by decide)]
        exact key 300
    · simp (disch := omega) only [if_neg c5, e_X6_nextOpening_78, e_X6_nextOpening_79, ↓vP hP, ↓vT hT, if_true, e_X6_nextOpening_102]
      exact key 0
  · simp only [if_neg c1, if_neg c2]
