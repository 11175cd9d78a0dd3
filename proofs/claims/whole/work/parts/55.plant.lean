/-! a plant's minute: rooms -/
theorem up_two {α : Type} {F : Nat → α} {a b : Nat} {v w v' w' : α} (h : a ≠ b) : va_up (va_up (va_up (va_up F a v) b w) a v') b w' = va_up (va_up F a v') b w' := by
  funext j
  by_cases q : j = b
  · rw [q, up_eq, up_eq]
  · rw [up_ne q, up_ne q]
    by_cases r : j = a
    · rw [r, up_eq, up_eq]
    · rw [up_ne r, up_ne r, up_ne q, up_ne r]
def bit (x k : Int32) : Int32 := if ((x >>> (k &&& 31)) &&& 1) = 0 then 0 else 1
theorem c_hasBit (d : Nat) (x k : Int32) (h : mH) : mcal mT (d + 1) 172 [.int x, .int k] h = some (.inl (some (.int (bit x k))), h) := by
  obtain ⟨G, I, L⟩ := h
  unfold bit
  by_cases c : ((x >>> (k &&& 31)) &&& 1) = 0
  · simp only [q_X11_hasBit_, e_X11_hasBit_0, e_X11_hasBit_12, e_X11_hasBit_13, if_pos c, mb0]
  · simp only [q_X11_hasBit_, e_X11_hasBit_0, e_X11_hasBit_13, if_neg c, mb1]
def snn (I : Nat → Nat → Int32) (h : Nat) (hr : Int32) (k : Nat) : Int32 := if hr < I (h + 7) k then 0 else if I (h + 8) k ≤ hr then 0 else I (h + 6) k
theorem c_sunAt (d : Nat) {G : mG} {I : Nat → Nat → Int32} {L : Nat → Nat → Int64} {h k : Nat} (hr : Int32) (hH : LayH G h) (hk : k < 8) : mcal mT (d + 1) 50 [.ref h, .int (Int32.ofNat k), .int hr] (G, I, L) = some (.inl (some (.int (snn I h hr k))), (G, I, L)) := by
  unfold snn
  simp (disch := omega) only [q_X4_sunAt_, e_X4_sunAt_0, e_X4_sunAt_29, e_X4_sunAt_30, ↓vH hH]
  by_cases c1 : hr < I (h + 7) k
  · simp only [if_pos c1]
  · by_cases c2 : I (h + 8) k ≤ hr
    · simp only [if_neg c1, if_pos c2]
    · simp only [if_neg c1, if_neg c2]
theorem jmax1 (x : Int32) : ¬ jmax 1 x = 0 := by
  unfold jmax
  by_cases c : 1 < x
  · rw [if_pos c]; intro q; rw [q] at c; exact absurd c (by decide)
  · rw [if_neg c]; decide
def wrm (I : Nat → Nat → Int32) (h t j : Nat) : Int32 := jmax (-9999) (jmin 9999 (I (t + 1) j + (I (t + 5) j + I (t + 6) j - I (t + 2) j - I (t + 3) j - I (t + 4) j) / jmax 1 (I (h + 1) j)))
theorem c_warmRooms (d : Nat) {G : mG} {I : Nat → Nat → Int32} {L : Nat → Nat → Int64} {p h s t u n : Nat} (hP : LayP G p h s t u) (hH : LayH G h) (hT : LayT G t) (h1 : h + 14 ≤ t) (hn : I h 1 = Int32.ofNat n) (hn8 : n ≤ 8) : mcal mT (d + 1) 66 [.ref p] (G, I, L) = some (.inl none, (G, va_up I (t + 1) (pre n (wrm I h t) (I (t + 1))), L)) := by
  simp only [q_X6_warmRooms_, e_X6_warmRooms_0]
  have A := loopx (fun x (q : Nat → Nat → Int32) => f_X6_warmRooms d 2 [.ref p, .int x, mU, mU, mU] [] (G, q, L))
    (fun k => va_up I (t + 1) (pre k (wrm I h t) (I (t + 1)))) n (by
      intro k hk
      have hk8 : k < 8 := by omega
      have e1 : ¬ Int32.ofNat n ≤ Int32.ofNat k := by rw [i_le (by omega) (by omega)]; omega
      rw [e_X6_warmRooms_2]
      simp (disch := omega) only [↓vP hP, ↓vH hH, ↓vT hT, hn, if_neg e1, if_neg (jmax1 _), up2_e, up_eq, up_ne, up_up, pre_ge, i_one]
      rw [pre_s]
      rfl)
  simp only [pre_0, up_id] at A
  rw [A]
  have e1 : Int32.ofNat n ≤ Int32.ofNat n := by rw [i_le (by omega) (by omega)]; omega
  rw [e_X6_warmRooms_2]
  simp (disch := omega) only [↓vP hP, ↓vH hH, if_pos e1, e_X6_warmRooms_121, up_ne, hn]
def lou (I : Nat → Nat → Int32) (h t : Nat) (w : Int32) (j : Nat) : Int32 := I (h + 4) j * (I (t + 1) j - w) / 100
def lwi (I : Nat → Nat → Int32) (h t : Nat) (w : Int32) (j : Nat) : Int32 := if bit (I t 1) (Int32.ofNat j) = 0 then 0 else I (h + 5) j * (I (t + 1) j - w) / 100
theorem c_loseOutside (d : Nat) {G : mG} {I : Nat → Nat → Int32} {L : Nat → Nat → Int64} {p h s t u n : Nat} (w : Int32) (hP : LayP G p h s t u) (hH : LayH G h) (hT : LayT G t) (h1 : h + 14 ≤ t) (hn : I h 1 = Int32.ofNat n) (hn8 : n ≤ 8) : mcal mT (d + 2) 64 [.ref p, .int w] (G, I, L) = some (.inl none, (G, va_up (va_up I (t + 3) (pre n (lou I h t w) (I (t + 3)))) (t + 4) (pre n (lwi I h t w) (I (t + 4))), L)) := by
  simp only [q_X6_loseOutside_, e_X6_loseOutside_0]
  have A := loopx (fun x (q : Nat → Nat → Int32) => f_X6_loseOutside (d + 1) 2 [.ref p, .int w, .int x, mU, mU] [] (G, q, L))
    (fun k => va_up (va_up I (t + 3) (pre k (lou I h t w) (I (t + 3)))) (t + 4) (pre k (lwi I h t w) (I (t + 4)))) n (by
      intro k hk
      have hk8 : k < 8 := by omega
      have e1 : ¬ Int32.ofNat n ≤ Int32.ofNat k := by rw [i_le (by omega) (by omega)]; omega
      rw [e_X6_loseOutside_2]
      by_cases c : bit (I t 1) (Int32.ofNat k) = 0
      · simp (disch := omega) only [↓vP hP, ↓vH hH, ↓vT hT, hn, if_neg e1, if_neg (show ¬ (100 : Nat) = 0 by decide), c_hasBit, mcI_v, if_pos c, e_X6_loseOutside_91, e_X6_loseOutside_92, up2_e, up_eq, up_ne, up_two, i_one]
        rw [pre_s, pre_s]
        · exact (if_pos c).symm
        · rfl
      · simp (disch := omega) only [↓vP hP, ↓vH hH, ↓vT hT, hn, if_neg e1, if_neg (show ¬ (100 : Nat) = 0 by decide), c_hasBit, mcI_v, if_neg c, e_X6_loseOutside_92, up2_e, up_eq, up_ne, up_two, i_one]
        rw [pre_s, pre_s]
        · exact (if_neg c).symm
        · rfl)
  simp only [pre_0, up_id] at A
  have z : va_up I (t + 4) (I (t + 4)) = I := up_id
  rw [A]
  have e1 : Int32.ofNat n ≤ Int32.ofNat n := by rw [i_le (by omega) (by omega)]; omega
  rw [e_X6_loseOutside_2]
  simp (disch := omega) only [↓vP hP, ↓vH hH, if_pos e1, e_X6_loseOutside_99, up_ne, hn]
