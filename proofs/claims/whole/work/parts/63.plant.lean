/-! things that are wrong -/
def tap (I : Nat → Nat → Int32) (h n k : Nat) : Int32 := if k < n then (if I (h + 12) k = 0 then 0 else 1) else 0
theorem c_hasTap (d : Nat) {G : mG} {I : Nat → Nat → Int32} {L : Nat → Nat → Int64} {h n k : Nat} (hH : LayH G h) (hn : I h 10 = Int32.ofNat n) (hn8 : n ≤ 8) (hk : k < 2147483648) : mcal mT (d + 1) 47 [.ref h, .int (Int32.ofNat k)] (G, I, L) = some (.inl (some (.int (tap I h n k))), (G, I, L)) := by
  unfold tap
  simp only [q_X4_hasTap_, e_X4_hasTap_0, e_X4_hasTap_25, e_X4_hasTap_26, ↓vH hH, if_neg (i_neg hk), hn, mb0, mb1]
  by_cases c : k < n
  · have e1 : ¬ Int32.ofNat n ≤ Int32.ofNat k := by rw [i_le (by omega) (by omega)]; omega
    by_cases c2 : I (h + 12) k = 0
    · simp (disch := omega) only [if_pos c, if_neg e1, ↓vH hH, if_pos c2]
    · simp (disch := omega) only [if_pos c, if_neg e1, ↓vH hH, if_neg c2]
  · have e1 : Int32.ofNat n ≤ Int32.ofNat k := by rw [i_le (by omega) (by omega)]; omega
    simp only [if_neg c, if_pos e1]
def wbt (x k b : Int32) : Int32 := if b = 0 then x &&& ((1 <<< (k &&& 31)) ^^^ (-1)) else x ||| (1 <<< (k &&& 31))
theorem c_withBit (d : Nat) (x k b : Int32) (h : mH) : mcal mT (d + 1) 173 [.int x, .int k, .int b] h = some (.inl (some (.int (wbt x k b))), h) := by
  obtain ⟨G, I, L⟩ := h
  unfold wbt
  simp only [q_X11_withBit_, e_X11_withBit_0, e_X11_withBit_12, e_X11_withBit_19]
  by_cases c : b = 0
  · simp only [if_pos c]
  · simp only [if_neg c]
theorem c_holdTap (d : Nat) {G : mG} {I : Nat → Nat → Int32} {L : Nat → Nat → Int64} {p h s t u k : Nat} (o : Int32) (hP : LayP G p h s t u) (hT : LayT G t) (hU : LayU G u) (h3 : t + 14 ≤ u) (hk : k < 8) : mcal mT (d + 2) 71 [.ref p, .int (Int32.ofNat k), .int o] (G, I, L) = some (.inl none, (G, up2 (up2 I (t + 7) k o) u 0 (wbt (I u 0) (Int32.ofNat k) 1), L)) := by
  simp (disch := omega) only [q_X6_holdTap_, e_X6_holdTap_0, ↓vP hP, ↓vT hT, ↓vU hU, c_withBit, mcI_v, up2_e, up_ne]
theorem c_exchangeSight (d : Nat) {G : mG} {I : Nat → Nat → Int32} {L : Nat → Nat → Int64} {p h s t u k : Nat} (hP : LayP G p h s t u) (hU : LayU G u) (hk : k + 1 < 8) : mcal mT (d + 1) 72 [.ref p, .int (Int32.ofNat k)] (G, I, L) = some (.inl none, (G, up2 (up2 I (u + 1) k (I (u + 1) (k + 1))) (u + 1) (k + 1) (I (u + 1) k), L)) := by
  simp (disch := omega) only [q_X6_exchangeSight_, e_X6_exchangeSight_0, ↓vP hP, ↓vU hU, i_one]
