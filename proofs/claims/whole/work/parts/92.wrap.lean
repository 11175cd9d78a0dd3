/-! the law's wrappers -/
theorem gx_o {G : mG} {o : Nat} {f : Nat → Option mO} (k : gK G o = 21) (n : gN G o = 1) : gx G o 21 0 f = f 0 := gx_t (j := 0) k (by rw [n]; decide) (by decide)
theorem w_house (d : Nat) {G G1 : mG} {I I1 : Nat → Nat → Int32} {L L1 : Nat → Nat → Int64} {x o : Nat} {x1 v : Int32} (hc : mcal mT d 101 [.ref x, .int x1] (G, I, L) = some (.inl (some (.int v)), (G1, I1, L1))) (k : gK G x = 12) (k1 : gK G1 o = 21) (n1 : gN G1 o = 1) : mcal mT (d + 1) 294 [.ref x, .int x1, .ref o] (G, I, L) = some (.inl (some (.int 0)), (G1, I1, up2 L1 o 0 (Int32.toInt64 v))) := by
  rw [q_L_house_, e_L_house_0, gk_t k, hc, mcI_v]
  refine (gx_o k1 n1).trans ?_
  rw [e_L_house_15]
theorem w_house_A (d : Nat) {G G1 : mG} {I I1 : Nat → Nat → Int32} {L L1 : Nat → Nat → Int64} {x o : Nat} {x1 : Int32} (hc : mcal mT d 101 [.ref x, .int x1] (G, I, L) = some (.inr "java/lang/IllegalArgumentException", (G1, I1, L1))) (k : gK G x = 12) : mcal mT (d + 1) 294 [.ref x, .int x1, .ref o] (G, I, L) = some (.inl (some (.int 1)), (gC G1, I1, L1)) := by
  rw [q_L_house_, e_L_house_0, gk_t k, hc, mcI_e]
  simp [mexc, mhand, h_L_house, mlook, m_L_house, mnorm, e_L_house_12]
theorem w_words (d : Nat) {G G1 : mG} {I I1 : Nat → Nat → Int32} {L L1 : Nat → Nat → Int64} {x o : Nat} {x1 v : Int32} (hc : mcal mT d 102 [.ref x, .int x1] (G, I, L) = some (.inl (some (.int v)), (G1, I1, L1))) (k : gK G x = 12) (k1 : gK G1 o = 21) (n1 : gN G1 o = 1) : mcal mT (d + 1) 295 [.ref x, .int x1, .ref o] (G, I, L) = some (.inl (some (.int 0)), (G1, I1, up2 L1 o 0 (Int32.toInt64 v))) := by
  rw [q_L_words_, e_L_words_0, gk_t k, hc, mcI_v]
  refine (gx_o k1 n1).trans ?_
  rw [e_L_words_15]
theorem w_words_A (d : Nat) {G G1 : mG} {I I1 : Nat → Nat → Int32} {L L1 : Nat → Nat → Int64} {x o : Nat} {x1 : Int32} (hc : mcal mT d 102 [.ref x, .int x1] (G, I, L) = some (.inr "java/lang/IllegalArgumentException", (G1, I1, L1))) (k : gK G x = 12) : mcal mT (d + 1) 295 [.ref x, .int x1, .ref o] (G, I, L) = some (.inl (some (.int 1)), (gC G1, I1, L1)) := by
  rw [q_L_words_, e_L_words_0, gk_t k, hc, mcI_e]
  simp [mexc, mhand, h_L_words, mlook, m_L_words, mnorm, e_L_words_12]
theorem w_told (d : Nat) {G G1 : mG} {I I1 : Nat → Nat → Int32} {L L1 : Nat → Nat → Int64} {x o : Nat} {x1 v : Int32} (hc : mcal mT d 106 [.ref x, .int x1] (G, I, L) = some (.inl (some (.int v)), (G1, I1, L1))) (k : gK G x = 12) (k1 : gK G1 o = 21) (n1 : gN G1 o = 1) : mcal mT (d + 1) 296 [.ref x, .int x1, .ref o] (G, I, L) = some (.inl (some (.int 0)), (G1, I1, up2 L1 o 0 (Int32.toInt64 v))) := by
  rw [q_L_told_, e_L_told_0, gk_t k, hc, mcI_v]
  refine (gx_o k1 n1).trans ?_
  rw [e_L_told_15]
theorem w_told_A (d : Nat) {G G1 : mG} {I I1 : Nat → Nat → Int32} {L L1 : Nat → Nat → Int64} {x o : Nat} {x1 : Int32} (hc : mcal mT d 106 [.ref x, .int x1] (G, I, L) = some (.inr "java/lang/IllegalArgumentException", (G1, I1, L1))) (k : gK G x = 12) : mcal mT (d + 1) 296 [.ref x, .int x1, .ref o] (G, I, L) = some (.inl (some (.int 1)), (gC G1, I1, L1)) := by
  rw [q_L_told_, e_L_told_0, gk_t k, hc, mcI_e]
  simp [mexc, mhand, h_L_told, mlook, m_L_told, mnorm, e_L_told_12]
theorem w_room (d : Nat) {G G1 : mG} {I I1 : Nat → Nat → Int32} {L L1 : Nat → Nat → Int64} {x o : Nat} {x1 x2 v : Int32} (hc : mcal mT d 107 [.ref x, .int x1, .int x2] (G, I, L) = some (.inl (some (.int v)), (G1, I1, L1))) (k : gK G x = 12) (k1 : gK G1 o = 21) (n1 : gN G1 o = 1) : mcal mT (d + 1) 297 [.ref x, .int x1, .int x2, .ref o] (G, I, L) = some (.inl (some (.int 0)), (G1, I1, up2 L1 o 0 (Int32.toInt64 v))) := by
  rw [q_L_room_, e_L_room_0, gk_t k, hc, mcI_v]
  refine (gx_o k1 n1).trans ?_
  rw [e_L_room_21]
theorem w_room_I (d : Nat) {G G1 : mG} {I I1 : Nat → Nat → Int32} {L L1 : Nat → Nat → Int64} {x o : Nat} {x1 x2 : Int32} (hc : mcal mT d 107 [.ref x, .int x1, .int x2] (G, I, L) = some (.inr "java/lang/IndexOutOfBoundsException", (G1, I1, L1))) (k : gK G x = 12) : mcal mT (d + 1) 297 [.ref x, .int x1, .int x2, .ref o] (G, I, L) = some (.inl (some (.int 1)), (gC G1, I1, L1)) := by
  rw [q_L_room_, e_L_room_0, gk_t k, hc, mcI_e]
  simp [mexc, mhand, h_L_room, mlook, m_L_room, mnorm, e_L_room_13]
theorem w_room_A (d : Nat) {G G1 : mG} {I I1 : Nat → Nat → Int32} {L L1 : Nat → Nat → Int64} {x o : Nat} {x1 x2 : Int32} (hc : mcal mT d 107 [.ref x, .int x1, .int x2] (G, I, L) = some (.inr "java/lang/IllegalArgumentException", (G1, I1, L1))) (k : gK G x = 12) : mcal mT (d + 1) 297 [.ref x, .int x1, .int x2, .ref o] (G, I, L) = some (.inl (some (.int 2)), (gC G1, I1, L1)) := by
  rw [q_L_room_, e_L_room_0, gk_t k, hc, mcI_e]
  simp [mexc, mhand, h_L_room, mlook, m_L_room, mnorm, e_L_room_17]
theorem w_wall (d : Nat) {G G1 : mG} {I I1 : Nat → Nat → Int32} {L L1 : Nat → Nat → Int64} {x o : Nat} {x1 x2 v : Int32} (hc : mcal mT d 108 [.ref x, .int x1, .int x2] (G, I, L) = some (.inl (some (.int v)), (G1, I1, L1))) (k : gK G x = 12) (k1 : gK G1 o = 21) (n1 : gN G1 o = 1) : mcal mT (d + 1) 298 [.ref x, .int x1, .int x2, .ref o] (G, I, L) = some (.inl (some (.int 0)), (G1, I1, up2 L1 o 0 (Int32.toInt64 v))) := by
  rw [q_L_wall_, e_L_wall_0, gk_t k, hc, mcI_v]
  refine (gx_o k1 n1).trans ?_
  rw [e_L_wall_17]
theorem w_wall_I (d : Nat) {G G1 : mG} {I I1 : Nat → Nat → Int32} {L L1 : Nat → Nat → Int64} {x o : Nat} {x1 x2 : Int32} (hc : mcal mT d 108 [.ref x, .int x1, .int x2] (G, I, L) = some (.inr "java/lang/IndexOutOfBoundsException", (G1, I1, L1))) (k : gK G x = 12) : mcal mT (d + 1) 298 [.ref x, .int x1, .int x2, .ref o] (G, I, L) = some (.inl (some (.int 1)), (gC G1, I1, L1)) := by
  rw [q_L_wall_, e_L_wall_0, gk_t k, hc, mcI_e]
  simp [mexc, mhand, h_L_wall, mlook, m_L_wall, mnorm, e_L_wall_13]
theorem w_radiator (d : Nat) {G G1 : mG} {I I1 : Nat → Nat → Int32} {L L1 : Nat → Nat → Int64} {x o : Nat} {x1 x2 v : Int32} (hc : mcal mT d 109 [.ref x, .int x1, .int x2] (G, I, L) = some (.inl (some (.int v)), (G1, I1, L1))) (k : gK G x = 12) (k1 : gK G1 o = 21) (n1 : gN G1 o = 1) : mcal mT (d + 1) 299 [.ref x, .int x1, .int x2, .ref o] (G, I, L) = some (.inl (some (.int 0)), (G1, I1, up2 L1 o 0 (Int32.toInt64 v))) := by
  rw [q_L_radiator_, e_L_radiator_0, gk_t k, hc, mcI_v]
  refine (gx_o k1 n1).trans ?_
  rw [e_L_radiator_21]
theorem w_radiator_N (d : Nat) {G G1 : mG} {I I1 : Nat → Nat → Int32} {L L1 : Nat → Nat → Int64} {x o : Nat} {x1 x2 : Int32} (hc : mcal mT d 109 [.ref x, .int x1, .int x2] (G, I, L) = some (.inr "java/util/NoSuchElementException", (G1, I1, L1))) (k : gK G x = 12) : mcal mT (d + 1) 299 [.ref x, .int x1, .int x2, .ref o] (G, I, L) = some (.inl (some (.int 1)), (gC G1, I1, L1)) := by
  rw [q_L_radiator_, e_L_radiator_0, gk_t k, hc, mcI_e]
  simp [mexc, mhand, h_L_radiator, mlook, m_L_radiator, mnorm, e_L_radiator_13]
theorem w_radiator_A (d : Nat) {G G1 : mG} {I I1 : Nat → Nat → Int32} {L L1 : Nat → Nat → Int64} {x o : Nat} {x1 x2 : Int32} (hc : mcal mT d 109 [.ref x, .int x1, .int x2] (G, I, L) = some (.inr "java/lang/IllegalArgumentException", (G1, I1, L1))) (k : gK G x = 12) : mcal mT (d + 1) 299 [.ref x, .int x1, .int x2, .ref o] (G, I, L) = some (.inl (some (.int 2)), (gC G1, I1, L1)) := by
  rw [q_L_radiator_, e_L_radiator_0, gk_t k, hc, mcI_e]
  simp [mexc, mhand, h_L_radiator, mlook, m_L_radiator, mnorm, e_L_radiator_17]
theorem w_out (d : Nat) {G G1 : mG} {I I1 : Nat → Nat → Int32} {L L1 : Nat → Nat → Int64} {x o : Nat} {x1 x2 v : Int32} (hc : mcal mT d 117 [.ref x, .int x1, .int x2] (G, I, L) = some (.inl (some (.int v)), (G1, I1, L1))) (k : gK G x = 12) (k1 : gK G1 o = 21) (n1 : gN G1 o = 1) : mcal mT (d + 1) 300 [.ref x, .int x1, .int x2, .ref o] (G, I, L) = some (.inl (some (.int 0)), (G1, I1, up2 L1 o 0 (Int32.toInt64 v))) := by
  rw [q_L_out_, e_L_out_0, gk_t k, hc, mcI_v]
  refine (gx_o k1 n1).trans ?_
  rw [e_L_out_17]
theorem w_out_A (d : Nat) {G G1 : mG} {I I1 : Nat → Nat → Int32} {L L1 : Nat → Nat → Int64} {x o : Nat} {x1 x2 : Int32} (hc : mcal mT d 117 [.ref x, .int x1, .int x2] (G, I, L) = some (.inr "java/lang/IllegalArgumentException", (G1, I1, L1))) (k : gK G x = 12) : mcal mT (d + 1) 300 [.ref x, .int x1, .int x2, .ref o] (G, I, L) = some (.inl (some (.int 1)), (gC G1, I1, L1)) := by
  rw [q_L_out_, e_L_out_0, gk_t k, hc, mcI_e]
  simp [mexc, mhand, h_L_out, mlook, m_L_out, mnorm, e_L_out_13]
theorem w_screw (d : Nat) {G G1 : mG} {I I1 : Nat → Nat → Int32} {L L1 : Nat → Nat → Int64} {x o : Nat} {x1 x2 v : Int32} (hc : mcal mT d 118 [.ref x, .int x1, .int x2] (G, I, L) = some (.inl (some (.int v)), (G1, I1, L1))) (k : gK G x = 12) (k1 : gK G1 o = 21) (n1 : gN G1 o = 1) : mcal mT (d + 1) 301 [.ref x, .int x1, .int x2, .ref o] (G, I, L) = some (.inl (some (.int 0)), (G1, I1, up2 L1 o 0 (Int32.toInt64 v))) := by
  rw [q_L_screw_, e_L_screw_0, gk_t k, hc, mcI_v]
  refine (gx_o k1 n1).trans ?_
  rw [e_L_screw_21]
theorem w_screw_N (d : Nat) {G G1 : mG} {I I1 : Nat → Nat → Int32} {L L1 : Nat → Nat → Int64} {x o : Nat} {x1 x2 : Int32} (hc : mcal mT d 118 [.ref x, .int x1, .int x2] (G, I, L) = some (.inr "java/util/NoSuchElementException", (G1, I1, L1))) (k : gK G x = 12) : mcal mT (d + 1) 301 [.ref x, .int x1, .int x2, .ref o] (G, I, L) = some (.inl (some (.int 1)), (gC G1, I1, L1)) := by
  rw [q_L_screw_, e_L_screw_0, gk_t k, hc, mcI_e]
  simp [mexc, mhand, h_L_screw, mlook, m_L_screw, mnorm, e_L_screw_13]
theorem w_screw_A (d : Nat) {G G1 : mG} {I I1 : Nat → Nat → Int32} {L L1 : Nat → Nat → Int64} {x o : Nat} {x1 x2 : Int32} (hc : mcal mT d 118 [.ref x, .int x1, .int x2] (G, I, L) = some (.inr "java/lang/IllegalArgumentException", (G1, I1, L1))) (k : gK G x = 12) : mcal mT (d + 1) 301 [.ref x, .int x1, .int x2, .ref o] (G, I, L) = some (.inl (some (.int 2)), (gC G1, I1, L1)) := by
  rw [q_L_screw_, e_L_screw_0, gk_t k, hc, mcI_e]
  simp [mexc, mhand, h_L_screw, mlook, m_L_screw, mnorm, e_L_screw_17]
theorem w_open (d : Nat) {G G1 : mG} {I I1 : Nat → Nat → Int32} {L L1 : Nat → Nat → Int64} {x o : Nat} {x1 x2 v : Int32} (hc : mcal mT d 119 [.ref x, .int x1, .int x2] (G, I, L) = some (.inl (some (.int v)), (G1, I1, L1))) (k : gK G x = 12) (k1 : gK G1 o = 21) (n1 : gN G1 o = 1) : mcal mT (d + 1) 302 [.ref x, .int x1, .int x2, .ref o] (G, I, L) = some (.inl (some (.int 0)), (G1, I1, up2 L1 o 0 (if v = 0 then 0 else 1))) := by
  rw [q_L_open_, e_L_open_0, gk_t k, hc, mcI_v]
  by_cases c : v = 0
  · rw [if_pos c, if_pos c, e_L_open_15, e_L_open_16]
    refine (gx_o k1 n1).trans ?_
    rw [e_L_open_24]
  · rw [if_neg c, if_neg c, e_L_open_16]
    refine (gx_o k1 n1).trans ?_
    rw [e_L_open_24]
theorem w_open_I (d : Nat) {G G1 : mG} {I I1 : Nat → Nat → Int32} {L L1 : Nat → Nat → Int64} {x o : Nat} {x1 x2 : Int32} (hc : mcal mT d 119 [.ref x, .int x1, .int x2] (G, I, L) = some (.inr "java/lang/IndexOutOfBoundsException", (G1, I1, L1))) (k : gK G x = 12) : mcal mT (d + 1) 302 [.ref x, .int x1, .int x2, .ref o] (G, I, L) = some (.inl (some (.int 1)), (gC G1, I1, L1)) := by
  rw [q_L_open_, e_L_open_0, gk_t k, hc, mcI_e]
  simp [mexc, mhand, h_L_open, mlook, m_L_open, mnorm, e_L_open_20]
theorem w_air (d : Nat) {G G1 : mG} {I I1 : Nat → Nat → Int32} {L L1 : Nat → Nat → Int64} {x o : Nat} {x1 x2 v : Int32} (hc : mcal mT d 120 [.ref x, .int x1, .int x2] (G, I, L) = some (.inl (some (.int v)), (G1, I1, L1))) (k : gK G x = 12) (k1 : gK G1 o = 21) (n1 : gN G1 o = 1) : mcal mT (d + 1) 303 [.ref x, .int x1, .int x2, .ref o] (G, I, L) = some (.inl (some (.int 0)), (G1, I1, up2 L1 o 0 (if v = 0 then 0 else 1))) := by
  rw [q_L_air_, e_L_air_0, gk_t k, hc, mcI_v]
  by_cases c : v = 0
  · rw [if_pos c, if_pos c, e_L_air_15, e_L_air_16]
    refine (gx_o k1 n1).trans ?_
    rw [e_L_air_24]
  · rw [if_neg c, if_neg c, e_L_air_16]
    refine (gx_o k1 n1).trans ?_
    rw [e_L_air_24]
theorem w_air_A (d : Nat) {G G1 : mG} {I I1 : Nat → Nat → Int32} {L L1 : Nat → Nat → Int64} {x o : Nat} {x1 x2 : Int32} (hc : mcal mT d 120 [.ref x, .int x1, .int x2] (G, I, L) = some (.inr "java/lang/IllegalArgumentException", (G1, I1, L1))) (k : gK G x = 12) : mcal mT (d + 1) 303 [.ref x, .int x1, .int x2, .ref o] (G, I, L) = some (.inl (some (.int 1)), (gC G1, I1, L1)) := by
  rw [q_L_air_, e_L_air_0, gk_t k, hc, mcI_e]
  simp [mexc, mhand, h_L_air, mlook, m_L_air, mnorm, e_L_air_20]
theorem w_night (d : Nat) {G G1 : mG} {I I1 : Nat → Nat → Int32} {L L1 : Nat → Nat → Int64} {x o : Nat} {x1 x2 x3 v : Int32} (hc : mcal mT d 121 [.ref x, .int x1, .int x2, .int x3] (G, I, L) = some (.inl (some (.int v)), (G1, I1, L1))) (k : gK G x = 12) (k1 : gK G1 o = 21) (n1 : gN G1 o = 1) : mcal mT (d + 1) 304 [.ref x, .int x1, .int x2, .int x3, .ref o] (G, I, L) = some (.inl (some (.int 0)), (G1, I1, up2 L1 o 0 (Int32.toInt64 v))) := by
  rw [q_L_night_, e_L_night_0, gk_t k, hc, mcI_v]
  refine (gx_o k1 n1).trans ?_
  rw [e_L_night_19]
theorem w_night_A (d : Nat) {G G1 : mG} {I I1 : Nat → Nat → Int32} {L L1 : Nat → Nat → Int64} {x o : Nat} {x1 x2 x3 : Int32} (hc : mcal mT d 121 [.ref x, .int x1, .int x2, .int x3] (G, I, L) = some (.inr "java/lang/IllegalArgumentException", (G1, I1, L1))) (k : gK G x = 12) : mcal mT (d + 1) 304 [.ref x, .int x1, .int x2, .int x3, .ref o] (G, I, L) = some (.inl (some (.int 1)), (gC G1, I1, L1)) := by
  rw [q_L_night_, e_L_night_0, gk_t k, hc, mcI_e]
  simp [mexc, mhand, h_L_night, mlook, m_L_night, mnorm, e_L_night_15]
theorem w_go (d : Nat) {G G1 : mG} {I I1 : Nat → Nat → Int32} {L L1 : Nat → Nat → Int64} {x o : Nat} {x1 v : Int32} (hc : mcal mT d 125 [.ref x, .int x1] (G, I, L) = some (.inl (some (.int v)), (G1, I1, L1))) (k : gK G x = 12) (k1 : gK G1 o = 21) (n1 : gN G1 o = 1) : mcal mT (d + 1) 305 [.ref x, .int x1, .ref o] (G, I, L) = some (.inl (some (.int 0)), (G1, I1, up2 L1 o 0 (Int32.toInt64 v))) := by
  rw [q_L_go_, e_L_go_0, gk_t k, hc, mcI_v]
  refine (gx_o k1 n1).trans ?_
  rw [e_L_go_18]
theorem w_go_A (d : Nat) {G G1 : mG} {I I1 : Nat → Nat → Int32} {L L1 : Nat → Nat → Int64} {x o : Nat} {x1 : Int32} (hc : mcal mT d 125 [.ref x, .int x1] (G, I, L) = some (.inr "java/lang/IllegalArgumentException", (G1, I1, L1))) (k : gK G x = 12) : mcal mT (d + 1) 305 [.ref x, .int x1, .ref o] (G, I, L) = some (.inl (some (.int 1)), (gC G1, I1, L1)) := by
  rw [q_L_go_, e_L_go_0, gk_t k, hc, mcI_e]
  simp [mexc, mhand, h_L_go, mlook, m_L_go, mnorm, e_L_go_12]
theorem w_go_S (d : Nat) {G G1 : mG} {I I1 : Nat → Nat → Int32} {L L1 : Nat → Nat → Int64} {x o : Nat} {x1 : Int32} (hc : mcal mT d 125 [.ref x, .int x1] (G, I, L) = some (.inr "java/lang/IllegalStateException", (G1, I1, L1))) (k : gK G x = 12) : mcal mT (d + 1) 305 [.ref x, .int x1, .ref o] (G, I, L) = some (.inl (some (.int 2)), (gC G1, I1, L1)) := by
  rw [q_L_go_, e_L_go_0, gk_t k, hc, mcI_e]
  simp [mexc, mhand, h_L_go, mlook, m_L_go, mnorm, e_L_go_15]
theorem w_clock (d : Nat) {G G1 : mG} {I I1 : Nat → Nat → Int32} {L L1 : Nat → Nat → Int64} {x o : Nat} {x1 v : Int32} (hc : mcal mT d 111 [.ref x, .int x1] (G, I, L) = some (.inl (some (.int v)), (G1, I1, L1))) (k : gK G x = 12) (k1 : gK G1 o = 21) (n1 : gN G1 o = 1) : mcal mT (d + 1) 306 [.ref x, .int x1, .ref o] (G, I, L) = some (.inl (some (.int 0)), (G1, I1, up2 L1 o 0 (Int32.toInt64 v))) := by
  rw [q_L_clock_, e_L_clock_0, gk_t k, hc, mcI_v]
  refine (gx_o k1 n1).trans ?_
  rw [e_L_clock_15]
theorem w_clock_A (d : Nat) {G G1 : mG} {I I1 : Nat → Nat → Int32} {L L1 : Nat → Nat → Int64} {x o : Nat} {x1 : Int32} (hc : mcal mT d 111 [.ref x, .int x1] (G, I, L) = some (.inr "java/lang/IllegalArgumentException", (G1, I1, L1))) (k : gK G x = 12) : mcal mT (d + 1) 306 [.ref x, .int x1, .ref o] (G, I, L) = some (.inl (some (.int 1)), (gC G1, I1, L1)) := by
  rw [q_L_clock_, e_L_clock_0, gk_t k, hc, mcI_e]
  simp [mexc, mhand, h_L_clock, mlook, m_L_clock, mnorm, e_L_clock_12]
theorem w_hunts (d : Nat) {G G1 : mG} {I I1 : Nat → Nat → Int32} {L L1 : Nat → Nat → Int64} {x o : Nat} {x1 v : Int32} (hc : mcal mT d 112 [.ref x, .int x1] (G, I, L) = some (.inl (some (.int v)), (G1, I1, L1))) (k : gK G x = 12) (k1 : gK G1 o = 21) (n1 : gN G1 o = 1) : mcal mT (d + 1) 307 [.ref x, .int x1, .ref o] (G, I, L) = some (.inl (some (.int 0)), (G1, I1, up2 L1 o 0 (Int32.toInt64 v))) := by
  rw [q_L_hunts_, e_L_hunts_0, gk_t k, hc, mcI_v]
  refine (gx_o k1 n1).trans ?_
  rw [e_L_hunts_15]
theorem w_hunts_A (d : Nat) {G G1 : mG} {I I1 : Nat → Nat → Int32} {L L1 : Nat → Nat → Int64} {x o : Nat} {x1 : Int32} (hc : mcal mT d 112 [.ref x, .int x1] (G, I, L) = some (.inr "java/lang/IllegalArgumentException", (G1, I1, L1))) (k : gK G x = 12) : mcal mT (d + 1) 307 [.ref x, .int x1, .ref o] (G, I, L) = some (.inl (some (.int 1)), (gC G1, I1, L1)) := by
  rw [q_L_hunts_, e_L_hunts_0, gk_t k, hc, mcI_e]
  simp [mexc, mhand, h_L_hunts, mlook, m_L_hunts, mnorm, e_L_hunts_12]
theorem w_log (d : Nat) {G G1 : mG} {I I1 : Nat → Nat → Int32} {L L1 : Nat → Nat → Int64} {x o : Nat} {x1 x2 x3 v : Int32} (hc : mcal mT d 128 [.ref x, .int x1, .int x2, .int x3] (G, I, L) = some (.inl (some (.int v)), (G1, I1, L1))) (k : gK G x = 12) (k1 : gK G1 o = 21) (n1 : gN G1 o = 1) : mcal mT (d + 1) 308 [.ref x, .int x1, .int x2, .int x3, .ref o] (G, I, L) = some (.inl (some (.int 0)), (G1, I1, up2 L1 o 0 (Int32.toInt64 v))) := by
  rw [q_L_log_, e_L_log_0, gk_t k, hc, mcI_v]
  refine (gx_o k1 n1).trans ?_
  rw [e_L_log_23]
theorem w_log_I (d : Nat) {G G1 : mG} {I I1 : Nat → Nat → Int32} {L L1 : Nat → Nat → Int64} {x o : Nat} {x1 x2 x3 : Int32} (hc : mcal mT d 128 [.ref x, .int x1, .int x2, .int x3] (G, I, L) = some (.inr "java/lang/IndexOutOfBoundsException", (G1, I1, L1))) (k : gK G x = 12) : mcal mT (d + 1) 308 [.ref x, .int x1, .int x2, .int x3, .ref o] (G, I, L) = some (.inl (some (.int 1)), (gC G1, I1, L1)) := by
  rw [q_L_log_, e_L_log_0, gk_t k, hc, mcI_e]
  simp [mexc, mhand, h_L_log, mlook, m_L_log, mnorm, e_L_log_15]
theorem w_log_A (d : Nat) {G G1 : mG} {I I1 : Nat → Nat → Int32} {L L1 : Nat → Nat → Int64} {x o : Nat} {x1 x2 x3 : Int32} (hc : mcal mT d 128 [.ref x, .int x1, .int x2, .int x3] (G, I, L) = some (.inr "java/lang/IllegalArgumentException", (G1, I1, L1))) (k : gK G x = 12) : mcal mT (d + 1) 308 [.ref x, .int x1, .int x2, .int x3, .ref o] (G, I, L) = some (.inl (some (.int 2)), (gC G1, I1, L1)) := by
  rw [q_L_log_, e_L_log_0, gk_t k, hc, mcI_e]
  simp [mexc, mhand, h_L_log, mlook, m_L_log, mnorm, e_L_log_19]
theorem w_explained (d : Nat) {G G1 : mG} {I I1 : Nat → Nat → Int32} {L L1 : Nat → Nat → Int64} {x o : Nat} {x1 x2 x3 v : Int32} (hc : mcal mT d 131 [.ref x, .int x1, .int x2, .int x3] (G, I, L) = some (.inl (some (.int v)), (G1, I1, L1))) (k : gK G x = 12) (k1 : gK G1 o = 21) (n1 : gN G1 o = 1) : mcal mT (d + 1) 309 [.ref x, .int x1, .int x2, .int x3, .ref o] (G, I, L) = some (.inl (some (.int 0)), (G1, I1, up2 L1 o 0 (if v = 0 then 0 else 1))) := by
  rw [q_L_explained_, e_L_explained_0, gk_t k, hc, mcI_v]
  by_cases c : v = 0
  · rw [if_pos c, if_pos c, e_L_explained_17, e_L_explained_18]
    refine (gx_o k1 n1).trans ?_
    rw [e_L_explained_30]
  · rw [if_neg c, if_neg c, e_L_explained_18]
    refine (gx_o k1 n1).trans ?_
    rw [e_L_explained_30]
theorem w_explained_A (d : Nat) {G G1 : mG} {I I1 : Nat → Nat → Int32} {L L1 : Nat → Nat → Int64} {x o : Nat} {x1 x2 x3 : Int32} (hc : mcal mT d 131 [.ref x, .int x1, .int x2, .int x3] (G, I, L) = some (.inr "java/lang/IllegalArgumentException", (G1, I1, L1))) (k : gK G x = 12) : mcal mT (d + 1) 309 [.ref x, .int x1, .int x2, .int x3, .ref o] (G, I, L) = some (.inl (some (.int 1)), (gC G1, I1, L1)) := by
  rw [q_L_explained_, e_L_explained_0, gk_t k, hc, mcI_e]
  simp [mexc, mhand, h_L_explained, mlook, m_L_explained, mnorm, e_L_explained_22]
theorem w_explained_S (d : Nat) {G G1 : mG} {I I1 : Nat → Nat → Int32} {L L1 : Nat → Nat → Int64} {x o : Nat} {x1 x2 x3 : Int32} (hc : mcal mT d 131 [.ref x, .int x1, .int x2, .int x3] (G, I, L) = some (.inr "java/lang/IllegalStateException", (G1, I1, L1))) (k : gK G x = 12) : mcal mT (d + 1) 309 [.ref x, .int x1, .int x2, .int x3, .ref o] (G, I, L) = some (.inl (some (.int 2)), (gC G1, I1, L1)) := by
  rw [q_L_explained_, e_L_explained_0, gk_t k, hc, mcI_e]
  simp [mexc, mhand, h_L_explained, mlook, m_L_explained, mnorm, e_L_explained_26]
theorem w_cause (d : Nat) {G G1 : mG} {I I1 : Nat → Nat → Int32} {L L1 : Nat → Nat → Int64} {x o : Nat} {x1 x2 v : Int32} (hc : mcal mT d 132 [.ref x, .int x1, .int x2] (G, I, L) = some (.inl (some (.int v)), (G1, I1, L1))) (k : gK G x = 12) (k1 : gK G1 o = 21) (n1 : gN G1 o = 1) : mcal mT (d + 1) 310 [.ref x, .int x1, .int x2, .ref o] (G, I, L) = some (.inl (some (.int 0)), (G1, I1, up2 L1 o 0 (Int32.toInt64 v))) := by
  rw [q_L_cause_, e_L_cause_0, gk_t k, hc, mcI_v]
  refine (gx_o k1 n1).trans ?_
  rw [e_L_cause_21]
theorem w_cause_A (d : Nat) {G G1 : mG} {I I1 : Nat → Nat → Int32} {L L1 : Nat → Nat → Int64} {x o : Nat} {x1 x2 : Int32} (hc : mcal mT d 132 [.ref x, .int x1, .int x2] (G, I, L) = some (.inr "java/lang/IllegalArgumentException", (G1, I1, L1))) (k : gK G x = 12) : mcal mT (d + 1) 310 [.ref x, .int x1, .int x2, .ref o] (G, I, L) = some (.inl (some (.int 1)), (gC G1, I1, L1)) := by
  rw [q_L_cause_, e_L_cause_0, gk_t k, hc, mcI_e]
  simp [mexc, mhand, h_L_cause, mlook, m_L_cause, mnorm, e_L_cause_13]
theorem w_cause_S (d : Nat) {G G1 : mG} {I I1 : Nat → Nat → Int32} {L L1 : Nat → Nat → Int64} {x o : Nat} {x1 x2 : Int32} (hc : mcal mT d 132 [.ref x, .int x1, .int x2] (G, I, L) = some (.inr "java/lang/IllegalStateException", (G1, I1, L1))) (k : gK G x = 12) : mcal mT (d + 1) 310 [.ref x, .int x1, .int x2, .ref o] (G, I, L) = some (.inl (some (.int 2)), (gC G1, I1, L1)) := by
  rw [q_L_cause_, e_L_cause_0, gk_t k, hc, mcI_e]
  simp [mexc, mhand, h_L_cause, mlook, m_L_cause, mnorm, e_L_cause_17]
theorem w_balanced (d : Nat) {G G1 : mG} {I I1 : Nat → Nat → Int32} {L L1 : Nat → Nat → Int64} {x o : Nat} {x1 x2 x3 v : Int32} (hc : mcal mT d 136 [.ref x, .int x1, .int x2, .int x3] (G, I, L) = some (.inl (some (.int v)), (G1, I1, L1))) (k : gK G x = 12) (k1 : gK G1 o = 21) (n1 : gN G1 o = 1) : mcal mT (d + 1) 311 [.ref x, .int x1, .int x2, .int x3, .ref o] (G, I, L) = some (.inl (some (.int 0)), (G1, I1, up2 L1 o 0 (Int32.toInt64 v))) := by
  rw [q_L_balanced_, e_L_balanced_0, gk_t k, hc, mcI_v]
  refine (gx_o k1 n1).trans ?_
  rw [e_L_balanced_27]
theorem w_balanced_N (d : Nat) {G G1 : mG} {I I1 : Nat → Nat → Int32} {L L1 : Nat → Nat → Int64} {x o : Nat} {x1 x2 x3 : Int32} (hc : mcal mT d 136 [.ref x, .int x1, .int x2, .int x3] (G, I, L) = some (.inr "java/util/NoSuchElementException", (G1, I1, L1))) (k : gK G x = 12) : mcal mT (d + 1) 311 [.ref x, .int x1, .int x2, .int x3, .ref o] (G, I, L) = some (.inl (some (.int 1)), (gC G1, I1, L1)) := by
  rw [q_L_balanced_, e_L_balanced_0, gk_t k, hc, mcI_e]
  simp [mexc, mhand, h_L_balanced, mlook, m_L_balanced, mnorm, e_L_balanced_15]
theorem w_balanced_A (d : Nat) {G G1 : mG} {I I1 : Nat → Nat → Int32} {L L1 : Nat → Nat → Int64} {x o : Nat} {x1 x2 x3 : Int32} (hc : mcal mT d 136 [.ref x, .int x1, .int x2, .int x3] (G, I, L) = some (.inr "java/lang/IllegalArgumentException", (G1, I1, L1))) (k : gK G x = 12) : mcal mT (d + 1) 311 [.ref x, .int x1, .int x2, .int x3, .ref o] (G, I, L) = some (.inl (some (.int 2)), (gC G1, I1, L1)) := by
  rw [q_L_balanced_, e_L_balanced_0, gk_t k, hc, mcI_e]
  simp [mexc, mhand, h_L_balanced, mlook, m_L_balanced, mnorm, e_L_balanced_19]
theorem w_balanced_S (d : Nat) {G G1 : mG} {I I1 : Nat → Nat → Int32} {L L1 : Nat → Nat → Int64} {x o : Nat} {x1 x2 x3 : Int32} (hc : mcal mT d 136 [.ref x, .int x1, .int x2, .int x3] (G, I, L) = some (.inr "java/lang/IllegalStateException", (G1, I1, L1))) (k : gK G x = 12) : mcal mT (d + 1) 311 [.ref x, .int x1, .int x2, .int x3, .ref o] (G, I, L) = some (.inl (some (.int 3)), (gC G1, I1, L1)) := by
  rw [q_L_balanced_, e_L_balanced_0, gk_t k, hc, mcI_e]
  simp [mexc, mhand, h_L_balanced, mlook, m_L_balanced, mnorm, e_L_balanced_23]
theorem w_turning (d : Nat) {G G1 : mG} {I I1 : Nat → Nat → Int32} {L L1 : Nat → Nat → Int64} {x o : Nat} {x1 x2 v : Int32} (hc : mcal mT d 137 [.ref x, .int x1, .int x2] (G, I, L) = some (.inl (some (.int v)), (G1, I1, L1))) (k : gK G x = 12) (k1 : gK G1 o = 21) (n1 : gN G1 o = 1) : mcal mT (d + 1) 312 [.ref x, .int x1, .int x2, .ref o] (G, I, L) = some (.inl (some (.int 0)), (G1, I1, up2 L1 o 0 (Int32.toInt64 v))) := by
  rw [q_L_turning_, e_L_turning_0, gk_t k, hc, mcI_v]
  refine (gx_o k1 n1).trans ?_
  rw [e_L_turning_21]
theorem w_turning_A (d : Nat) {G G1 : mG} {I I1 : Nat → Nat → Int32} {L L1 : Nat → Nat → Int64} {x o : Nat} {x1 x2 : Int32} (hc : mcal mT d 137 [.ref x, .int x1, .int x2] (G, I, L) = some (.inr "java/lang/IllegalArgumentException", (G1, I1, L1))) (k : gK G x = 12) : mcal mT (d + 1) 312 [.ref x, .int x1, .int x2, .ref o] (G, I, L) = some (.inl (some (.int 1)), (gC G1, I1, L1)) := by
  rw [q_L_turning_, e_L_turning_0, gk_t k, hc, mcI_e]
  simp [mexc, mhand, h_L_turning, mlook, m_L_turning, mnorm, e_L_turning_13]
theorem w_turning_S (d : Nat) {G G1 : mG} {I I1 : Nat → Nat → Int32} {L L1 : Nat → Nat → Int64} {x o : Nat} {x1 x2 : Int32} (hc : mcal mT d 137 [.ref x, .int x1, .int x2] (G, I, L) = some (.inr "java/lang/IllegalStateException", (G1, I1, L1))) (k : gK G x = 12) : mcal mT (d + 1) 312 [.ref x, .int x1, .int x2, .ref o] (G, I, L) = some (.inl (some (.int 2)), (gC G1, I1, L1)) := by
  rw [q_L_turning_, e_L_turning_0, gk_t k, hc, mcI_e]
  simp [mexc, mhand, h_L_turning, mlook, m_L_turning, mnorm, e_L_turning_17]
theorem w_wake (d : Nat) {G G1 : mG} {I I1 : Nat → Nat → Int32} {L L1 : Nat → Nat → Int64} {x o : Nat} {x1 x2 x3 v : Int32} (hc : mcal mT d 143 [.ref x, .int x1, .int x2, .int x3] (G, I, L) = some (.inl (some (.int v)), (G1, I1, L1))) (k : gK G x = 12) (k1 : gK G1 o = 21) (n1 : gN G1 o = 1) : mcal mT (d + 1) 313 [.ref x, .int x1, .int x2, .int x3, .ref o] (G, I, L) = some (.inl (some (.int 0)), (G1, I1, up2 L1 o 0 (Int32.toInt64 v))) := by
  rw [q_L_wake_, e_L_wake_0, gk_t k, hc, mcI_v]
  refine (gx_o k1 n1).trans ?_
  rw [e_L_wake_23]
theorem w_wake_A (d : Nat) {G G1 : mG} {I I1 : Nat → Nat → Int32} {L L1 : Nat → Nat → Int64} {x o : Nat} {x1 x2 x3 : Int32} (hc : mcal mT d 143 [.ref x, .int x1, .int x2, .int x3] (G, I, L) = some (.inr "java/lang/IllegalArgumentException", (G1, I1, L1))) (k : gK G x = 12) : mcal mT (d + 1) 313 [.ref x, .int x1, .int x2, .int x3, .ref o] (G, I, L) = some (.inl (some (.int 1)), (gC G1, I1, L1)) := by
  rw [q_L_wake_, e_L_wake_0, gk_t k, hc, mcI_e]
  simp [mexc, mhand, h_L_wake, mlook, m_L_wake, mnorm, e_L_wake_15]
theorem w_wake_S (d : Nat) {G G1 : mG} {I I1 : Nat → Nat → Int32} {L L1 : Nat → Nat → Int64} {x o : Nat} {x1 x2 x3 : Int32} (hc : mcal mT d 143 [.ref x, .int x1, .int x2, .int x3] (G, I, L) = some (.inr "java/lang/IllegalStateException", (G1, I1, L1))) (k : gK G x = 12) : mcal mT (d + 1) 313 [.ref x, .int x1, .int x2, .int x3, .ref o] (G, I, L) = some (.inl (some (.int 2)), (gC G1, I1, L1)) := by
  rw [q_L_wake_, e_L_wake_0, gk_t k, hc, mcI_e]
  simp [mexc, mhand, h_L_wake, mlook, m_L_wake, mnorm, e_L_wake_19]
theorem w_wish (d : Nat) {G G1 : mG} {I I1 : Nat → Nat → Int32} {L L1 : Nat → Nat → Int64} {x o : Nat} {x1 x2 x3 x4 v : Int32} (hc : mcal mT d 145 [.ref x, .int x1, .int x2, .int x3, .int x4] (G, I, L) = some (.inl (some (.int v)), (G1, I1, L1))) (k : gK G x = 12) (k1 : gK G1 o = 21) (n1 : gN G1 o = 1) : mcal mT (d + 1) 314 [.ref x, .int x1, .int x2, .int x3, .int x4, .ref o] (G, I, L) = some (.inl (some (.int 0)), (G1, I1, up2 L1 o 0 (Int32.toInt64 v))) := by
  rw [q_L_wish_, e_L_wish_0, gk_t k, hc, mcI_v]
  refine (gx_o k1 n1).trans ?_
  rw [e_L_wish_29]
theorem w_wish_N (d : Nat) {G G1 : mG} {I I1 : Nat → Nat → Int32} {L L1 : Nat → Nat → Int64} {x o : Nat} {x1 x2 x3 x4 : Int32} (hc : mcal mT d 145 [.ref x, .int x1, .int x2, .int x3, .int x4] (G, I, L) = some (.inr "java/util/NoSuchElementException", (G1, I1, L1))) (k : gK G x = 12) : mcal mT (d + 1) 314 [.ref x, .int x1, .int x2, .int x3, .int x4, .ref o] (G, I, L) = some (.inl (some (.int 1)), (gC G1, I1, L1)) := by
  rw [q_L_wish_, e_L_wish_0, gk_t k, hc, mcI_e]
  simp [mexc, mhand, h_L_wish, mlook, m_L_wish, mnorm, e_L_wish_17]
theorem w_wish_I (d : Nat) {G G1 : mG} {I I1 : Nat → Nat → Int32} {L L1 : Nat → Nat → Int64} {x o : Nat} {x1 x2 x3 x4 : Int32} (hc : mcal mT d 145 [.ref x, .int x1, .int x2, .int x3, .int x4] (G, I, L) = some (.inr "java/lang/IndexOutOfBoundsException", (G1, I1, L1))) (k : gK G x = 12) : mcal mT (d + 1) 314 [.ref x, .int x1, .int x2, .int x3, .int x4, .ref o] (G, I, L) = some (.inl (some (.int 2)), (gC G1, I1, L1)) := by
  rw [q_L_wish_, e_L_wish_0, gk_t k, hc, mcI_e]
  simp [mexc, mhand, h_L_wish, mlook, m_L_wish, mnorm, e_L_wish_21]
theorem w_wish_A (d : Nat) {G G1 : mG} {I I1 : Nat → Nat → Int32} {L L1 : Nat → Nat → Int64} {x o : Nat} {x1 x2 x3 x4 : Int32} (hc : mcal mT d 145 [.ref x, .int x1, .int x2, .int x3, .int x4] (G, I, L) = some (.inr "java/lang/IllegalArgumentException", (G1, I1, L1))) (k : gK G x = 12) : mcal mT (d + 1) 314 [.ref x, .int x1, .int x2, .int x3, .int x4, .ref o] (G, I, L) = some (.inl (some (.int 3)), (gC G1, I1, L1)) := by
  rw [q_L_wish_, e_L_wish_0, gk_t k, hc, mcI_e]
  simp [mexc, mhand, h_L_wish, mlook, m_L_wish, mnorm, e_L_wish_25]
theorem w_error (d : Nat) {G G1 : mG} {I I1 : Nat → Nat → Int32} {L L1 : Nat → Nat → Int64} {x o : Nat} {x1 x2 v : Int32} (hc : mcal mT d 149 [.ref x, .int x1, .int x2] (G, I, L) = some (.inl (some (.int v)), (G1, I1, L1))) (k : gK G x = 12) (k1 : gK G1 o = 21) (n1 : gN G1 o = 1) : mcal mT (d + 1) 315 [.ref x, .int x1, .int x2, .ref o] (G, I, L) = some (.inl (some (.int 0)), (G1, I1, up2 L1 o 0 (Int32.toInt64 v))) := by
  rw [q_L_error_, e_L_error_0, gk_t k, hc, mcI_v]
  refine (gx_o k1 n1).trans ?_
  rw [e_L_error_21]
theorem w_error_N (d : Nat) {G G1 : mG} {I I1 : Nat → Nat → Int32} {L L1 : Nat → Nat → Int64} {x o : Nat} {x1 x2 : Int32} (hc : mcal mT d 149 [.ref x, .int x1, .int x2] (G, I, L) = some (.inr "java/util/NoSuchElementException", (G1, I1, L1))) (k : gK G x = 12) : mcal mT (d + 1) 315 [.ref x, .int x1, .int x2, .ref o] (G, I, L) = some (.inl (some (.int 1)), (gC G1, I1, L1)) := by
  rw [q_L_error_, e_L_error_0, gk_t k, hc, mcI_e]
  simp [mexc, mhand, h_L_error, mlook, m_L_error, mnorm, e_L_error_13]
theorem w_error_A (d : Nat) {G G1 : mG} {I I1 : Nat → Nat → Int32} {L L1 : Nat → Nat → Int64} {x o : Nat} {x1 x2 : Int32} (hc : mcal mT d 149 [.ref x, .int x1, .int x2] (G, I, L) = some (.inr "java/lang/IllegalArgumentException", (G1, I1, L1))) (k : gK G x = 12) : mcal mT (d + 1) 315 [.ref x, .int x1, .int x2, .ref o] (G, I, L) = some (.inl (some (.int 2)), (gC G1, I1, L1)) := by
  rw [q_L_error_, e_L_error_0, gk_t k, hc, mcI_e]
  simp [mexc, mhand, h_L_error, mlook, m_L_error, mnorm, e_L_error_17]
theorem w_part (d : Nat) {G G1 : mG} {I I1 : Nat → Nat → Int32} {L L1 : Nat → Nat → Int64} {x o : Nat} {x1 v : Int32} (hc : mcal mT d 150 [.ref x, .int x1] (G, I, L) = some (.inl (some (.int v)), (G1, I1, L1))) (k : gK G x = 12) (k1 : gK G1 o = 21) (n1 : gN G1 o = 1) : mcal mT (d + 1) 316 [.ref x, .int x1, .ref o] (G, I, L) = some (.inl (some (.int 0)), (G1, I1, up2 L1 o 0 (Int32.toInt64 v))) := by
  rw [q_L_part_, e_L_part_0, gk_t k, hc, mcI_v]
  refine (gx_o k1 n1).trans ?_
  rw [e_L_part_15]
theorem w_part_N (d : Nat) {G G1 : mG} {I I1 : Nat → Nat → Int32} {L L1 : Nat → Nat → Int64} {x o : Nat} {x1 : Int32} (hc : mcal mT d 150 [.ref x, .int x1] (G, I, L) = some (.inr "java/util/NoSuchElementException", (G1, I1, L1))) (k : gK G x = 12) : mcal mT (d + 1) 316 [.ref x, .int x1, .ref o] (G, I, L) = some (.inl (some (.int 1)), (gC G1, I1, L1)) := by
  rw [q_L_part_, e_L_part_0, gk_t k, hc, mcI_e]
  simp [mexc, mhand, h_L_part, mlook, m_L_part, mnorm, e_L_part_12]
theorem w_pays (d : Nat) {G G1 : mG} {I I1 : Nat → Nat → Int32} {L L1 : Nat → Nat → Int64} {x o : Nat} {x1 x2 v : Int32} (hc : mcal mT d 151 [.ref x, .int x1, .int x2] (G, I, L) = some (.inl (some (.int v)), (G1, I1, L1))) (k : gK G x = 12) (k1 : gK G1 o = 21) (n1 : gN G1 o = 1) : mcal mT (d + 1) 317 [.ref x, .int x1, .int x2, .ref o] (G, I, L) = some (.inl (some (.int 0)), (G1, I1, up2 L1 o 0 (Int32.toInt64 v))) := by
  rw [q_L_pays_, e_L_pays_0, gk_t k, hc, mcI_v]
  refine (gx_o k1 n1).trans ?_
  rw [e_L_pays_21]
theorem w_pays_N (d : Nat) {G G1 : mG} {I I1 : Nat → Nat → Int32} {L L1 : Nat → Nat → Int64} {x o : Nat} {x1 x2 : Int32} (hc : mcal mT d 151 [.ref x, .int x1, .int x2] (G, I, L) = some (.inr "java/util/NoSuchElementException", (G1, I1, L1))) (k : gK G x = 12) : mcal mT (d + 1) 317 [.ref x, .int x1, .int x2, .ref o] (G, I, L) = some (.inl (some (.int 1)), (gC G1, I1, L1)) := by
  rw [q_L_pays_, e_L_pays_0, gk_t k, hc, mcI_e]
  simp [mexc, mhand, h_L_pays, mlook, m_L_pays, mnorm, e_L_pays_13]
theorem w_pays_A (d : Nat) {G G1 : mG} {I I1 : Nat → Nat → Int32} {L L1 : Nat → Nat → Int64} {x o : Nat} {x1 x2 : Int32} (hc : mcal mT d 151 [.ref x, .int x1, .int x2] (G, I, L) = some (.inr "java/lang/IllegalArgumentException", (G1, I1, L1))) (k : gK G x = 12) : mcal mT (d + 1) 317 [.ref x, .int x1, .int x2, .ref o] (G, I, L) = some (.inl (some (.int 2)), (gC G1, I1, L1)) := by
  rw [q_L_pays_, e_L_pays_0, gk_t k, hc, mcI_e]
  simp [mexc, mhand, h_L_pays, mlook, m_L_pays, mnorm, e_L_pays_17]
theorem w_blame (d : Nat) {G G1 : mG} {I I1 : Nat → Nat → Int32} {L L1 : Nat → Nat → Int64} {x o : Nat} {x1 v : Int32} (hc : mcal mT d 110 [.ref x, .int x1] (G, I, L) = some (.inl (some (.int v)), (G1, I1, L1))) (k : gK G x = 12) (k1 : gK G1 o = 21) (n1 : gN G1 o = 1) : mcal mT (d + 1) 318 [.ref x, .int x1, .ref o] (G, I, L) = some (.inl (some (.int 0)), (G1, I1, up2 L1 o 0 (Int32.toInt64 v))) := by
  rw [q_L_blame_, e_L_blame_0, gk_t k, hc, mcI_v]
  refine (gx_o k1 n1).trans ?_
  rw [e_L_blame_15]
theorem w_blame_I (d : Nat) {G G1 : mG} {I I1 : Nat → Nat → Int32} {L L1 : Nat → Nat → Int64} {x o : Nat} {x1 : Int32} (hc : mcal mT d 110 [.ref x, .int x1] (G, I, L) = some (.inr "java/lang/IndexOutOfBoundsException", (G1, I1, L1))) (k : gK G x = 12) : mcal mT (d + 1) 318 [.ref x, .int x1, .ref o] (G, I, L) = some (.inl (some (.int 1)), (gC G1, I1, L1)) := by
  rw [q_L_blame_, e_L_blame_0, gk_t k, hc, mcI_e]
  simp [mexc, mhand, h_L_blame, mlook, m_L_blame, mnorm, e_L_blame_12]
theorem w_diary (d : Nat) {G G1 : mG} {I I1 : Nat → Nat → Int32} {L L1 : Nat → Nat → Int64} {x o : Nat} {x1 x2 x3 v : Int32} (hc : mcal mT d 157 [.ref x, .int x1, .int x2, .int x3] (G, I, L) = some (.inl (some (.int v)), (G1, I1, L1))) (k : gK G x = 12) (k1 : gK G1 o = 21) (n1 : gN G1 o = 1) : mcal mT (d + 1) 319 [.ref x, .int x1, .int x2, .int x3, .ref o] (G, I, L) = some (.inl (some (.int 0)), (G1, I1, up2 L1 o 0 (Int32.toInt64 v))) := by
  rw [q_L_diary_, e_L_diary_0, gk_t k, hc, mcI_v]
  refine (gx_o k1 n1).trans ?_
  rw [e_L_diary_23]
theorem w_diary_I (d : Nat) {G G1 : mG} {I I1 : Nat → Nat → Int32} {L L1 : Nat → Nat → Int64} {x o : Nat} {x1 x2 x3 : Int32} (hc : mcal mT d 157 [.ref x, .int x1, .int x2, .int x3] (G, I, L) = some (.inr "java/lang/IndexOutOfBoundsException", (G1, I1, L1))) (k : gK G x = 12) : mcal mT (d + 1) 319 [.ref x, .int x1, .int x2, .int x3, .ref o] (G, I, L) = some (.inl (some (.int 1)), (gC G1, I1, L1)) := by
  rw [q_L_diary_, e_L_diary_0, gk_t k, hc, mcI_e]
  simp [mexc, mhand, h_L_diary, mlook, m_L_diary, mnorm, e_L_diary_15]
theorem w_diary_A (d : Nat) {G G1 : mG} {I I1 : Nat → Nat → Int32} {L L1 : Nat → Nat → Int64} {x o : Nat} {x1 x2 x3 : Int32} (hc : mcal mT d 157 [.ref x, .int x1, .int x2, .int x3] (G, I, L) = some (.inr "java/lang/IllegalArgumentException", (G1, I1, L1))) (k : gK G x = 12) : mcal mT (d + 1) 319 [.ref x, .int x1, .int x2, .int x3, .ref o] (G, I, L) = some (.inl (some (.int 2)), (gC G1, I1, L1)) := by
  rw [q_L_diary_, e_L_diary_0, gk_t k, hc, mcI_e]
  simp [mexc, mhand, h_L_diary, mlook, m_L_diary, mnorm, e_L_diary_19]
theorem w_cold (d : Nat) {G G1 : mG} {I I1 : Nat → Nat → Int32} {L L1 : Nat → Nat → Int64} {x o : Nat} {x1 x2 x3 v : Int32} (hc : mcal mT d 158 [.ref x, .int x1, .int x2, .int x3] (G, I, L) = some (.inl (some (.int v)), (G1, I1, L1))) (k : gK G x = 12) (k1 : gK G1 o = 21) (n1 : gN G1 o = 1) : mcal mT (d + 1) 320 [.ref x, .int x1, .int x2, .int x3, .ref o] (G, I, L) = some (.inl (some (.int 0)), (G1, I1, up2 L1 o 0 (Int32.toInt64 v))) := by
  rw [q_L_cold_, e_L_cold_0, gk_t k, hc, mcI_v]
  refine (gx_o k1 n1).trans ?_
  rw [e_L_cold_23]
theorem w_cold_I (d : Nat) {G G1 : mG} {I I1 : Nat → Nat → Int32} {L L1 : Nat → Nat → Int64} {x o : Nat} {x1 x2 x3 : Int32} (hc : mcal mT d 158 [.ref x, .int x1, .int x2, .int x3] (G, I, L) = some (.inr "java/lang/IndexOutOfBoundsException", (G1, I1, L1))) (k : gK G x = 12) : mcal mT (d + 1) 320 [.ref x, .int x1, .int x2, .int x3, .ref o] (G, I, L) = some (.inl (some (.int 1)), (gC G1, I1, L1)) := by
  rw [q_L_cold_, e_L_cold_0, gk_t k, hc, mcI_e]
  simp [mexc, mhand, h_L_cold, mlook, m_L_cold, mnorm, e_L_cold_15]
theorem w_cold_A (d : Nat) {G G1 : mG} {I I1 : Nat → Nat → Int32} {L L1 : Nat → Nat → Int64} {x o : Nat} {x1 x2 x3 : Int32} (hc : mcal mT d 158 [.ref x, .int x1, .int x2, .int x3] (G, I, L) = some (.inr "java/lang/IllegalArgumentException", (G1, I1, L1))) (k : gK G x = 12) : mcal mT (d + 1) 320 [.ref x, .int x1, .int x2, .int x3, .ref o] (G, I, L) = some (.inl (some (.int 2)), (gC G1, I1, L1)) := by
  rw [q_L_cold_, e_L_cold_0, gk_t k, hc, mcI_e]
  simp [mexc, mhand, h_L_cold, mlook, m_L_cold, mnorm, e_L_cold_19]
theorem w_claim (d : Nat) {G G1 : mG} {I I1 : Nat → Nat → Int32} {L L1 : Nat → Nat → Int64} {x o : Nat} {x1 v : Int32} (hc : mcal mT d 103 [.ref x, .int x1] (G, I, L) = some (.inl (some (.int v)), (G1, I1, L1))) (k : gK G x = 12) (k1 : gK G1 o = 21) (n1 : gN G1 o = 1) : mcal mT (d + 1) 321 [.ref x, .int x1, .ref o] (G, I, L) = some (.inl (some (.int 0)), (G1, I1, up2 L1 o 0 (Int32.toInt64 v))) := by
  rw [q_L_claim_, e_L_claim_0, gk_t k, hc, mcI_v]
  refine (gx_o k1 n1).trans ?_
  rw [e_L_claim_15]
theorem w_claim_A (d : Nat) {G G1 : mG} {I I1 : Nat → Nat → Int32} {L L1 : Nat → Nat → Int64} {x o : Nat} {x1 : Int32} (hc : mcal mT d 103 [.ref x, .int x1] (G, I, L) = some (.inr "java/lang/IllegalArgumentException", (G1, I1, L1))) (k : gK G x = 12) : mcal mT (d + 1) 321 [.ref x, .int x1, .ref o] (G, I, L) = some (.inl (some (.int 1)), (gC G1, I1, L1)) := by
  rw [q_L_claim_, e_L_claim_0, gk_t k, hc, mcI_e]
  simp [mexc, mhand, h_L_claim, mlook, m_L_claim, mnorm, e_L_claim_12]
theorem w_water (d : Nat) {G G1 : mG} {I I1 : Nat → Nat → Int32} {L L1 : Nat → Nat → Int64} {x o : Nat} {x1 x2 v : Int32} (hc : mcal mT d 122 [.ref x, .int x1, .int x2] (G, I, L) = some (.inl (some (.int v)), (G1, I1, L1))) (k : gK G x = 12) (k1 : gK G1 o = 21) (n1 : gN G1 o = 1) : mcal mT (d + 1) 322 [.ref x, .int x1, .int x2, .ref o] (G, I, L) = some (.inl (some (.int 0)), (G1, I1, up2 L1 o 0 (Int32.toInt64 v))) := by
  rw [q_L_water_, e_L_water_0, gk_t k, hc, mcI_v]
  refine (gx_o k1 n1).trans ?_
  rw [e_L_water_17]
theorem w_water_A (d : Nat) {G G1 : mG} {I I1 : Nat → Nat → Int32} {L L1 : Nat → Nat → Int64} {x o : Nat} {x1 x2 : Int32} (hc : mcal mT d 122 [.ref x, .int x1, .int x2] (G, I, L) = some (.inr "java/lang/IllegalArgumentException", (G1, I1, L1))) (k : gK G x = 12) : mcal mT (d + 1) 322 [.ref x, .int x1, .int x2, .ref o] (G, I, L) = some (.inl (some (.int 1)), (gC G1, I1, L1)) := by
  rw [q_L_water_, e_L_water_0, gk_t k, hc, mcI_e]
  simp [mexc, mhand, h_L_water, mlook, m_L_water, mnorm, e_L_water_13]
theorem w_dead (d : Nat) {G G1 : mG} {I I1 : Nat → Nat → Int32} {L L1 : Nat → Nat → Int64} {x o : Nat} {x1 v : Int32} (hc : mcal mT d 113 [.ref x, .int x1] (G, I, L) = some (.inl (some (.int v)), (G1, I1, L1))) (k : gK G x = 12) (k1 : gK G1 o = 21) (n1 : gN G1 o = 1) : mcal mT (d + 1) 323 [.ref x, .int x1, .ref o] (G, I, L) = some (.inl (some (.int 0)), (G1, I1, up2 L1 o 0 (Int32.toInt64 v))) := by
  rw [q_L_dead_, e_L_dead_0, gk_t k, hc, mcI_v]
  refine (gx_o k1 n1).trans ?_
  rw [e_L_dead_15]
theorem w_dead_A (d : Nat) {G G1 : mG} {I I1 : Nat → Nat → Int32} {L L1 : Nat → Nat → Int64} {x o : Nat} {x1 : Int32} (hc : mcal mT d 113 [.ref x, .int x1] (G, I, L) = some (.inr "java/lang/IllegalArgumentException", (G1, I1, L1))) (k : gK G x = 12) : mcal mT (d + 1) 323 [.ref x, .int x1, .ref o] (G, I, L) = some (.inl (some (.int 1)), (gC G1, I1, L1)) := by
  rw [q_L_dead_, e_L_dead_0, gk_t k, hc, mcI_e]
  simp [mexc, mhand, h_L_dead, mlook, m_L_dead, mnorm, e_L_dead_12]
theorem w_holiday (d : Nat) {G G1 : mG} {I I1 : Nat → Nat → Int32} {L L1 : Nat → Nat → Int64} {x o : Nat} {x1 x2 x3 v : Int32} (hc : mcal mT d 123 [.ref x, .int x1, .int x2, .int x3] (G, I, L) = some (.inl (some (.int v)), (G1, I1, L1))) (k : gK G x = 12) (k1 : gK G1 o = 21) (n1 : gN G1 o = 1) : mcal mT (d + 1) 324 [.ref x, .int x1, .int x2, .int x3, .ref o] (G, I, L) = some (.inl (some (.int 0)), (G1, I1, up2 L1 o 0 (Int32.toInt64 v))) := by
  rw [q_L_holiday_, e_L_holiday_0, gk_t k, hc, mcI_v]
  refine (gx_o k1 n1).trans ?_
  rw [e_L_holiday_19]
theorem w_holiday_A (d : Nat) {G G1 : mG} {I I1 : Nat → Nat → Int32} {L L1 : Nat → Nat → Int64} {x o : Nat} {x1 x2 x3 : Int32} (hc : mcal mT d 123 [.ref x, .int x1, .int x2, .int x3] (G, I, L) = some (.inr "java/lang/IllegalArgumentException", (G1, I1, L1))) (k : gK G x = 12) : mcal mT (d + 1) 324 [.ref x, .int x1, .int x2, .int x3, .ref o] (G, I, L) = some (.inl (some (.int 1)), (gC G1, I1, L1)) := by
  rw [q_L_holiday_, e_L_holiday_0, gk_t k, hc, mcI_e]
  simp [mexc, mhand, h_L_holiday, mlook, m_L_holiday, mnorm, e_L_holiday_15]
theorem w_pump (d : Nat) {G G1 : mG} {I I1 : Nat → Nat → Int32} {L L1 : Nat → Nat → Int64} {x o : Nat} {x1 v : Int32} (hc : mcal mT d 124 [.ref x, .int x1] (G, I, L) = some (.inl (some (.int v)), (G1, I1, L1))) (k : gK G x = 12) (k1 : gK G1 o = 21) (n1 : gN G1 o = 1) : mcal mT (d + 1) 325 [.ref x, .int x1, .ref o] (G, I, L) = some (.inl (some (.int 0)), (G1, I1, up2 L1 o 0 (Int32.toInt64 v))) := by
  rw [q_L_pump_, e_L_pump_0, gk_t k, hc, mcI_v]
  refine (gx_o k1 n1).trans ?_
  rw [e_L_pump_15]
theorem w_pump_A (d : Nat) {G G1 : mG} {I I1 : Nat → Nat → Int32} {L L1 : Nat → Nat → Int64} {x o : Nat} {x1 : Int32} (hc : mcal mT d 124 [.ref x, .int x1] (G, I, L) = some (.inr "java/lang/IllegalArgumentException", (G1, I1, L1))) (k : gK G x = 12) : mcal mT (d + 1) 325 [.ref x, .int x1, .ref o] (G, I, L) = some (.inl (some (.int 1)), (gC G1, I1, L1)) := by
  rw [q_L_pump_, e_L_pump_0, gk_t k, hc, mcI_e]
  simp [mexc, mhand, h_L_pump, mlook, m_L_pump, mnorm, e_L_pump_12]
theorem w_gauge (d : Nat) {G G1 : mG} {I I1 : Nat → Nat → Int32} {L L1 : Nat → Nat → Int64} {x o : Nat} {x1 x2 x3 v : Int32} (hc : mcal mT d 160 [.ref x, .int x1, .int x2, .int x3] (G, I, L) = some (.inl (some (.int v)), (G1, I1, L1))) (k : gK G x = 12) (k1 : gK G1 o = 21) (n1 : gN G1 o = 1) : mcal mT (d + 1) 326 [.ref x, .int x1, .int x2, .int x3, .ref o] (G, I, L) = some (.inl (some (.int 0)), (G1, I1, up2 L1 o 0 (Int32.toInt64 v))) := by
  rw [q_L_gauge_, e_L_gauge_0, gk_t k, hc, mcI_v]
  refine (gx_o k1 n1).trans ?_
  rw [e_L_gauge_19]
theorem w_gauge_A (d : Nat) {G G1 : mG} {I I1 : Nat → Nat → Int32} {L L1 : Nat → Nat → Int64} {x o : Nat} {x1 x2 x3 : Int32} (hc : mcal mT d 160 [.ref x, .int x1, .int x2, .int x3] (G, I, L) = some (.inr "java/lang/IllegalArgumentException", (G1, I1, L1))) (k : gK G x = 12) : mcal mT (d + 1) 326 [.ref x, .int x1, .int x2, .int x3, .ref o] (G, I, L) = some (.inl (some (.int 1)), (gC G1, I1, L1)) := by
  rw [q_L_gauge_, e_L_gauge_0, gk_t k, hc, mcI_e]
  simp [mexc, mhand, h_L_gauge, mlook, m_L_gauge, mnorm, e_L_gauge_15]
theorem w_burst (d : Nat) {G G1 : mG} {I I1 : Nat → Nat → Int32} {L L1 : Nat → Nat → Int64} {x o : Nat} {x1 x2 v : Int32} (hc : mcal mT d 161 [.ref x, .int x1, .int x2] (G, I, L) = some (.inl (some (.int v)), (G1, I1, L1))) (k : gK G x = 12) (k1 : gK G1 o = 21) (n1 : gN G1 o = 1) : mcal mT (d + 1) 327 [.ref x, .int x1, .int x2, .ref o] (G, I, L) = some (.inl (some (.int 0)), (G1, I1, up2 L1 o 0 (Int32.toInt64 v))) := by
  rw [q_L_burst_, e_L_burst_0, gk_t k, hc, mcI_v]
  refine (gx_o k1 n1).trans ?_
  rw [e_L_burst_17]
theorem w_burst_A (d : Nat) {G G1 : mG} {I I1 : Nat → Nat → Int32} {L L1 : Nat → Nat → Int64} {x o : Nat} {x1 x2 : Int32} (hc : mcal mT d 161 [.ref x, .int x1, .int x2] (G, I, L) = some (.inr "java/lang/IllegalArgumentException", (G1, I1, L1))) (k : gK G x = 12) : mcal mT (d + 1) 327 [.ref x, .int x1, .int x2, .ref o] (G, I, L) = some (.inl (some (.int 1)), (gC G1, I1, L1)) := by
  rw [q_L_burst_, e_L_burst_0, gk_t k, hc, mcI_e]
  simp [mexc, mhand, h_L_burst, mlook, m_L_burst, mnorm, e_L_burst_13]
theorem w_wear (d : Nat) {G G1 : mG} {I I1 : Nat → Nat → Int32} {L L1 : Nat → Nat → Int64} {x o : Nat} {x1 v : Int32} (hc : mcal mT d 114 [.ref x, .int x1] (G, I, L) = some (.inl (some (.int v)), (G1, I1, L1))) (k : gK G x = 12) (k1 : gK G1 o = 21) (n1 : gN G1 o = 1) : mcal mT (d + 1) 328 [.ref x, .int x1, .ref o] (G, I, L) = some (.inl (some (.int 0)), (G1, I1, up2 L1 o 0 (Int32.toInt64 v))) := by
  rw [q_L_wear_, e_L_wear_0, gk_t k, hc, mcI_v]
  refine (gx_o k1 n1).trans ?_
  rw [e_L_wear_15]
theorem w_wear_A (d : Nat) {G G1 : mG} {I I1 : Nat → Nat → Int32} {L L1 : Nat → Nat → Int64} {x o : Nat} {x1 : Int32} (hc : mcal mT d 114 [.ref x, .int x1] (G, I, L) = some (.inr "java/lang/IllegalArgumentException", (G1, I1, L1))) (k : gK G x = 12) : mcal mT (d + 1) 328 [.ref x, .int x1, .ref o] (G, I, L) = some (.inl (some (.int 1)), (gC G1, I1, L1)) := by
  rw [q_L_wear_, e_L_wear_0, gk_t k, hc, mcI_e]
  simp [mexc, mhand, h_L_wear, mlook, m_L_wear, mnorm, e_L_wear_12]
