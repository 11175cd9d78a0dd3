/-! marks, in class and reference -/
section
variable {G : mG} {I J : Nat → Nat → Int32} {L K : Nat → Nat → Int64} {h hs bl bs cl cs mc k : Nat}
theorem c_keep (d : Nat) (lP : LayP G 117 h 132 139 153) (lS : LayS G 132) (lT : LayT G 139) (lD : LayD G 195) (lK : LayK G k) : mcal mT (d + 2) 52 [.ref k, .ref 117, .ref 195] (G, I, L) = some (.inl none, (G, cpA I 132 139 195 (k + 1) (k + 8) (k + 22), cpr L (139 + 9) (k + 8 + 9) 8)) := by
  obtain ⟨-, -, -, -, l1, l2, l3⟩ := id lK
  have a1 := c_setCopy d (I := I) (L := L) l1 lS
  have a2 := c_stCopy d (I := cpS I (k + 1) 132) (L := L) l2 lT
  have a3 := c_dCopy d (I := cpT (cpS I (k + 1) 132) (k + 8) 139) (L := cpr L (139 + 9) (k + 8 + 9) 8) l3 lD
  simp only [q_X5_keep_, e_X5_keep_0, ↓vK lK, ↓vP lP, ↓vS l1, ↓mcV_of a1, ↓vT l2, ↓mcV_of a2, ↓vD l3, ↓mcV_of a3]
  rfl
theorem c_give (d : Nat) (lP : LayP G 117 h 132 139 153) (lS : LayS G 132) (lT : LayT G 139) (lD : LayD G 195) (lK : LayK G k) : mcal mT (d + 2) 53 [.ref k, .ref 117, .ref 195] (G, I, L) = some (.inl none, (G, cpA I (k + 1) (k + 8) (k + 22) 132 139 195, cpr L (k + 8 + 9) (139 + 9) 8)) := by
  obtain ⟨-, -, -, -, l1, l2, l3⟩ := id lK
  have a1 := c_setCopy d (I := I) (L := L) lS l1
  have a2 := c_stCopy d (I := cpS I 132 (k + 1)) (L := L) lT l2
  have a3 := c_dCopy d (I := cpT (cpS I 132 (k + 1)) 139 (k + 8)) (L := cpr L (k + 8 + 9) (139 + 9) 8) lD l3
  simp only [q_X5_giveBack_, e_X5_giveBack_0, ↓vK lK, ↓vP lP, ↓vS lS, ↓mcV_of a1, ↓vT lT, ↓mcV_of a2, ↓vD lD, ↓mcV_of a3]
  rfl
theorem m2688 (a : Nat) : (2688 : Int32) * Int32.ofNat a = Int32.ofNat (2688 * a) := i_mul 2688 a
def rMk (J : Nat → Nat → Int32) (mc : Nat) : Nat → Nat → Int32 := va_up (va_up (va_up (va_up (va_up (va_up J 219 (va_up (J 219) 0 0)) 246 (isg (173 * mc) 173 (J 223) (J 246))) 247 (isg (2688 * mc) 2688 (J 228) (J 247))) 248 (isg (56 * mc) 56 (J 229) (J 248))) 249 (va_up (J 249) mc (J 219 23))) 219 (va_up (va_up (J 219) 0 0) 51 (Int32.ofNat (mc + 1)))
theorem r_mark (d : Nat) (lM : LayM G 219) (hm : J 219 51 = Int32.ofNat mc) (h4 : mc < 4) : mcal mT (d + 1) 286 [.ref 219] (G, J, K) = some (.inl (some (.int (Int32.ofNat (mc + 1)))), (G, rMk J mc, va_up K 250 (isg (16 * mc) 16 (K 225) (K 250)))) := by
  have n4 : ¬ Int32.ofNat mc = 4 := fun q => by have := (i_eq (b := 4) (by omega) (by decide)).mp q; omega
  simp (disch := omega) only [q_X12_mark_, e_X12_mark_0, ↓vM lM, up2_e, up_eq, up_ne, hm, if_neg n4, e_X12_mark_15]
  have A := loopy (fun i (q : Nat → Int32) => f_X12_mark d 17 [.ref 219, .int i] [] (G, va_up (va_up J 219 (va_up (J 219) 0 0)) 246 q, K)) (fun j => isg (173 * mc) j (J 223) (J 246)) 173 (J 246) seg_0 (by
    intro j hj
    try dsimp only
    rw [e_X12_mark_17, if_neg (show ¬ (173 : Int32) ≤ Int32.ofNat j from i_ng (a := 173) hj (by decide))]
    simp (disch := omega) only [↓vM lM, up_ne, up_eq, hm, ixM, i_add, up2_e, up_up, i_one]
    rw [seg_s rfl])
  try dsimp only at A
  rw [up_same (show va_up J 219 (va_up (J 219) 0 0) 246 = J 246 from up_ne (by decide))] at A
  rw [A, e_X12_mark_17, if_pos (by decide), e_X12_mark_51]
  generalize hA : va_up (va_up J 219 (va_up (J 219) 0 0)) 246 (isg (173 * mc) 173 (J 223) (J 246)) = J1
  have a219 : J1 219 = va_up (J 219) 0 0 := by rw [← hA, up_ne (by decide), up_eq]
  have hm1 : J1 219 51 = Int32.ofNat mc := by rw [a219, up_ne (by decide)]; exact hm
  have B := loopy (fun i (q : Nat → Int64) => f_X12_mark d 53 [.ref 219, .int i] [] (G, J1, va_up K 250 q)) (fun j => isg (16 * mc) j (K 225) (K 250)) 16 (K 250) seg_0 (by
    intro j hj
    try dsimp only
    rw [e_X12_mark_53, if_neg (show ¬ (16 : Int32) ≤ Int32.ofNat j from i_ng (a := 16) hj (by decide))]
    simp (disch := omega) only [↓vM lM, up_ne, up_eq, hm1, ixM, i_add, up2_e, up_up, i_one]
    rw [seg_s rfl])
  try dsimp only at B
  rw [up_id] at B
  rw [B, e_X12_mark_53, if_pos (by decide), e_X12_mark_85]
  have b228 : J1 228 = J 228 := by rw [← hA, up_ne (by decide), up_ne (by decide)]
  have b247 : J1 247 = J 247 := by rw [← hA, up_ne (by decide), up_ne (by decide)]
  have b229 : J1 229 = J 229 := by rw [← hA, up_ne (by decide), up_ne (by decide)]
  have b248 : J1 248 = J 248 := by rw [← hA, up_ne (by decide), up_ne (by decide)]
  have b249 : J1 249 = J 249 := by rw [← hA, up_ne (by decide), up_ne (by decide)]
  have C := loopy (fun i (q : Nat → Int32) => f_X12_mark d 87 [.ref 219, .int i] [] (G, va_up J1 247 q, va_up K 250 (isg (16 * mc) 16 (K 225) (K 250)))) (fun j => isg (2688 * mc) j (J 228) (J 247)) 2688 (J1 247) (by rw [seg_0, b247]) (by
    intro j hj
    try dsimp only
    rw [e_X12_mark_87, if_neg (show ¬ (2688 : Int32) ≤ Int32.ofNat j from i_ng (a := 2688) hj (by decide))]
    simp (disch := omega) only [↓vM lM, up_ne, up_eq, hm1, m2688, i_add, up2_e, up_up, i_one, b228]
    rw [seg_s rfl])
  try dsimp only at C
  rw [up_id] at C
  rw [C, e_X12_mark_87, if_pos (by decide), e_X12_mark_121]
  have D := loopy (fun i (q : Nat → Int32) => f_X12_mark d 123 [.ref 219, .int i] [] (G, va_up (va_up J1 247 (isg (2688 * mc) 2688 (J 228) (J 247))) 248 q, va_up K 250 (isg (16 * mc) 16 (K 225) (K 250)))) (fun j => isg (56 * mc) j (J 229) (J 248)) 56 (J 248) seg_0 (by
    intro j hj
    try dsimp only
    rw [e_X12_mark_123, if_neg (show ¬ (56 : Int32) ≤ Int32.ofNat j from i_ng (a := 56) hj (by decide))]
    simp (disch := omega) only [↓vM lM, up_ne, up_eq, hm1, ixM, i_add, up2_e, up_up, i_one, b229]
    rw [seg_s rfl])
  try dsimp only at D
  rw [up_same (show va_up J1 247 (isg (2688 * mc) 2688 (J 228) (J 247)) 248 = J 248 by rw [up_ne (by decide)]; exact b248)] at D
  rw [D, e_X12_mark_123, if_pos (by decide), e_X12_mark_155]
  simp (disch := omega) only [↓vM lM, up_ne, up_eq, hm1, up2_e, i_one, a219, b249]
  unfold rMk
  rw [hA]
def rBk (J : Nat → Nat → Int32) (mc : Nat) : Nat → Nat → Int32 := va_up (va_up (va_up (va_up (va_up J 219 (va_up (va_up (J 219) 0 0) 51 (Int32.ofNat mc))) 223 (pre 173 (fun j => J 246 (173 * mc + j)) (J 223))) 228 (pre 2688 (fun j => J 247 (2688 * mc + j)) (J 228))) 229 (pre 56 (fun j => J 248 (56 * mc + j)) (J 229))) 219 (va_up (va_up (va_up (J 219) 0 0) 51 (Int32.ofNat mc)) 23 (J 249 mc))
theorem r_back (d : Nat) (lM : LayM G 219) (hm : J 219 51 = Int32.ofNat (mc + 1)) (h4 : mc < 4) : mcal mT (d + 1) 287 [.ref 219] (G, J, K) = some (.inl (some (.int (Int32.ofNat mc))), (G, rBk J mc, va_up K 225 (pre 16 (fun j => K 250 (16 * mc + j)) (K 225)))) := by
  have n4 : ¬ Int32.ofNat (mc + 1) = 0 := fun q => by have := (i_eq (b := 0) (by omega) (by decide)).mp q; omega
  have s1 : Int32.ofNat (mc + 1) - 1 = Int32.ofNat mc := i_sub (a := mc + 1) (b := 1) (by omega) (by omega)
  simp (disch := omega) only [q_X12_back_, e_X12_back_0, ↓vM lM, up2_e, up_eq, up_ne, hm, if_neg n4, e_X12_back_14, s1, up_up]
  generalize hA : va_up J 219 (va_up (va_up (J 219) 0 0) 51 (Int32.ofNat mc)) = J1
  have a219 : J1 219 = va_up (va_up (J 219) 0 0) 51 (Int32.ofNat mc) := by rw [← hA, up_eq]
  have hm1 : J1 219 51 = Int32.ofNat mc := by rw [a219, up_eq]
  have o : ∀ a, a ≠ 219 → J1 a = J a := fun a ha => by rw [← hA, up_ne ha]
  have A := loopy (fun i (q : Nat → Int32) => f_X12_back d 26 [.ref 219, .int i] [] (G, va_up J1 223 q, K)) (fun j => pre j (fun j => J 246 (173 * mc + j)) (J 223)) 173 (J1 223) (by rw [pre_0, o _ (by decide)]) (by
    intro j hj
    try dsimp only
    rw [e_X12_back_26, if_neg (show ¬ (173 : Int32) ≤ Int32.ofNat j from i_ng (a := 173) hj (by decide))]
    simp (disch := omega) only [↓vM lM, up_ne, up_eq, hm1, ixM, i_add, up2_e, up_up, i_one, o]
    rw [pre_s rfl])
  try dsimp only at A
  rw [up_id] at A
  rw [A, e_X12_back_26, if_pos (by decide), e_X12_back_60]
  have B := loopy (fun i (q : Nat → Int64) => f_X12_back d 62 [.ref 219, .int i] [] (G, va_up J1 223 (pre 173 (fun j => J 246 (173 * mc + j)) (J 223)), va_up K 225 q)) (fun j => pre j (fun j => K 250 (16 * mc + j)) (K 225)) 16 (K 225) pre_0 (by
    intro j hj
    try dsimp only
    rw [e_X12_back_62, if_neg (show ¬ (16 : Int32) ≤ Int32.ofNat j from i_ng (a := 16) hj (by decide))]
    simp (disch := omega) only [↓vM lM, up_ne, up_eq, hm1, ixM, i_add, up2_e, up_up, i_one]
    rw [pre_s rfl])
  try dsimp only at B
  rw [up_id] at B
  rw [B, e_X12_back_62, if_pos (by decide), e_X12_back_94]
  generalize hB : va_up J1 223 (pre 173 (fun j => J 246 (173 * mc + j)) (J 223)) = J2
  have o2 : ∀ a, a ≠ 223 → J2 a = J1 a := fun a ha => by rw [← hB, up_ne ha]
  have hm2 : J2 219 51 = Int32.ofNat mc := by rw [o2 _ (by decide)]; exact hm1
  have C := loopy (fun i (q : Nat → Int32) => f_X12_back d 96 [.ref 219, .int i] [] (G, va_up J2 228 q, va_up K 225 (pre 16 (fun j => K 250 (16 * mc + j)) (K 225)))) (fun j => pre j (fun j => J 247 (2688 * mc + j)) (J 228)) 2688 (J2 228) (by rw [pre_0, o2 _ (by decide), o _ (by decide)]) (by
    intro j hj
    try dsimp only
    rw [e_X12_back_96, if_neg (show ¬ (2688 : Int32) ≤ Int32.ofNat j from i_ng (a := 2688) hj (by decide))]
    simp (disch := omega) only [↓vM lM, up_ne, up_eq, hm2, m2688, i_add, up2_e, up_up, i_one, o2, o]
    rw [pre_s rfl])
  try dsimp only at C
  rw [up_id] at C
  rw [C, e_X12_back_96, if_pos (by decide), e_X12_back_130]
  have D := loopy (fun i (q : Nat → Int32) => f_X12_back d 132 [.ref 219, .int i] [] (G, va_up (va_up J2 228 (pre 2688 (fun j => J 247 (2688 * mc + j)) (J 228))) 229 q, va_up K 225 (pre 16 (fun j => K 250 (16 * mc + j)) (K 225)))) (fun j => pre j (fun j => J 248 (56 * mc + j)) (J 229)) 56 (J 229) pre_0 (by
    intro j hj
    try dsimp only
    rw [e_X12_back_132, if_neg (show ¬ (56 : Int32) ≤ Int32.ofNat j from i_ng (a := 56) hj (by decide))]
    simp (disch := omega) only [↓vM lM, up_ne, up_eq, hm2, ixM, i_add, up2_e, up_up, i_one, o2, o]
    rw [pre_s rfl])
  try dsimp only at D
  rw [up_same (show va_up J2 228 (pre 2688 (fun j => J 247 (2688 * mc + j)) (J 228)) 229 = J 229 by rw [up_ne (by decide), o2 _ (by decide), o _ (by decide)])] at D
  rw [D, e_X12_back_132, if_pos (by decide), e_X12_back_164]
  simp (disch := omega) only [↓vM lM, up_ne, up_eq, hm2, up2_e, o2, o, a219]
  unfold rBk
  rw [hA, hB]
end
