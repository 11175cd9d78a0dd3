/-! a house read: all begins anew -/
def seB (I : Nat → Nat → Int32) (s : Nat) (v : Int32) : Nat → Nat → Int32 := up2 (up2 (up2 (up2 (up2 (va_up (va_up (va_up I (s + 1) (pre 8 (fun _ => 16) (I (s + 1)))) (s + 2) (pre 24 (fun _ => 0) (I (s + 2)))) (s + 3) (pre 24 (fun _ => 0) (I (s + 3)))) s 3 0) s 4 0) s 5 0) s 6 0) s 10 v
def ba1 (I : Nat → Nat → Int32) (x n : Nat) : Nat → Nat → Int32 := tpB (stB (seB I 132 (I x 16)) 139 x n) 153 x
def ba2 (F : Nat → Nat → Int32) : Nat → Nat → Int32 := va_up F 195 (va_up (va_up (F 195) 0 0) 1 0)
def ba3 (F : Nat → Nat → Int32) : Nat → Nat → Int32 := fil (fil F 215 8 0) 217 40 (-1)
def ba4 (F : Nat → Nat → Int32) : Nat → Nat → Int32 := va_up F 100 (va_up (va_up (F 100) 15 0) 6 0)
def ban (I : Nat → Nat → Int32) (x n : Nat) : Nat → Nat → Int32 := ba4 (ba3 (ba2 (ba1 I x n)))
section
variable {G G2 : mG} {I J : Nat → Nat → Int32} {L K : Nat → Nat → Int64} {B : Nat → Nat} {e a x nr n c : Nat}
theorem h_pair (d r : Nat) (lX : LayX G 101) (lH : LayH G x) (lM : LayM G2 219) (hx : x = 103 ∨ x = 118) (q1 : TxR B e 0 I) (i7 : I 101 7 = -1) (q2 : RdR B e 0 J) : OutM x I J G G2 L K (r + 6) (mcal mT (d + 9) 33 [.ref x, .ref 101] (G, I, L)) (f_X12_house (r + 6) 39 [.ref 219, mU, .int 0] [] (G2, J, K)) := by
  have hcr := c_hclear (d + 6) (I := I) (L := L) lH
  have o : ∀ y, ¬ (x ≤ y ∧ y < x + 14) → hcl I x y = I y := fun y hy => hcl_o hy
  rw [q_X4_readFrom_, e_X4_readFrom_0, r_hclear (r + 6) lM]
  simp only [↓vH lH, ↓mcV_of hcr]
  refine OutM_t (I1 := hcl I x) (J1 := va_up J 221 (hcs (J 221))) ⟨fun y _ h2 => o y h2, fun k _ => by rw [o 101 (by omega)]⟩ (HjF_u HjF_i) ?_
  refine hl_all (B := B) (e := e) d r lX lH lM 41 0 0 0 0 _ _ rfl ⟨?_, RdR_u q2, by rw [up_eq]; exact hcl_H, hx, by rw [o 101 (by omega)]; exact i7⟩
  obtain ⟨x1, x2, x3, x4, x5⟩ := q1
  exact ⟨by rw [o 101 (by omega)]; exact x1, by rw [o 101 (by omega)]; exact x2, x3, x4, by rw [o 102 (by omega)]; exact x5⟩
theorem seB_o {s y : Nat} {v : Int32} (h : y < s ∨ s + 4 ≤ y) : seB I s v y = I y := by
  unfold seB
  simp (disch := omega) only [up2_e, up_ne]
theorem seB_r {s : Nat} {v : Int32} : seB I s v (s + 1) = pre 8 (fun _ => 16) (I (s + 1)) ∧ seB I s v (s + 2) = pre 24 (fun _ => 0) (I (s + 2)) ∧ seB I s v (s + 3) = pre 24 (fun _ => 0) (I (s + 3)) ∧ seB I s v s = va_up (va_up (va_up (va_up (va_up (I s) 3 0) 4 0) 5 0) 6 0) 10 v := by
  unfold seB
  refine ⟨?_, ?_, ?_, ?_⟩ <;> simp (disch := omega) only [up2_e, up_ne, up_eq, up_up]
theorem c_anew (d : Nat) {hs bl bs cl cs : Nat} (lB : LayB G hs bl bs cl cs) (lP : LayP G 117 x 132 139 153) (lH : LayH G x) (lS : LayS G 132) (lT : LayT G 139) (lU : LayU G 153) (lD : LayD G 195) (hx : x + 14 ≤ 132) (hn : I x 10 = Int32.ofNat n) (hn8 : n ≤ 8) : mcal mT (d + 3) 105 [.ref 100] (G, I, L) = some (.inl none, (G, ban I x n, fil L 148 8 0)) := by
  have a1 := c_setBegin d (I := I) (L := L) (I x 16) lS
  rw [show up2 (up2 (up2 (up2 (up2 (va_up (va_up (va_up I (132 + 1) (pre 8 (fun _ => 16) (I (132 + 1)))) (132 + 2) (pre 24 (fun _ => 0) (I (132 + 2)))) (132 + 3) (pre 24 (fun _ => 0) (I (132 + 3)))) 132 3 0) 132 4 0) 132 5 0) 132 6 0) 132 10 (I x 16) = seB I 132 (I x 16) from rfl] at a1
  have a2 := c_stBegin d (I := seB I 132 (I x 16)) (L := L) lT lH (by omega) (by rw [seB_o (by omega)]; exact hn) hn8
  have a3 := c_tapBegin (d + 1) (I := stB (seB I 132 (I x 16)) 139 x n) (L := fil L (139 + 9) 8 0) lU lH
  rw [show tpB (stB (seB I 132 (I x 16)) 139 x n) 153 x = ba1 I x n from rfl] at a3
  have a4 := c_dClear (d + 1) (I := ba1 I x n) (L := fil L (139 + 9) 8 0) lD
  rw [show va_up (ba1 I x n) 195 (va_up (va_up (ba1 I x n 195) 0 0) 1 0) = ba2 (ba1 I x n) from rfl] at a4
  obtain ⟨-, -, -, -, -, -, -, -, -, -, -, -, -, -, -, -, ⟨p5, q5⟩, -, ⟨p7, q7⟩, -⟩ := id lB
  have a5 := c_fillI (d + 1) (I := ba2 (ba1 I x n)) (L := fil L (139 + 9) 8 0) 0 p5 q5 (by decide)
  have a6 := c_fillI (d + 1) (I := fil (ba2 (ba1 I x n)) 215 8 0) (L := fil L (139 + 9) 8 0) (-1) p7 q7 (by decide)
  rw [q_X11_beginAnew_, e_X11_beginAnew_0]
  simp only [↓vB lB, ↓vP lP, ↓vH lH, ↓vS lS, ↓vT lT, ↓vU lU, ↓vD lD, ↓mcV_of a1, ↓mcV_of a2, ↓mcV_of a3, ↓mcV_of a4, ↓mcV_of a5]
  rw [show va_up (ba2 (ba1 I x n)) 215 (pre 8 (fun _ => 0) (ba2 (ba1 I x n) 215)) = fil (ba2 (ba1 I x n)) 215 8 0 from rfl]
  simp only [↓vB lB, ↓mcV_of a6, up2_e, up_eq, up_up]
  rfl
theorem ban_o {y : Nat} (h : ¬ (y = 100 ∨ (132 ≤ y ∧ y < 156) ∨ y = 195 ∨ y = 215 ∨ y = 217)) : ban I x n y = I y := by
  unfold ban ba4 ba3 ba2 ba1
  rw [up_ne (by omega), fil_ne (by omega), fil_ne (by omega), up_ne (by omega), tpB_fr (by omega), stB_fr (by omega), seB_o (by omega)]
theorem ban_m {y : Nat} (h : 132 ≤ y ∧ y < 156) : ban I x n y = ba1 I x n y := by
  unfold ban ba4 ba3 ba2
  rw [up_ne (by omega), fil_ne (by omega), fil_ne (by omega), up_ne (by omega)]
theorem ban_s {y : Nat} (h : 132 ≤ y ∧ y < 136) : ban I x n y = seB I 132 (I x 16) y := by
  rw [ban_m (by omega)]
  unfold ba1
  rw [tpB_fr (by omega), stB_fr (by omega)]
theorem ban_t {y : Nat} (h : 139 ≤ y ∧ y < 153) : ban I x n y = stB (seB I 132 (I x 16)) 139 x n y := by
  rw [ban_m (by omega)]
  unfold ba1
  rw [tpB_fr (by omega)]
theorem ban_u {y : Nat} (h : 153 ≤ y ∧ y < 156) : ban I x n y = tpB (stB (seB I 132 (I x 16)) 139 x n) 153 x y := by
  rw [ban_m (by omega)]
  rfl
theorem ban_x : ban I x n 195 0 = 0 ∧ ban I x n 195 1 = 0 ∧ ban I x n 215 = pre 8 (fun _ => 0) (I 215) ∧ ban I x n 217 = pre 40 (fun _ => -1) (I 217) ∧ ban I x n 100 = va_up (va_up (I 100) 15 0) 6 0 := by
  have o : ∀ y, ¬ (132 ≤ y ∧ y < 156) → ba1 I x n y = I y := fun y hy => by
    unfold ba1
    rw [tpB_fr (by omega), stB_fr (by omega), seB_o (by omega)]
  unfold ban ba4 ba3 ba2
  refine ⟨?_, ?_, ?_, ?_, ?_⟩
  · rw [up_ne (by omega), fil_ne (by omega), fil_ne (by omega), up_eq, up_ne (by decide), up_eq]
  · rw [up_ne (by omega), fil_ne (by omega), fil_ne (by omega), up_eq, up_eq]
  · rw [up_ne (by omega), fil_ne (by omega), fil_eq, up_ne (by omega), o 215 (by omega)]
  · rw [up_ne (by omega), fil_eq, fil_ne (by omega), up_ne (by omega), o 217 (by omega)]
  · rw [up_eq, fil_ne (by omega), fil_ne (by omega), up_ne (by omega), o 100 (by omega)]
/-- the reference's row of settings and state, before it begins -/
def rs0 (H S : Nat → Int32) : Nat → Int32 := va_up (isg 24 8 (fun _ => 16) (pre 173 (fun _ => 0) S)) 167 (H 160)
def ra1 (J : Nat → Nat → Int32) : Nat → Nat → Int32 := va_up (va_up J 219 (va_up (J 219) 9 (-1))) 220 (pre 166 (J 221) (J 220))
def ra2 (J : Nat → Nat → Int32) : Nat → Nat → Int32 := va_up (va_up (ra1 J) 223 (isg 24 8 (fun _ => 16) (pre 173 (fun _ => 0) (J 223)))) 230 (pre 8 (fun _ => 0) (J 230))
def ra3 (J : Nat → Nat → Int32) : Nat → Nat → Int32 := va_up (va_up (ra2 J) 223 (va_up (isg 24 8 (fun _ => 16) (pre 173 (fun _ => 0) (J 223))) 167 (J 221 160))) 240 (pre 40 (fun _ => -1) (J 240))
theorem r_an1 (r : Nat) (lM : LayM G2 219) (h6 : J 219 6 = -1) : f_X12_house (r + 1) 139 [.ref 219, mU, mU] [] (G2, J, K) = f_X12_house (r + 1) 189 [.ref 219, mU, mU] [] (G2, ra1 J, K) := by
  have fi := r_fine r (G := G2) (J := va_up J 219 (va_up (J 219) 9 (-1))) (K := K) lM (by rw [up_eq, up_ne (by decide)]; exact h6)
  rw [e_X12_house_139]
  simp only [↓vM lM, h6, up2_e, ↓mcI_of fi, if_neg (show ¬ (1 : Int32) = 0 by decide), e_X12_house_162]
  generalize hJ1 : va_up J 219 (va_up (J 219) 9 (-1)) = J1
  have A := loopy (fun i (q : Nat → Int32) => f_X12_house (r + 1) 164 [.ref 219, mU, .int i] [] (G2, va_up J1 220 q, K)) (fun k => pre k (J1 221) (J1 220)) 166 _ pre_0 (by
    intro k hk
    try dsimp only
    rw [e_X12_house_164, if_neg (show ¬ (166 : Int32) ≤ Int32.ofNat k from i_ng (a := 166) hk (by decide))]
    simp (disch := omega) only [↓vM lM, show ∀ (F : Nat → Nat → Int32) v w, up2 F (219 + 1) v w = va_up F 220 (va_up (F 220) v w) from fun _ _ _ => rfl, up_eq, up_up, up_ne, i_one]
    rw [pre_s rfl])
  try dsimp only at A
  rw [up_id] at A
  rw [A, e_X12_house_164, if_pos (by decide), ← hJ1, up_ne (by decide), up_ne (by decide)]
  rfl
theorem r_an2 (r : Nat) (lM : LayM G2 219) : f_X12_house (r + 1) 189 [.ref 219, mU, mU] [] (G2, ra1 J, K) = f_X12_house (r + 1) 264 [.ref 219, mU, mU] [] (G2, ra2 J, va_up K 225 (pre 16 (fun _ => 0) (K 225))) := by
  have e3 : ra1 J 223 = J 223 := by unfold ra1; rw [up_ne (by decide), up_ne (by decide)]
  have e0 : ra1 J 230 = J 230 := by unfold ra1; rw [up_ne (by decide), up_ne (by decide)]
  unfold ra2
  generalize ra1 J = J1 at e3 e0
  rw [e_X12_house_189]
  have A := loopy (fun i (q : Nat → Int32) => f_X12_house (r + 1) 191 [.ref 219, mU, .int i] [] (G2, va_up J1 223 q, K)) (fun k => pre k (fun _ => 0) (J 223)) 173 _ pre_0 (by
    intro k hk
    try dsimp only
    rw [e_X12_house_191, if_neg (show ¬ (173 : Int32) ≤ Int32.ofNat k from i_ng (a := 173) hk (by decide))]
    simp (disch := omega) only [↓vM lM, show ∀ (F : Nat → Nat → Int32) v w, up2 F (219 + 4) v w = va_up F 223 (va_up (F 223) v w) from fun _ _ _ => rfl, up_eq, up_up, i_one]
    rw [pre_s rfl])
  try dsimp only at A
  rw [← e3, up_id] at A
  rw [A, e_X12_house_191, if_pos (by decide), e_X12_house_211, e3]
  generalize hJ2 : va_up J1 223 (pre 173 (fun _ => 0) (J 223)) = J2
  have B := loopy (fun i (q : Nat → Int64) => f_X12_house (r + 1) 213 [.ref 219, mU, .int i] [] (G2, J2, va_up K 225 q)) (fun k => pre k (fun _ => 0) (K 225)) 16 _ pre_0 (by
    intro k hk
    try dsimp only
    rw [e_X12_house_213, if_neg (show ¬ (16 : Int32) ≤ Int32.ofNat k from i_ng (a := 16) hk (by decide))]
    simp (disch := omega) only [↓vM lM, show ∀ (F : Nat → Nat → Int64) v w, up2 F (219 + 6) v w = va_up F 225 (va_up (F 225) v w) from fun _ _ _ => rfl, up_eq, up_up, i_one]
    rw [pre_s rfl])
  try dsimp only at B
  rw [up_id] at B
  rw [B, e_X12_house_213, if_pos (by decide), e_X12_house_232]
  generalize va_up K 225 (pre 16 (fun _ => 0) (K 225)) = K1
  have C := loopy (fun i (q : (Nat → Int32) × (Nat → Int32)) => f_X12_house (r + 1) 234 [.ref 219, mU, .int i] [] (G2, va_up (va_up J1 223 q.1) 230 q.2, K1)) (fun k => (isg 24 k (fun _ => 16) (pre 173 (fun _ => 0) (J 223)), pre k (fun _ => 0) (J 230))) 8 (pre 173 (fun _ => 0) (J 223), J 230) (by rw [seg_0, pre_0]) (by
    intro k hk
    try dsimp only
    rw [e_X12_house_234, if_neg (show ¬ (8 : Int32) ≤ Int32.ofNat k from i_ng (a := 8) hk (by decide))]
    simp (disch := omega) only [↓vM lM, ixA, show ∀ (F : Nat → Nat → Int32) v w, up2 F (219 + 4) v w = va_up F 223 (va_up (F 223) v w) from fun _ _ _ => rfl, show ∀ (F : Nat → Nat → Int32) v w, up2 F (219 + 11) v w = va_up F 230 (va_up (F 230) v w) from fun _ _ _ => rfl, up_ne, up_eq, i_one]
    rw [show va_up (va_up (va_up (va_up J1 223 (isg 24 k (fun _ => 16) (pre 173 (fun _ => 0) (J 223)))) 230 (pre k (fun _ => 0) (J 230))) 223 (va_up (isg 24 k (fun _ => 16) (pre 173 (fun _ => 0) (J 223))) (24 + k) 16)) 230 (va_up (pre k (fun _ => 0) (J 230)) k 0) = va_up (va_up J1 223 (va_up (isg 24 k (fun _ => 16) (pre 173 (fun _ => 0) (J 223))) (24 + k) 16)) 230 (va_up (pre k (fun _ => 0) (J 230)) k 0) from by
      funext y
      by_cases y1 : y = 230
      · rw [y1, up_eq, up_eq]
      rw [up_ne y1, up_ne y1]
      by_cases y2 : y = 223
      · rw [y2, up_eq, up_eq]
      rw [up_ne y2, up_ne y1, up_ne y2, up_ne y2], pre_s rfl, seg_s rfl])
  try dsimp only at C
  rw [up_same (show va_up J1 223 (pre 173 (fun _ => 0) (J 223)) 230 = J 230 from by rw [up_ne (by decide)]; exact e0), hJ2] at C
  rw [C, e_X12_house_234, if_pos (by decide)]
end
