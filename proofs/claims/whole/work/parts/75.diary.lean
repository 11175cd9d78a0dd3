/-! pages of a diary -/
def pgv (T A Q W O D P : Nat → Int32) (j : Nat) : Int32 := if j % 7 = 0 then (if P j ≤ T (j / 7) then P j else T (j / 7)) else if j % 7 = 1 then (if T (j / 7) ≤ P j then P j else T (j / 7)) else if j % 7 = 2 then P j + A (j / 7) else if j % 7 = 3 then P j + Q (j / 7) else if j % 7 = 4 then P j + W (j / 7) else if j % 7 = 5 then P j + O (j / 7) else P j + D (j / 7)
theorem pgv_0 {T A Q W O D P : Nat → Int32} {k : Nat} : pgv T A Q W O D P (7 * k) = if P (7 * k) ≤ T k then P (7 * k) else T k := by
  unfold pgv
  rw [show 7 * k % 7 = 0 by omega, show 7 * k / 7 = k by omega, if_pos rfl]
theorem pgv_1 {T A Q W O D P : Nat → Int32} {k : Nat} : pgv T A Q W O D P (7 * k + 1) = if T k ≤ P (7 * k + 1) then P (7 * k + 1) else T k := by
  unfold pgv
  rw [show (7 * k + 1) % 7 = 1 by omega, show (7 * k + 1) / 7 = k by omega, if_neg (by decide), if_pos rfl]
theorem pgv_2 {T A Q W O D P : Nat → Int32} {k : Nat} : pgv T A Q W O D P (7 * k + 2) = P (7 * k + 2) + A k := by
  unfold pgv
  rw [show (7 * k + 2) % 7 = 2 by omega, show (7 * k + 2) / 7 = k by omega, if_neg (by decide), if_neg (by decide), if_pos rfl]
theorem pgv_3 {T A Q W O D P : Nat → Int32} {k : Nat} : pgv T A Q W O D P (7 * k + 3) = P (7 * k + 3) + Q k := by
  unfold pgv
  rw [show (7 * k + 3) % 7 = 3 by omega, show (7 * k + 3) / 7 = k by omega, if_neg (by decide), if_neg (by decide), if_neg (by decide), if_pos rfl]
theorem pgv_4 {T A Q W O D P : Nat → Int32} {k : Nat} : pgv T A Q W O D P (7 * k + 4) = P (7 * k + 4) + W k := by
  unfold pgv
  rw [show (7 * k + 4) % 7 = 4 by omega, show (7 * k + 4) / 7 = k by omega, if_neg (by decide), if_neg (by decide), if_neg (by decide), if_neg (by decide), if_pos rfl]
theorem pgv_5 {T A Q W O D P : Nat → Int32} {k : Nat} : pgv T A Q W O D P (7 * k + 5) = P (7 * k + 5) + O k := by
  unfold pgv
  rw [show (7 * k + 5) % 7 = 5 by omega, show (7 * k + 5) / 7 = k by omega, if_neg (by decide), if_neg (by decide), if_neg (by decide), if_neg (by decide), if_neg (by decide), if_pos rfl]
theorem pgv_6 {T A Q W O D P : Nat → Int32} {k : Nat} : pgv T A Q W O D P (7 * k + 6) = P (7 * k + 6) + D k := by
  unfold pgv
  rw [show (7 * k + 6) % 7 = 6 by omega, show (7 * k + 6) / 7 = k by omega, if_neg (by decide), if_neg (by decide), if_neg (by decide), if_neg (by decide), if_neg (by decide), if_neg (by decide)]
theorem pre_s2 {α : Type} {k k' : Nat} {F g : Nat → α} {v : α} (hk : k' = k + 1) (hv : v = F k) : va_up (pre k F g) k v = pre k' F g := by rw [hk]; exact pre_s hv
theorem pre_7 {F P : Nat → Int32} {a : Nat} {v0 v1 v2 v3 v4 v5 v6 : Int32} (h0 : v0 = F a) (h1 : v1 = F (a + 1)) (h2 : v2 = F (a + 2)) (h3 : v3 = F (a + 3)) (h4 : v4 = F (a + 4)) (h5 : v5 = F (a + 5)) (h6 : v6 = F (a + 6)) : va_up (va_up (va_up (va_up (va_up (va_up (va_up (pre a F P) a v0) (a + 1) v1) (a + 2) v2) (a + 3) v3) (a + 4) v4) (a + 5) v5) (a + 6) v6 = pre (a + 7) F P := by
  rw [pre_s2 (k' := a + 1) rfl h0, pre_s2 (k' := a + 2) rfl h1, pre_s2 (k' := a + 3) rfl h2, pre_s2 (k' := a + 4) rfl h3, pre_s2 (k' := a + 5) rfl h4, pre_s2 (k' := a + 6) rfl h5, pre_s2 (k' := a + 7) rfl h6]
/-- the reference's page after a minute -/
def mPg (S P : Nat → Int32) : Nat → Int32 := pgv S (fun r => S (32 + r)) (fun r => S (98 + r)) (fun r => S (74 + r)) (fun r => S (82 + r)) (fun r => S (90 + r)) P
theorem r_wri2 (d : Nat) {G : mG} {I : Nat → Nat → Int32} {L : Nat → Nat → Int64} {m nr : Nat} (hM : LayM G m) (hnr : I (m + 1) 163 = Int32.ofNat nr) (hnr8 : nr ≤ 8) : f_X12_writes (d + 1) 2 [.ref m, .int 0, mU, mU] [] (G, I, L) = f_X12_writes (d + 1) 195 [.ref m, mU, mU, mU] [] (G, va_up I (m + 10) (pre (7 * nr) (mPg (I (m + 4)) (I (m + 10))) (I (m + 10))), L) := by
  have A := loopy (fun i (q : Nat → Int32) => f_X12_writes (d + 1) 2 [.ref m, .int i, mU, mU] [] (G, va_up I (m + 10) q, L)) (fun k => pre (7 * k) (mPg (I (m + 4)) (I (m + 10))) (I (m + 10))) nr _ pre_0 (by
    intro k hk
    try dsimp only
    generalize hR : pre (7 * k) (mPg (I (m + 4)) (I (m + 10))) (I (m + 10)) = R
    have o : ∀ j, 7 * k ≤ j → R j = I (m + 10) j := by
      intro j hj
      rw [← hR, pre_ge (by omega)]
    have t87 : ∀ y z : Int32, y = mPg (I (m + 4)) (I (m + 10)) (7 * k) → z = mPg (I (m + 4)) (I (m + 10)) (7 * k + 1) → f_X12_writes (d + 1) 87 [.ref m, .int (Int32.ofNat k), .int (Int32.ofNat (7 * k)), mU] [.int z, .int (Int32.ofNat (7 * k + 1)), .ref (m + 10)] (G, va_up I (m + 10) (va_up R (7 * k) y), L) = f_X12_writes (d + 1) 2 [.ref m, .int (Int32.ofNat (k + 1)), mU, mU] [] (G, va_up I (m + 10) (pre (7 * (k + 1)) (mPg (I (m + 4)) (I (m + 10))) (I (m + 10))), L) := by
      intro y z hy hz
      rw [e_X12_writes_87]
      simp (disch := omega) only [↓vM hM, ixA, ixR, up2_e, up_eq, up_up, up_ne, o]
      rw [← hR, pre_7 hy hz pgv_2.symm pgv_3.symm pgv_4.symm pgv_5.symm pgv_6.symm, Nat.mul_succ]
    have t55 : ∀ y : Int32, y = mPg (I (m + 4)) (I (m + 10)) (7 * k) → f_X12_writes (d + 1) 55 [.ref m, .int (Int32.ofNat k), .int (Int32.ofNat (7 * k)), .int (I (m + 4) k)] [.int y, .int (Int32.ofNat (7 * k)), .ref (m + 10)] (G, va_up I (m + 10) R, L) = f_X12_writes (d + 1) 2 [.ref m, .int (Int32.ofNat (k + 1)), mU, mU] [] (G, va_up I (m + 10) (pre (7 * (k + 1)) (mPg (I (m + 4)) (I (m + 10))) (I (m + 10))), L) := by
      intro y hy
      have z1 : mPg (I (m + 4)) (I (m + 10)) (7 * k + 1) = if I (m + 4) k ≤ I (m + 10) (7 * k + 1) then I (m + 10) (7 * k + 1) else I (m + 4) k := pgv_1
      rw [e_X12_writes_55]
      by_cases c : I (m + 4) k ≤ I (m + 10) (7 * k + 1)
      · rw [if_pos c] at z1
        simp (disch := omega) only [↓vM hM, ixR, up2_e, up_eq, up_up, up_ne, o, if_pos c, e_X12_writes_79]
        exact t87 y _ hy z1.symm
      · rw [if_neg c] at z1
        simp (disch := omega) only [↓vM hM, ixR, up2_e, up_eq, up_up, up_ne, o, if_neg c]
        exact t87 y _ hy z1.symm
    have z0 : mPg (I (m + 4)) (I (m + 10)) (7 * k) = if I (m + 10) (7 * k) ≤ I (m + 4) k then I (m + 10) (7 * k) else I (m + 4) k := pgv_0
    rw [e_X12_writes_2]
    by_cases c : I (m + 10) (7 * k) ≤ I (m + 4) k
    · rw [if_pos c] at z0
      simp (disch := omega) only [↓vM hM, ↓mcI_of (r_rooms d hM), up_ne, hnr, if_neg (i_ng hk (by omega)), ixZ, ixM, up_eq, o, if_pos c, e_X12_writes_47]
      exact t55 _ z0.symm
    · rw [if_neg c] at z0
      simp (disch := omega) only [↓vM hM, ↓mcI_of (r_rooms d hM), up_ne, hnr, if_neg (i_ng hk (by omega)), ixZ, ixM, up_eq, o, if_neg c]
      exact t55 _ z0.symm)
  try dsimp only at A
  rw [up_id] at A
  rw [A, e_X12_writes_2]
  simp (disch := omega) only [↓vM hM, ↓mcI_of (r_rooms d hM), up_ne, hnr, if_pos i_rf]
/-- a page cleared -/
def iclr (a : Int32) (j : Nat) : Int32 := if j % 7 = 0 then a else if j % 7 = 1 then -a else 0
theorem r_clearHour (d : Nat) {G : mG} {I : Nat → Nat → Int32} {L : Nat → Nat → Int64} {m : Nat} (hM : LayM G m) : mcal mT (d + 1) 216 [.ref m] (G, I, L) = some (.inl none, (G, va_up I (m + 10) (pre 56 (iclr 10000) (I (m + 10))), L)) := by
  simp only [q_X12_clearHour_, e_X12_clearHour_0]
  have A := loopy (fun i (q : Nat → Int32) => f_X12_clearHour d 2 [.ref m, .int i, mU] [] (G, va_up I (m + 10) q, L)) (fun k => pre (7 * k) (iclr 10000) (I (m + 10))) 8 _ pre_0 (by
    intro k hk
    try dsimp only
    rw [e_X12_clearHour_2, if_neg (show ¬ (8 : Int32) ≤ Int32.ofNat k from i_ng (a := 8) hk (by decide))]
    have B := loopy (fun i (q : Nat → Int32) => f_X12_clearHour d 10 [.ref m, .int (Int32.ofNat k), .int i] [] (G, va_up I (m + 10) q, L)) (fun c => isg (7 * k) c (fun _ => 0) (pre (7 * k) (iclr 10000) (I (m + 10)))) 7 _ seg_0 (by
      intro c hc
      try dsimp only
      rw [e_X12_clearHour_10, if_neg (show ¬ (7 : Int32) ≤ Int32.ofNat c from i_ng (a := 7) hc (by decide))]
      simp (disch := omega) only [↓vM hM, ixM, i_add, up2_e, up_eq, up_up, i_one]
      rw [seg_s rfl])
    try dsimp only at B
    rw [B, e_X12_clearHour_10, if_pos (by decide), e_X12_clearHour_34]
    simp (disch := omega) only [↓vM hM, ixM, ixZ, ixR, up2_e, up_eq, up_up, i_one]
    congr 4
    funext j
    by_cases q0 : j = 7 * k + 1
    · rw [q0, up_eq, pre_lt (by omega)]
      unfold iclr
      rw [show (7 * k + 1) % 7 = 1 by omega, if_neg (by decide), if_pos rfl]
    rw [up_ne q0]
    by_cases q1 : j = 7 * k
    · rw [q1, up_eq, pre_lt (by omega)]
      unfold iclr
      rw [show 7 * k % 7 = 0 by omega, if_pos rfl]
    rw [up_ne q1]
    by_cases q2 : 7 * k ≤ j ∧ j < 7 * k + 7
    · rw [seg_sh (v := (0 : Int32)) (by omega) (by omega), pre_lt (by omega)]
      unfold iclr
      rw [if_neg (by omega), if_neg (by omega)]
    · rw [seg_out (by omega)]
      by_cases q3 : j < 7 * k
      · rw [pre_lt q3, pre_lt (by omega)]
      · rw [pre_ge q3, pre_ge (by omega)])
  try dsimp only at A
  rw [up_id] at A
  rw [A, e_X12_clearHour_2, if_pos (by decide), e_X12_clearHour_68]
theorem i_60 {M : Nat} (h : M < 2147483648) : Int32.ofNat M - Int32.ofNat M / 60 * 60 = Int32.ofNat (M % 60) := i_rem (b := 60) h (by decide)
theorem r_writesNo (d : Nat) {G : mG} {I : Nat → Nat → Int32} {L : Nat → Nat → Int64} {m nr M : Nat} (hM : LayM G m) (hnr : I (m + 1) 163 = Int32.ofNat nr) (hnr8 : nr ≤ 8) (hm : I (m + 4) 71 = Int32.ofNat M) (hM2 : M < 2147483648) (hz : ¬ M % 60 = 0) : mcal mT (d + 2) 217 [.ref m] (G, I, L) = some (.inl none, (G, va_up I (m + 10) (pre (7 * nr) (mPg (I (m + 4)) (I (m + 10))) (I (m + 10))), L)) := by
  have z : ¬ (60 : Nat) = 0 := by decide
  have q : ¬ Int32.ofNat (M % 60) = 0 := by
    rw [show (0 : Int32) = Int32.ofNat 0 from rfl, i_eq (by omega) (by decide)]
    exact hz
  simp only [q_X12_writes_, e_X12_writes_0]
  rw [r_wri2 d hM hnr hnr8, e_X12_writes_195]
  simp (disch := omega) only [↓vM hM, up_ne, hm, if_neg z, i_60 hM2, if_neg q]
/-- how the hours move up -/
def mDs (D P : Nat → Int32) (hN : Nat) : Nat → Int32 := if hN = 48 then isg (56 * 47) 56 P (pre 2632 (fun j => D (j + 56)) D) else isg (56 * hN) 56 P D
def mHs (hN : Nat) : Nat := if hN = 48 then 48 else hN + 1
theorem r_wri258 (d : Nat) {G : mG} {I : Nat → Nat → Int32} {L : Nat → Nat → Int64} {m hN : Nat} (hM : LayM G m) (hh : I m 23 = Int32.ofNat hN) (h48 : hN < 48) : f_X12_writes (d + 1) 258 [.ref m, mU, mU, mU] [] (G, I, L) = some (.inl none, (G, va_up (va_up (va_up I m (va_up (I m) 23 (Int32.ofNat (hN + 1)))) (m + 9) (isg (56 * hN) 56 (I (m + 10)) (I (m + 9)))) (m + 10) (pre 56 (iclr 10000) (I (m + 10))), L)) := by
  rw [e_X12_writes_258]
  have A := loopy (fun i (q : Nat → Int32) => f_X12_writes (d + 1) 260 [.ref m, .int i, mU, mU] [] (G, va_up I (m + 9) q, L)) (fun k => isg (56 * hN) k (I (m + 10)) (I (m + 9))) 56 _ seg_0 (by
    intro k hk
    try dsimp only
    rw [e_X12_writes_260, if_neg (show ¬ (56 : Int32) ≤ Int32.ofNat k from i_ng (a := 56) hk (by decide))]
    simp (disch := omega) only [↓vM hM, up_ne, hh, ixM, i_add, up2_e, up_eq, up_up, i_one]
    rw [seg_s rfl])
  try dsimp only at A
  rw [up_id] at A
  rw [A, e_X12_writes_260, if_pos (by decide), e_X12_writes_292]
  simp (disch := omega) only [↓vM hM, up_ne, hh, i_one, up2_e, ↓mcV_of (r_clearHour d hM)]
  rw [up_com (F := I) (a := m + 9) (b := m) (by omega)]
theorem r_writesYes (d : Nat) {G : mG} {I : Nat → Nat → Int32} {L : Nat → Nat → Int64} {m nr M hN : Nat} (hM : LayM G m) (hnr : I (m + 1) 163 = Int32.ofNat nr) (hnr8 : nr ≤ 8) (hm : I (m + 4) 71 = Int32.ofNat M) (hM2 : M < 2147483648) (hz : M % 60 = 0) (hh : I m 23 = Int32.ofNat hN) (h48 : hN ≤ 48) : mcal mT (d + 2) 217 [.ref m] (G, I, L) = some (.inl none, (G, va_up (va_up (va_up I m (va_up (I m) 23 (Int32.ofNat (mHs hN)))) (m + 9) (mDs (I (m + 9)) (pre (7 * nr) (mPg (I (m + 4)) (I (m + 10))) (I (m + 10))) hN)) (m + 10) (pre 56 (iclr 10000) (pre (7 * nr) (mPg (I (m + 4)) (I (m + 10))) (I (m + 10)))), L)) := by
  have z : ¬ (60 : Nat) = 0 := by decide
  have z2 : ¬ (48 : Nat) = 0 := by decide
  simp only [q_X12_writes_, e_X12_writes_0]
  rw [r_wri2 d hM hnr hnr8, e_X12_writes_195]
  simp (disch := omega) only [↓vM hM, up_ne, hm, if_neg z, i_60 hM2, hz]
  rw [if_pos (show Int32.ofNat 0 = 0 from rfl), e_X12_writes_209]
  simp (disch := omega) only [↓vM hM, up_ne, hh]
  unfold mDs mHs
  generalize pre (7 * nr) (mPg (I (m + 4)) (I (m + 10))) (I (m + 10)) = P
  by_cases c : hN = 48
  · rw [if_pos (by rw [c]; rfl), if_pos c, if_pos c]
    have A := loopy (fun i (q : Nat → Int32) => f_X12_writes (d + 1) 220 [.ref m, .int i, mU, mU] [] (G, va_up (va_up I (m + 10) P) (m + 9) q, L)) (fun k => pre k (fun j => I (m + 9) (j + 56)) (I (m + 9))) 2632 _ pre_0 (by
      intro k hk
      try dsimp only
      rw [e_X12_writes_220, if_neg (show ¬ (2632 : Int32) ≤ Int32.ofNat k from i_ng (a := 2632) hk (by decide))]
      simp (disch := omega) only [↓vM hM, i_56, up2_e, up_eq, up_up, pre_ge, i_one]
      rw [pre_s rfl])
    try dsimp only at A
    rw [up_same (by rw [up_ne (by omega)])] at A
    rw [A, e_X12_writes_220, if_pos (by decide), e_X12_writes_248]
    have B := r_wri258 d (I := va_up (va_up (va_up I m (va_up (I m) 23 47)) (m + 10) P) (m + 9) (pre 2632 (fun j => I (m + 9) (j + 56)) (I (m + 9)))) (L := L) (hN := 47) hM (by simp (disch := omega) only [up_ne, up_eq]; rfl) (by decide)
    simp (disch := omega) only [up_ne, up_eq, up_up] at B
    simp (disch := omega) only [↓vM hM, up_ne, hh, c, up2_e]
    have e : Int32.ofNat 48 - 1 = 47 := by decide
    rw [e, up_com (F := va_up I (m + 10) P) (a := m + 9) (b := m) (by omega), up_com (F := I) (a := m + 10) (b := m) (by omega), B]
    congr 4
    funext a
    by_cases q1 : a = m + 10
    · rw [q1, up_eq, up_eq]
    rw [up_ne q1, up_ne q1]
    by_cases q2 : a = m + 9
    · rw [q2, up_eq, up_eq]
    rw [up_ne q2, up_ne q2]
    by_cases q3 : a = m
    · rw [q3, up_eq, up_eq]
    rw [up_ne q3, up_ne q3]
    rw [up_ne q2, up_ne q1, up_ne q3]
  · have c' : ¬ Int32.ofNat hN = 48 := by
      rw [show (48 : Int32) = Int32.ofNat 48 from rfl, i_eq (by omega) (by decide)]
      exact c
    rw [if_neg c', if_neg c, if_neg c]
    have B := r_wri258 d (I := va_up I (m + 10) P) (L := L) (hN := hN) hM (by simp (disch := omega) only [up_ne]; exact hh) (by omega)
    simp (disch := omega) only [up_ne, up_eq] at B
    rw [B]
    congr 4
    funext a
    by_cases q1 : a = m + 10
    · rw [q1, up_eq, up_eq]
    rw [up_ne q1, up_ne q1]
    by_cases q2 : a = m + 9
    · rw [q2, up_eq, up_eq]
    rw [up_ne q2, up_ne q2]
    by_cases q3 : a = m
    · rw [q3, up_eq, up_eq]
    rw [up_ne q3, up_ne q3, up_ne q1]
