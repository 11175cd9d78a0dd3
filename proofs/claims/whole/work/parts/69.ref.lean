/-! the reference: what hangs on the minute -/
theorem r_rooms (d : Nat) {G : mG} {I : Nat → Nat → Int32} {L : Nat → Nat → Int64} {m : Nat} (hM : LayM G m) : mcal mT (d + 1) 199 [.ref m] (G, I, L) = some (.inl (some (.int (I (m + 1) 163))), (G, I, L)) := by
  simp only [q_X12_rooms_, e_X12_rooms_0, ↓vM hM]
theorem r_radiators (d : Nat) {G : mG} {I : Nat → Nat → Int32} {L : Nat → Nat → Int64} {m : Nat} (hM : LayM G m) : mcal mT (d + 1) 200 [.ref m] (G, I, L) = some (.inl (some (.int (I (m + 1) 164))), (G, I, L)) := by
  simp only [q_X12_radiators_, e_X12_radiators_0, ↓vM hM]
def rwr (w1 w2 c : Int32) : Int32 := if w1 = c then 1 else if w2 = c then 1 else 0
theorem r_isWrong (d : Nat) {G : mG} {I : Nat → Nat → Int32} {L : Nat → Nat → Int64} {m : Nat} (a k : Int32) (hM : LayM G m) : mcal mT (d + 1) 206 [.ref m, .int a, .int k] (G, I, L) = some (.inl (some (.int (rwr (I m 15) (I m 16) (10 * a + k)))), (G, I, L)) := by
  simp only [q_X12_isWrong_, e_X12_isWrong_0, e_X12_isWrong_26, e_X12_isWrong_30, e_X12_isWrong_31, ↓vM hM, mb0, mb1]
  unfold rwr
  split
  · rfl
  split
  · rfl
  rfl
theorem r_hour (d : Nat) {G : mG} {I : Nat → Nat → Int32} {L : Nat → Nat → Int64} {m : Nat} (hM : LayM G m) : mcal mT (d + 1) 207 [.ref m] (G, I, L) = some (.inl (some (.int (hou (I (m + 4) 71)))), (G, I, L)) := by
  have z60 : ¬ (60 : Nat) = 0 := by decide
  have z24 : ¬ (24 : Nat) = 0 := by decide
  simp only [q_X12_hour_, e_X12_hour_0, ↓vM hM, if_neg z60, if_neg z24]
  rfl
def rou (cd co : Int32) (S : Nat → Int32) (hr : Nat) : Int32 := if cd = 0 then S (44 + hr) else co
theorem r_outNow (d : Nat) {G : mG} {I : Nat → Nat → Int32} {L : Nat → Nat → Int64} {m hr : Nat} (hM : LayM G m) (hh : hou (I (m + 4) 71) = Int32.ofNat hr) (h24 : hr < 24) : mcal mT (d + 2) 208 [.ref m] (G, I, L) = some (.inl (some (.int (rou (I m 20) (I m 17) (I (m + 4)) hr))), (G, I, L)) := by
  simp only [q_X12_outNow_, e_X12_outNow_0, ↓vM hM]
  unfold rou
  by_cases c : I m 20 = 0
  · simp (disch := omega) only [if_pos c, e_X12_outNow_14, ↓vM hM, ↓mcI_of (r_hour d hM), hh, ixA, e_X12_outNow_26]
  · simp only [if_neg c, e_X12_outNow_26]
def raj (w1 w2 : Int32) (S : Nat → Int32) (k : Nat) : Int32 := if S (32 + k) = 1 then 1 else if rwr w1 w2 (10 * 3 + Int32.ofNat k) = 0 then 0 else 1
theorem r_isAjar (d : Nat) {G : mG} {I : Nat → Nat → Int32} {L : Nat → Nat → Int64} {m k : Nat} (hM : LayM G m) (hk : k < 8) : mcal mT (d + 2) 209 [.ref m, .int (Int32.ofNat k)] (G, I, L) = some (.inl (some (.int (raj (I m 15) (I m 16) (I (m + 4)) k))), (G, I, L)) := by
  simp (disch := omega) only [q_X12_isAjar_, e_X12_isAjar_0, e_X12_isAjar_22, e_X12_isAjar_26, e_X12_isAjar_27, ↓vM hM, ixA, ↓mcI_of (r_isWrong d 3 (Int32.ofNat k) hM), mb0, mb1]
  unfold raj
  split
  · rfl
  split
  · rfl
  rfl
def rni (a b h : Int32) : Int32 := if a = b then 1 else if b ≤ a then (if a ≤ h then 1 else if b ≤ h then 0 else 1) else if h < a then 0 else if b ≤ h then 0 else 1
theorem r_isNight (d : Nat) {G : mG} {I : Nat → Nat → Int32} {L : Nat → Nat → Int64} {m : Nat} (hM : LayM G m) : mcal mT (d + 2) 210 [.ref m] (G, I, L) = some (.inl (some (.int (rni (I (m + 4) 68) (I (m + 4) 69) (hou (I (m + 4) 71))))), (G, I, L)) := by
  simp only [q_X12_isNight_, e_X12_isNight_0, ↓vM hM, ↓mcI_of (r_hour d hM), e_X12_isNight_44, e_X12_isNight_54, e_X12_isNight_58, e_X12_isNight_59, mb0, mb1]
  unfold rni
  repeat' split
  all_goals rfl
def rho (S : Nat → Int32) (x : Int32) : Nat → Int32
  | 0 => x
  | k + 1 => if S 71 < S (155 + 3 * k) then rho S x k else if S (155 + 3 * k + 1) ≤ S 71 then rho S x k else if S (155 + 3 * k + 2) ≤ rho S x k then rho S x k else S (155 + 3 * k + 2)
def rof (nn : Int32) (S : Nat → Int32) (n : Nat) : Int32 := if nn = 0 then rho S (if S 70 ≤ 0 then 0 else if rni (S 68) (S 69) (hou (S 71)) = 0 then 0 else S 70) n else 0
theorem r_off40 (d : Nat) {G : mG} {I : Nat → Nat → Int32} {L : Nat → Nat → Int64} {m n : Nat} (x : Int32) (hM : LayM G m) (hn : I (m + 4) 154 = Int32.ofNat n) (hn4 : n ≤ 4) : f_X12_offNow d 40 [.ref m, .int x, .int 0, mU] [] (G, I, L) = some (.inl (some (.int (rho (I (m + 4)) x n))), (G, I, L)) := by
  have A := loopy (fun i (q : Int32) => f_X12_offNow d 40 [.ref m, .int q, .int i, mU] [] (G, I, L)) (fun k => rho (I (m + 4)) x k) n x rfl (by
    intro k hk
    rw [e_X12_offNow_40]
    simp (disch := omega) only [↓vM hM, hn, if_neg (i_ng hk (by omega)), ixM, ixA, ixR, e_X12_offNow_115]
    dsimp only [rho]
    by_cases c1 : I (m + 4) 71 < I (m + 4) (155 + 3 * k)
    · simp only [if_pos c1]
    by_cases c2 : I (m + 4) (155 + 3 * k + 1) ≤ I (m + 4) 71
    · simp only [if_neg c1, if_pos c2]
    by_cases c3 : I (m + 4) (155 + 3 * k + 2) ≤ rho (I (m + 4)) x k
    · simp only [if_neg c1, if_neg c2, if_pos c3]
    · simp only [if_neg c1, if_neg c2, if_neg c3])
  try dsimp only at A
  rw [A, e_X12_offNow_40]
  simp (disch := omega) only [↓vM hM, hn, if_pos i_rf, e_X12_offNow_121]
theorem r_offNow (d : Nat) {G : mG} {I : Nat → Nat → Int32} {L : Nat → Nat → Int64} {m n : Nat} (hM : LayM G m) (hn : I (m + 4) 154 = Int32.ofNat n) (hn4 : n ≤ 4) : mcal mT (d + 3) 211 [.ref m] (G, I, L) = some (.inl (some (.int (rof (I m 21) (I (m + 4)) n))), (G, I, L)) := by
  simp only [q_X12_offNow_, e_X12_offNow_0, ↓vM hM]
  unfold rof
  by_cases c : I m 21 = 0
  · by_cases c1 : I (m + 4) 70 ≤ 0
    · simp only [if_pos c, e_X12_offNow_9, ↓vM hM, if_pos c1, e_X12_offNow_36, e_X12_offNow_37, r_off40 (d + 2) 0 hM hn hn4]
    by_cases c2 : rni (I (m + 4) 68) (I (m + 4) 69) (hou (I (m + 4) 71)) = 0
    · simp only [if_pos c, e_X12_offNow_9, ↓vM hM, if_neg c1, ↓mcI_of (r_isNight d hM), if_pos c2, e_X12_offNow_36, e_X12_offNow_37, r_off40 (d + 2) 0 hM hn hn4]
    · simp only [if_pos c, e_X12_offNow_9, ↓vM hM, if_neg c1, ↓mcI_of (r_isNight d hM), if_neg c2, e_X12_offNow_37, r_off40 (d + 2) (I (m + 4) 70) hM hn hn4]
  · simp only [if_neg c]
def rwa (H S : Nat → Int32) (hr : Nat) : Int32 := if S (130 + hr) = 0 then H 162 else S (130 + hr)
theorem r_waterNow (d : Nat) {G : mG} {I : Nat → Nat → Int32} {L : Nat → Nat → Int64} {m hr : Nat} (hM : LayM G m) (hh : hou (I (m + 4) 71) = Int32.ofNat hr) (h24 : hr < 24) : mcal mT (d + 2) 212 [.ref m] (G, I, L) = some (.inl (some (.int (rwa (I (m + 1)) (I (m + 4)) hr))), (G, I, L)) := by
  simp (disch := omega) only [q_X12_waterNow_, e_X12_waterNow_0, ↓vM hM, ↓mcI_of (r_hour d hM), hh, ixA, e_X12_waterNow_27, e_X12_waterNow_40]
  unfold rwa
  split
  · rfl
  rfl
def rov (w1 w2 : Int32) (H S : Nat → Int32) (k : Nat) : Int32 := if H (144 + k) = 0 then 16 else if rwr w1 w2 (10 * 1 + Int32.ofNat k) = 0 then (if rwr w1 w2 (10 * 0 + Int32.ofNat k) = 0 then S (8 + k) else 0) else 16
def rop (w1 w2 : Int32) (H S : Nat → Int32) (pi k : Nat) : Int32 := if S (40 + pi) = 1 then 0 else if rwr w1 w2 (10 * 2 + Int32.ofNat pi) = 0 then (if S (24 + k) ≤ rov w1 w2 H S k then S (24 + k) else rov w1 w2 H S k) else 0
theorem rov_c {w1 w2 : Int32} {H S S' : Nat → Int32} {k : Nat} (h : S' (8 + k) = S (8 + k)) : rov w1 w2 H S' k = rov w1 w2 H S k := by
  unfold rov
  rw [h]
theorem rop_c {w1 w2 : Int32} {H S S' : Nat → Int32} {pi k : Nat} (h : S' (8 + k) = S (8 + k)) (h1 : S' (24 + k) = S (24 + k)) (h2 : S' (40 + pi) = S (40 + pi)) : rop w1 w2 H S' pi k = rop w1 w2 H S pi k := by
  unfold rop
  rw [h1, h2, rov_c h]
theorem r_open89 (d : Nat) {G : mG} {I : Nat → Nat → Int32} {L : Nat → Nat → Int64} {m k : Nat} (v : Int32) (hM : LayM G m) (hk : k < 8) : f_X12_openOf d 89 [.ref m, .int (Int32.ofNat k), mU, mU] [.int v] (G, I, L) = some (.inl (some (.int (if I (m + 4) (24 + k) ≤ v then I (m + 4) (24 + k) else v))), (G, I, L)) := by
  simp (disch := omega) only [e_X12_openOf_89, e_X12_openOf_107, e_X12_openOf_116, ↓vM hM, ixA]
  split
  · rfl
  rfl
theorem r_openOf (d : Nat) {G : mG} {I : Nat → Nat → Int32} {L : Nat → Nat → Int64} {m k pi : Nat} (hM : LayM G m) (hk : k < 8) (hp : I (m + 1) (128 + k) = Int32.ofNat pi) (hp4 : pi < 4) : mcal mT (d + 2) 213 [.ref m, .int (Int32.ofNat k)] (G, I, L) = some (.inl (some (.int (rop (I m 15) (I m 16) (I (m + 1)) (I (m + 4)) pi k))), (G, I, L)) := by
  simp (disch := omega) only [q_X12_openOf_, e_X12_openOf_0, ↓vM hM, ixA, hp, ↓mcI_of (r_isWrong d 2 (Int32.ofNat pi) hM), e_X12_openOf_33, e_X12_openOf_35, e_X12_openOf_53, e_X12_openOf_67, e_X12_openOf_80, ↓mcI_of (r_isWrong d 1 (Int32.ofNat k) hM), ↓mcI_of (r_isWrong d 0 (Int32.ofNat k) hM), r_open89 (d + 1) _ hM hk]
  unfold rop rov
  repeat' split
  all_goals first | rfl | contradiction
