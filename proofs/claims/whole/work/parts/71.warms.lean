/-! the reference: rooms warm -/
def rwl (H S : Nat → Int32) (nr r : Nat) : Int32 := sm nr (fun o => H (56 + 8 * r + o) * (S r - S o) / 100)
def rht (H S : Nat → Int32) (n r : Nat) : Int32 := sm n (fun k => if H (120 + k) = Int32.ofNat r then S (122 + k) else 0)
def rlo (H S : Nat → Int32) (out : Int32) (r : Nat) : Int32 := H (16 + r) * (S r - out) / 100
def rlw (w1 w2 : Int32) (H S : Nat → Int32) (out : Int32) (r : Nat) : Int32 := if raj w1 w2 S r = 0 then 0 else H (24 + r) * (S r - out) / 100
def rsu (H : Nat → Int32) (hr r : Nat) : Int32 := if Int32.ofNat hr < H (40 + r) then 0 else if H (48 + r) ≤ Int32.ofNat hr then 0 else H (32 + r)
def rcl (v : Int32) : Int32 := if -9999 ≤ v then (if v ≤ 9999 then v else 9999) else -9999
def rwv (w1 w2 : Int32) (H S : Nat → Int32) (out : Int32) (hr nr n r : Nat) : Int32 := rcl (S r + (rht H S n r + rsu H hr r - rwl H S nr r - rlo H S out r - rlw w1 w2 H S out r) / H r)
def rsB (w1 w2 : Int32) (H S : Nat → Int32) (out : Int32) (hr nr n r : Nat) : Nat → Int32 := va_up (va_up (va_up (va_up (va_up S (74 + r) (rwl H S nr r)) (82 + r) (rlo H S out r)) (90 + r) (rlw w1 w2 H S out r)) (98 + r) (rht H S n r)) (106 + r) (rsu H hr r)
theorem raj_c {w1 w2 : Int32} {S S' : Nat → Int32} {k : Nat} (h : S' (32 + k) = S (32 + k)) : raj w1 w2 S' k = raj w1 w2 S k := by
  unfold raj
  rw [h]
theorem r_war20 (d : Nat) {G : mG} {I : Nat → Nat → Int32} {L : Nat → Nat → Int64} {m nr r : Nat} (t out : Int32) (hM : LayM G m) (hnr : I (m + 1) 163 = Int32.ofNat nr) (hnr8 : nr ≤ 8) (hr8 : r < 8) (ht : t = I (m + 4) r) : f_X12_warms (d + 1) 20 [.ref m, .int (Int32.ofNat r), .int t, .int out, .int 0, .int 0, mU, mU] [] (G, I, L) = f_X12_warms (d + 1) 76 [.ref m, .int (Int32.ofNat r), .int t, .int out, .int (rwl (I (m + 1)) (I (m + 4)) nr r), .int 0, .int 0, mU] [] (G, I, L) := by
  have z : ¬ (100 : Nat) = 0 := by decide
  have A := loopy (fun i (q : Int32) => f_X12_warms (d + 1) 20 [.ref m, .int (Int32.ofNat r), .int t, .int out, .int q, .int i, mU, mU] [] (G, I, L)) (fun k => sm k (fun o => I (m + 1) (56 + 8 * r + o) * (I (m + 4) r - I (m + 4) o) / 100)) nr 0 rfl (by
    intro k hk
    try dsimp only
    rw [e_X12_warms_20]
    simp (disch := omega) only [↓vM hM, ↓mcI_of (r_rooms d hM), hnr, if_neg (i_ng hk (by omega)), ixM, ixA, i_add, ixZ, if_neg z, i_one, sm_s, ht])
  try dsimp only at A
  rw [A, e_X12_warms_20]
  simp (disch := omega) only [↓vM hM, ↓mcI_of (r_rooms d hM), hnr, if_pos i_rf, e_X12_warms_70]
  rfl
theorem r_war76 (d : Nat) {G : mG} {I : Nat → Nat → Int32} {L : Nat → Nat → Int64} {m n r : Nat} (t out w : Int32) (hM : LayM G m) (hn : I (m + 1) 164 = Int32.ofNat n) (hn8 : n ≤ 8) : f_X12_warms (d + 1) 76 [.ref m, .int (Int32.ofNat r), .int t, .int out, .int w, .int 0, .int 0, mU] [] (G, I, L) = f_X12_warms (d + 1) 124 [.ref m, .int (Int32.ofNat r), .int t, .int out, .int w, .int (rht (I (m + 1)) (I (m + 4)) n r), mU, mU] [] (G, I, L) := by
  have A := loopy (fun i (q : Int32) => f_X12_warms (d + 1) 76 [.ref m, .int (Int32.ofNat r), .int t, .int out, .int w, .int q, .int i, mU] [] (G, I, L)) (fun k => sm k (fun j => if I (m + 1) (120 + j) = Int32.ofNat r then I (m + 4) (122 + j) else 0)) n 0 rfl (by
    intro k hk
    try dsimp only
    rw [e_X12_warms_76]
    by_cases c : I (m + 1) (120 + k) = Int32.ofNat r
    · simp (disch := omega) only [↓vM hM, ↓mcI_of (r_radiators d hM), hn, if_neg (i_ng hk (by omega)), ixA, c, if_true, e_X12_warms_115, i_one, sm_s]
    · simp (disch := omega) only [↓vM hM, ↓mcI_of (r_radiators d hM), hn, if_neg (i_ng hk (by omega)), ixA, if_neg c, e_X12_warms_114, e_X12_warms_115, i_one, sm_s])
  try dsimp only at A
  rw [A, e_X12_warms_76]
  simp (disch := omega) only [↓vM hM, ↓mcI_of (r_radiators d hM), hn, if_pos i_rf]
  rfl
theorem r_warms (d : Nat) {G : mG} {I : Nat → Nat → Int32} {L : Nat → Nat → Int64} {m nr n r hr : Nat} {out : Int32} (hM : LayM G m) (hnr : I (m + 1) 163 = Int32.ofNat nr) (hnr8 : nr ≤ 8) (hn : I (m + 1) 164 = Int32.ofNat n) (hn8 : n ≤ 8) (hr8 : r < 8) (hh : hou (I (m + 4) 71) = Int32.ofNat hr) (h24 : hr < 24) (ho : out = rou (I m 20) (I m 17) (I (m + 4)) hr) (hms : ¬ I (m + 1) r = 0) : mcal mT (d + 3) 223 [.ref m, .int (Int32.ofNat r)] (G, I, L) = some (.inl (some (.int (rwv (I m 15) (I m 16) (I (m + 1)) (I (m + 4)) out hr nr n r))), (G, va_up I (m + 4) (rsB (I m 15) (I m 16) (I (m + 1)) (I (m + 4)) out hr nr n r), L)) := by
  have z : ¬ (100 : Nat) = 0 := by decide
  simp (disch := omega) only [q_X12_warms_, e_X12_warms_0, ↓vM hM, ixZ, ↓mcI_of (r_outNow d hM hh h24), ← ho]
  rw [r_war20 (d + 1) _ out hM hnr hnr8 hr8 rfl, r_war76 (d + 1) _ out _ hM hn hn8, e_X12_warms_124]
  have aj : ∀ S' : Nat → Int32, S' (32 + r) = I (m + 4) (32 + r) → mcal mT (d + 2) 209 [.ref m, .int (Int32.ofNat r)] (G, va_up I (m + 4) S', L) = some (.inl (some (.int (raj (I m 15) (I m 16) (I (m + 4)) r))), (G, va_up I (m + 4) S', L)) := by
    intro S' q
    have := r_isAjar d (I := va_up I (m + 4) S') (L := L) hM hr8
    simp (disch := omega) only [up_ne, up_eq] at this
    rw [this, raj_c q]
  have lo : I (m + 1) (16 + r) * (I (m + 4) r - out) / 100 = rlo (I (m + 1)) (I (m + 4)) out r := rfl
  have tail : ∀ (lw : Int32) (S' : Nat → Int32), lw = rlw (I m 15) (I m 16) (I (m + 1)) (I (m + 4)) out r → S' = va_up (va_up (I (m + 4)) (74 + r) (rwl (I (m + 1)) (I (m + 4)) nr r)) (82 + r) (rlo (I (m + 1)) (I (m + 4)) out r) → f_X12_warms (d + 2) 202 [.ref m, .int (Int32.ofNat r), .int (I (m + 4) r), mU, .int (rwl (I (m + 1)) (I (m + 4)) nr r), .int (rht (I (m + 1)) (I (m + 4)) n r), .int (Int32.ofNat hr), mU] [.int lw, .int (Int32.ofNat (90 + r)), .ref (m + 4)] (G, va_up I (m + 4) S', L) = some (.inl (some (.int (rwv (I m 15) (I m 16) (I (m + 1)) (I (m + 4)) out hr nr n r))), (G, va_up I (m + 4) (rsB (I m 15) (I m 16) (I (m + 1)) (I (m + 4)) out hr nr n r), L)) := by
    intro lw S' hlw hS'
    have tail2 : ∀ su : Int32, su = rsu (I (m + 1)) hr r → f_X12_warms (d + 2) 263 [.ref m, .int (Int32.ofNat r), .int (I (m + 4) r), mU, .int (rwl (I (m + 1)) (I (m + 4)) nr r), .int (rht (I (m + 1)) (I (m + 4)) n r), mU, mU] [.int su, .int (Int32.ofNat (106 + r)), .ref (m + 4)] (G, va_up I (m + 4) (va_up (va_up S' (90 + r) lw) (98 + r) (rht (I (m + 1)) (I (m + 4)) n r)), L) = some (.inl (some (.int (rwv (I m 15) (I m 16) (I (m + 1)) (I (m + 4)) out hr nr n r))), (G, va_up I (m + 4) (rsB (I m 15) (I m 16) (I (m + 1)) (I (m + 4)) out hr nr n r), L)) := by
      intro su hsu
      rw [e_X12_warms_263]
      simp (disch := omega) only [↓vM hM, ixA, ixZ, up2_e, up_eq, up_up, up_ne, hS', if_neg hms, hlw, hsu]
      have rc : ∀ v : Int32, rcl v = if -9999 ≤ v then (if v ≤ 9999 then v else 9999) else -9999 := fun v => rfl
      unfold rwv rsB
      generalize I (m + 4) r + (rht (I (m + 1)) (I (m + 4)) n r + rsu (I (m + 1)) hr r - rwl (I (m + 1)) (I (m + 4)) nr r - rlo (I (m + 1)) (I (m + 4)) out r - rlw (I m 15) (I m 16) (I (m + 1)) (I (m + 4)) out r) / I (m + 1) r = v
      rw [rc]
      by_cases c1 : -9999 ≤ v
      · rw [if_pos c1, if_pos c1, e_X12_warms_326]
        by_cases c2 : v ≤ 9999
        · rw [if_pos c2, if_pos c2, e_X12_warms_340, e_X12_warms_342]
        · rw [if_neg c2, if_neg c2, e_X12_warms_342]
      · rw [if_neg c1, if_neg c1, e_X12_warms_342]
    rw [e_X12_warms_202]
    simp (disch := omega) only [↓vM hM, ixA, up2_e, up_eq, up_up, up_ne]
    have rs : rsu (I (m + 1)) hr r = if Int32.ofNat hr < I (m + 1) (40 + r) then 0 else if I (m + 1) (48 + r) ≤ Int32.ofNat hr then 0 else I (m + 1) (32 + r) := rfl
    by_cases c1 : Int32.ofNat hr < I (m + 1) (40 + r)
    · rw [if_pos c1] at rs ⊢
      rw [e_X12_warms_262]
      exact tail2 0 rs.symm
    rw [if_neg c1] at rs ⊢
    by_cases c2 : I (m + 1) (48 + r) ≤ Int32.ofNat hr
    · rw [if_pos c2] at rs ⊢
      rw [e_X12_warms_262]
      exact tail2 0 rs.symm
    · rw [if_neg c2] at rs ⊢
      exact tail2 _ rs.symm
  have lwe : rlw (I m 15) (I m 16) (I (m + 1)) (I (m + 4)) out r = if raj (I m 15) (I m 16) (I (m + 4)) r = 0 then 0 else I (m + 1) (24 + r) * (I (m + 4) r - out) / 100 := rfl
  have aj' := aj (va_up (va_up (I (m + 4)) (74 + r) (rwl (I (m + 1)) (I (m + 4)) nr r)) (82 + r) (rlo (I (m + 1)) (I (m + 4)) out r)) (by rw [up_ne (by omega), up_ne (by omega)])
  simp (disch := omega) only [↓vM hM, ↓mcI_of (r_hour (d + 1) hM), hh, ixA, up2_e, up_eq, up_up, up_ne, if_neg z, lo]
  simp (disch := omega) only [↓mcI_of aj', ↓vM hM, ixA, up_ne, up_eq, if_neg z]
  by_cases c : raj (I m 15) (I m 16) (I (m + 4)) r = 0
  · rw [if_pos c] at lwe ⊢
    rw [e_X12_warms_201]
    exact tail 0 _ lwe.symm rfl
  · rw [if_neg c] at lwe ⊢
    exact tail _ _ lwe.symm rfl
/-! the reference: dead pipes -/
def rhot (H S : Nat → Int32) (hr p : Nat) : Nat → Int32
  | 0 => 0
  | k + 1 => if rhot H S hr p k = 0 then (if H (128 + k) = Int32.ofNat p then (if S (114 + k) ≤ 0 then 0 else if rwa H S hr < 600 then 0 else 1) else 0) else 1
def rdd (H S : Nat → Int32) (hr n p : Nat) : Int32 := if rhot H S hr p n = 0 then S (168 + p) + 1 else 0
theorem rhot_c {H S S' : Nat → Int32} {hr p n : Nat} (h1 : ∀ k, k < n → S' (114 + k) = S (114 + k)) (h2 : S' (130 + hr) = S (130 + hr)) : rhot H S' hr p n = rhot H S hr p n := by
  induction n with
  | zero => rfl
  | succ n ih =>
    unfold rhot
    rw [ih fun k hk => h1 k (by omega), h1 n (by omega), rwa_c h2]
theorem r_flowsOn (d : Nat) {G : mG} {I : Nat → Nat → Int32} {L : Nat → Nat → Int64} {m n hr : Nat} (hM : LayM G m) (hn : I (m + 1) 164 = Int32.ofNat n) (hn8 : n ≤ 8) (hh : hou (I (m + 4) 71) = Int32.ofNat hr) (h24 : hr < 24) : mcal mT (d + 3) 215 [.ref m] (G, I, L) = some (.inl none, (G, va_up I (m + 4) (isg 168 4 (rdd (I (m + 1)) (I (m + 4)) hr n) (I (m + 4))), L)) := by
  simp only [q_X12_flowsOn_, e_X12_flowsOn_0]
  have A := loopy (fun i (q : Nat → Int32) => f_X12_flowsOn (d + 2) 2 [.ref m, .int i, mU, mU] [] (G, va_up I (m + 4) q, L)) (fun p => isg 168 p (rdd (I (m + 1)) (I (m + 4)) hr n) (I (m + 4))) 4 _ seg_0 (by
    intro p hp
    try dsimp only
    have hp4 : ¬ (4 : Int32) ≤ Int32.ofNat p := i_ng (a := 4) hp (by decide)
    rw [e_X12_flowsOn_2, if_neg hp4]
    generalize hS : isg 168 p (rdd (I (m + 1)) (I (m + 4)) hr n) (I (m + 4)) = S
    have o1 : ∀ j, j < 168 ∨ 168 + p ≤ j → S j = I (m + 4) j := by
      intro j hj
      rw [← hS, seg_out hj]
    have wa : mcal mT (d + 2) 212 [.ref m] (G, va_up I (m + 4) S, L) = some (.inl (some (.int (rwa (I (m + 1)) (I (m + 4)) hr))), (G, va_up I (m + 4) S, L)) := by
      have := r_waterNow d (I := va_up I (m + 4) S) (L := L) (hr := hr) hM (by rw [up_eq, o1 _ (by omega)]; exact hh) h24
      simp (disch := omega) only [up_ne, up_eq] at this
      rw [this, rwa_c (o1 _ (by omega))]
    have B := loopy (fun i (q : Int32) => f_X12_flowsOn (d + 2) 11 [.ref m, .int (Int32.ofNat p), .int q, .int i] [] (G, va_up I (m + 4) S, L)) (fun k => rhot (I (m + 1)) (I (m + 4)) hr p k) n 0 rfl (by
      intro k hk
      try dsimp only
      rw [e_X12_flowsOn_11]
      simp (disch := omega) only [↓vM hM, ↓mcI_of (r_radiators (d + 1) hM), up_ne, hn, if_neg (i_ng hk (by omega)), ixA, ↓mcI_of wa, up_eq, o1, e_X12_flowsOn_59, e_X12_flowsOn_63, e_X12_flowsOn_64, i_one, rhot]
      repeat' split
      all_goals rfl)
    try dsimp only at B
    rw [B, e_X12_flowsOn_11]
    simp (disch := omega) only [↓vM hM, ↓mcI_of (r_radiators (d + 1) hM), up_ne, hn, if_pos i_rf, e_X12_flowsOn_71]
    have rd : rdd (I (m + 1)) (I (m + 4)) hr n p = if rhot (I (m + 1)) (I (m + 4)) hr p n = 0 then I (m + 4) (168 + p) + 1 else 0 := rfl
    by_cases c : rhot (I (m + 1)) (I (m + 4)) hr p n = 0
    · rw [if_pos c] at rd
      simp (disch := omega) only [if_pos c, e_X12_flowsOn_88, e_X12_flowsOn_100, ↓vM hM, ixA, up2_e, up_eq, up_up, o1, i_one]
      rw [← hS, seg_s rd.symm]
    · rw [if_neg c] at rd
      simp (disch := omega) only [if_neg c, e_X12_flowsOn_100, ↓vM hM, ixA, up2_e, up_eq, up_up, i_one]
      rw [← hS, seg_s rd.symm])
  try dsimp only at A
  rw [up_id] at A
  rw [A, e_X12_flowsOn_2, if_pos (by decide), e_X12_flowsOn_107]
