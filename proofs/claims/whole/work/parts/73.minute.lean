/-! the reference: a minute -/
theorem seg_up {α : Type} {o n j : Nat} {F g : Nat → α} {v : α} (h : j < o ∨ o + n < j) : va_up (isg o n F g) j v = isg o n F (va_up g j v) := by
  funext i
  by_cases q : i = j
  · rw [q, up_eq, seg_out (by omega), up_eq]
  · rw [up_ne q]
    unfold isg
    split
    · rfl
    · rw [up_ne q]
theorem up_mid' {α : Type} {F : Nat → α} {a b : Nat} {v w v' : α} (h : a ≠ b) : va_up (va_up (va_up F a v) b w) a v' = va_up (va_up F a v') b w := by
  funext j
  by_cases q : j = a
  · rw [q, up_eq, up_ne h, up_eq]
  · rw [up_ne q]
    by_cases r : j = b
    · rw [r, up_eq, up_eq]
    · rw [up_ne r, up_ne r, up_ne q, up_ne q]
theorem seg_t {α : Type} {o n : Nat} {F g : Nat → α} : va_up (isg o n F g) (o + n) (F n) = isg o (n + 1) F g := seg_s rfl
theorem rwar_c {w1 w2 out : Int32} {H S S' : Nat → Int32} {hr nr n r : Nat} (hnr8 : nr ≤ 8) (hn8 : n ≤ 8) (hr8 : r < 8) (o : ∀ j, j < 74 ∨ 114 ≤ j → S' j = S j) : rwl H S' nr r = rwl H S nr r ∧ rlo H S' out r = rlo H S out r ∧ rlw w1 w2 H S' out r = rlw w1 w2 H S out r ∧ rht H S' n r = rht H S n r ∧ rwv w1 w2 H S' out hr nr n r = rwv w1 w2 H S out hr nr n r := by
  have a : rwl H S' nr r = rwl H S nr r := sm_c fun k hk => by rw [o r (by omega), o k (by omega)]
  have b : rlo H S' out r = rlo H S out r := by unfold rlo; rw [o r (by omega)]
  have c : rlw w1 w2 H S' out r = rlw w1 w2 H S out r := by unfold rlw; rw [o r (by omega), raj_c (o (32 + r) (by omega))]
  have e : rht H S' n r = rht H S n r := sm_c fun k hk => by rw [o (122 + k) (by omega)]
  refine ⟨a, b, c, e, ?_⟩
  unfold rwv
  rw [a, b, c, e, o r (by omega)]
def rme (x : Int64) (y : Int32) : Int64 := if lg_cmp (x + Int32.toInt64 y) 100000000 ≤ 0 then x + Int32.toInt64 y else 100000000
def mS1 (I : Nat → Nat → Int32) (m : Nat) (pi rm : Nat → Nat) (hr n : Nat) : Nat → Int32 := rsA (I m 15) (I m 16) (I (m + 1)) (I (m + 4)) pi rm hr n
def mAl (I : Nat → Nat → Int32) (m : Nat) (pi rm : Nat → Nat) (hr n : Nat) : Int32 := sm n (fun k => mS1 I m pi rm hr n (122 + k))
def mL1 (S : Nat → Int32) (l : Nat → Int64) (n : Nat) : Nat → Int64 := isg 8 n (fun k => rme (l (8 + k)) (S (122 + k))) l
def mSs (w1 w2 : Int32) (H S : Nat → Int32) (out : Int32) (hr nr n k : Nat) : Nat → Int32 := isg 106 k (rsu H hr) (isg 98 k (rht H S n) (isg 90 k (rlw w1 w2 H S out) (isg 82 k (rlo H S out) (isg 74 k (rwl H S nr) S))))
def mS2 (I : Nat → Nat → Int32) (m : Nat) (pi rm : Nat → Nat) (hr nr n : Nat) : Nat → Int32 := mSs (I m 15) (I m 16) (I (m + 1)) (mS1 I m pi rm hr n) (rou (I m 20) (I m 17) (I (m + 4)) hr) hr nr n nr
def mTe (I : Nat → Nat → Int32) (m : Nat) (pi rm : Nat → Nat) (hr nr n : Nat) : Nat → Int32 := rwv (I m 15) (I m 16) (I (m + 1)) (mS1 I m pi rm hr n) (rou (I m 20) (I m 17) (I (m + 4)) hr) hr nr n
def mS3 (I : Nat → Nat → Int32) (m : Nat) (pi rm : Nat → Nat) (hr nr n : Nat) : Nat → Int32 := pre nr (mTe I m pi rm hr nr n) (mS2 I m pi rm hr nr n)
def mSt (S : Nat → Int32) (all : Int32) : Nat → Int32 := va_up (va_up (va_up S 72 (S 72 + (if all ≤ 0 then 0 else if S 73 = 0 then 1 else 0))) 73 (if all ≤ 0 then 0 else 1)) 172 (S 172 + (if all ≤ 0 then 0 else 1))
def mS4 (I : Nat → Nat → Int32) (m : Nat) (pi rm : Nat → Nat) (hr nr n : Nat) : Nat → Int32 := mSt (mS3 I m pi rm hr nr n) (mAl I m pi rm hr n)
def mS5 (I : Nat → Nat → Int32) (m : Nat) (pi rm : Nat → Nat) (hr nr n : Nat) : Nat → Int32 := isg 168 4 (rdd (I (m + 1)) (mS4 I m pi rm hr nr n) hr n) (mS4 I m pi rm hr nr n)
def mNw (I : Nat → Nat → Int32) (m : Nat) (S : Nat → Int32) (sr : Nat → Nat) (nh k : Nat) : Int32 := rnw (I m 15) (I m 16) (I m 18) (I m 19) (rof (I m 21) S nh) (I (m + 1)) S (sr k) k
def mDr (I : Nat → Nat → Int32) (m : Nat) (S : Nat → Int32) (sr : Nat → Nat) (nh k : Nat) : Int32 := rdr (mNw I m S sr nh k) (S (8 + k)) (S (16 + k))
def mTu (I : Nat → Nat → Int32) (m : Nat) (S : Nat → Int32) (l : Nat → Int64) (sr : Nat → Nat) (nh k : Nat) : Int64 := rtu (mNw I m S sr nh k) (S (8 + k)) (S (16 + k)) (l k)
def mS6 (I : Nat → Nat → Int32) (m : Nat) (S : Nat → Int32) (sr : Nat → Nat) (nh n : Nat) : Nat → Int32 := isg 16 n (mDr I m S sr nh) (isg 8 n (mNw I m S sr nh) S)
def mS7 (I : Nat → Nat → Int32) (m : Nat) (pi rm sr : Nat → Nat) (hr nr n nh : Nat) : Nat → Int32 := va_up (mS6 I m (mS5 I m pi rm hr nr n) sr nh n) 71 (mS6 I m (mS5 I m pi rm hr nr n) sr nh n 71 + 1)
def mL2 (I : Nat → Nat → Int32) (l : Nat → Int64) (m : Nat) (pi rm sr : Nat → Nat) (hr nr n nh : Nat) : Nat → Int64 := pre n (mTu I m (mS5 I m pi rm hr nr n) (mL1 (mS1 I m pi rm hr n) l n) sr nh) (mL1 (mS1 I m pi rm hr n) l n)
theorem mS1_o {I : Nat → Nat → Int32} {m : Nat} {pi rm : Nat → Nat} {hr n j : Nat} (hn8 : n ≤ 8) (h : j < 114 ∨ 130 ≤ j) : mS1 I m pi rm hr n j = I (m + 4) j := by
  unfold mS1 rsA
  rw [seg_out (by omega), seg_out (by omega)]
theorem r_min8 (d : Nat) {G : mG} {I : Nat → Nat → Int32} {L : Nat → Nat → Int64} {m n : Nat} (hM : LayM G m) (hn : I (m + 1) 164 = Int32.ofNat n) (hn8 : n ≤ 8) : f_X12_minute (d + 1) 8 [.ref m, .int 0, .int 0] [] (G, I, L) = f_X12_minute (d + 1) 98 [.ref m, .int (sm n (fun k => I (m + 4) (122 + k))), .int 0] [] (G, I, va_up L (m + 6) (mL1 (I (m + 4)) (L (m + 6)) n)) := by
  have A := loopy (fun i (q : Int32 × (Nat → Int64)) => f_X12_minute (d + 1) 8 [.ref m, .int q.1, .int i] [] (G, I, va_up L (m + 6) q.2)) (fun k => (sm k (fun k => I (m + 4) (122 + k)), mL1 (I (m + 4)) (L (m + 6)) k)) n (0, L (m + 6)) (by unfold mL1; rw [seg_0]; rfl) (by
    intro k hk
    try dsimp only
    rw [e_X12_minute_8]
    have ml : va_up (mL1 (I (m + 4)) (L (m + 6)) k) (8 + k) (rme (L (m + 6) (8 + k)) (I (m + 4) (122 + k))) = mL1 (I (m + 4)) (L (m + 6)) (k + 1) := seg_s rfl
    have ml0 : mL1 (I (m + 4)) (L (m + 6)) k (8 + k) = L (m + 6) (8 + k) := seg_out (by omega)
    have re : rme (L (m + 6) (8 + k)) (I (m + 4) (122 + k)) = if lg_cmp (L (m + 6) (8 + k) + Int32.toInt64 (I (m + 4) (122 + k))) 100000000 ≤ 0 then L (m + 6) (8 + k) + Int32.toInt64 (I (m + 4) (122 + k)) else 100000000 := rfl
    by_cases c : lg_cmp (L (m + 6) (8 + k) + Int32.toInt64 (I (m + 4) (122 + k))) 100000000 ≤ 0
    · rw [if_pos c] at re
      simp (disch := omega) only [↓vM hM, ↓mcI_of (r_radiators d hM), hn, if_neg (i_ng hk (by omega)), ixA, up_eq, ml0, if_pos c, e_X12_minute_69, e_X12_minute_89, up2_e, up_up, i_one, sm_s]
      rw [← ml, re]
    · rw [if_neg c] at re
      simp (disch := omega) only [↓vM hM, ↓mcI_of (r_radiators d hM), hn, if_neg (i_ng hk (by omega)), ixA, up_eq, ml0, if_neg c, e_X12_minute_89, up2_e, up_up, i_one, sm_s]
      rw [← ml, re])
  try dsimp only at A
  rw [up_id] at A
  rw [A, e_X12_minute_8]
  simp (disch := omega) only [↓vM hM, ↓mcI_of (r_radiators d hM), hn, if_pos i_rf, e_X12_minute_96]
theorem r_min98 (d : Nat) {G : mG} {I : Nat → Nat → Int32} {L : Nat → Nat → Int64} {m nr n hr : Nat} {out all : Int32} (hM : LayM G m) (hnr : I (m + 1) 163 = Int32.ofNat nr) (hnr8 : nr ≤ 8) (hn : I (m + 1) 164 = Int32.ofNat n) (hn8 : n ≤ 8) (hh : hou (I (m + 4) 71) = Int32.ofNat hr) (h24 : hr < 24) (ho : out = rou (I m 20) (I m 17) (I (m + 4)) hr) (hms : ∀ r, r < nr → ¬ I (m + 1) r = 0) : f_X12_minute (d + 3) 98 [.ref m, .int all, .int 0] [] (G, I, L) = f_X12_minute (d + 3) 153 [.ref m, .int all, mU] [] (G, va_up (va_up I (m + 8) (pre nr (rwv (I m 15) (I m 16) (I (m + 1)) (I (m + 4)) out hr nr n) (I (m + 8)))) (m + 4) (pre nr (rwv (I m 15) (I m 16) (I (m + 1)) (I (m + 4)) out hr nr n) (mSs (I m 15) (I m 16) (I (m + 1)) (I (m + 4)) out hr nr n nr)), L) := by
  have A := loopy (fun i (q : (Nat → Int32) × (Nat → Int32)) => f_X12_minute (d + 3) 98 [.ref m, .int all, .int i] [] (G, va_up (va_up I (m + 8) q.1) (m + 4) q.2, L)) (fun k => (pre k (rwv (I m 15) (I m 16) (I (m + 1)) (I (m + 4)) out hr nr n) (I (m + 8)), mSs (I m 15) (I m 16) (I (m + 1)) (I (m + 4)) out hr nr n k)) nr (I (m + 8), I (m + 4)) (by unfold mSs; simp only [seg_0, pre_0]) (by
    intro k hk
    try dsimp only
    have o : ∀ j, j < 74 ∨ 114 ≤ j → mSs (I m 15) (I m 16) (I (m + 1)) (I (m + 4)) out hr nr n k j = I (m + 4) j := by
      intro j hj
      unfold mSs
      simp (disch := omega) only [seg_out]
    obtain ⟨a, b, c, e, f⟩ := rwar_c (w1 := I m 15) (w2 := I m 16) (out := out) (H := I (m + 1)) (hr := hr) hnr8 hn8 (show k < 8 by omega) o
    have wm := r_warms d (I := va_up (va_up I (m + 8) (pre k (rwv (I m 15) (I m 16) (I (m + 1)) (I (m + 4)) out hr nr n) (I (m + 8)))) (m + 4) (mSs (I m 15) (I m 16) (I (m + 1)) (I (m + 4)) out hr nr n k)) (L := L) (nr := nr) (n := n) (r := k) (hr := hr) (out := out) hM (by simp (disch := omega) only [up_ne]; exact hnr) hnr8 (by simp (disch := omega) only [up_ne]; exact hn) hn8 (by omega) (by rw [up_eq, o _ (by omega)]; exact hh) h24 (by
      simp (disch := omega) only [up_ne, up_eq]
      refine ho.trans ?_
      unfold rou
      rw [o _ (by omega)]) (by simp (disch := omega) only [up_ne]; exact hms k hk)
    simp (disch := omega) only [up_ne, up_eq, up_up] at wm
    rw [f] at wm
    have sb : rsB (I m 15) (I m 16) (I (m + 1)) (mSs (I m 15) (I m 16) (I (m + 1)) (I (m + 4)) out hr nr n k) out hr nr n k = mSs (I m 15) (I m 16) (I (m + 1)) (I (m + 4)) out hr nr n (k + 1) := by
      unfold rsB
      rw [a, b, c, e]
      unfold mSs
      simp (disch := omega) only [seg_up, seg_t]
    rw [sb] at wm
    rw [e_X12_minute_98]
    simp (disch := omega) only [↓vM hM, ↓mcI_of (r_rooms (d + 2) hM), up_ne, hnr, if_neg (i_ng hk (by omega)), ↓mcI_of wm, up2_e, up_eq, i_one]
    rw [up_mid' (by omega), pre_s rfl])
  try dsimp only at A
  rw [up_id, up_id] at A
  rw [A, e_X12_minute_98]
  simp (disch := omega) only [↓vM hM, ↓mcI_of (r_rooms (d + 2) hM), up_ne, hnr, if_pos i_rf, e_X12_minute_123]
  have B := loopy (fun i (q : Nat → Int32) => f_X12_minute (d + 3) 125 [.ref m, .int all, .int i] [] (G, va_up (va_up I (m + 8) (pre nr (rwv (I m 15) (I m 16) (I (m + 1)) (I (m + 4)) out hr nr n) (I (m + 8)))) (m + 4) q, L)) (fun k => pre k (rwv (I m 15) (I m 16) (I (m + 1)) (I (m + 4)) out hr nr n) (mSs (I m 15) (I m 16) (I (m + 1)) (I (m + 4)) out hr nr n nr)) nr _ pre_0 (by
    intro k hk
    try dsimp only
    rw [e_X12_minute_125]
    simp (disch := omega) only [↓vM hM, ↓mcI_of (r_rooms (d + 2) hM), up_ne, hnr, if_neg (i_ng hk (by omega)), ixZ, up2_e, up_eq, up_up, i_one, pre_lt]
    rw [pre_s rfl])
  try dsimp only at B
  rw [B, e_X12_minute_125]
  simp (disch := omega) only [↓vM hM, ↓mcI_of (r_rooms (d + 2) hM), up_ne, hnr, if_pos i_rf]
