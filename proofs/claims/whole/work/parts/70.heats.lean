/-! the reference: heats -/
def sml (n : Nat) (f : Nat → Int64) : Int64 := match n with
  | 0 => 0
  | n + 1 => sml n f + f n
theorem sml_s {n : Nat} {f : Nat → Int64} : sml (n + 1) f = sml n f + f n := rfl
def rfl_ (w1 w2 : Int32) (H S : Nat → Int32) (pi : Nat → Nat) (n k : Nat) : Int32 := if sm n (fun j => rop w1 w2 H S (pi j) j) = 0 then 0 else S 167 * rop w1 w2 H S (pi k) k / sm n (fun j => rop w1 w2 H S (pi j) j)
def rhl (w1 w2 : Int32) (H S : Nat → Int32) (pi rm : Nat → Nat) (hr n k : Nat) : Int64 := Int32.toInt64 (rfl_ w1 w2 H S pi n k) * Int32.toInt64 (H (136 + k)) * Int32.toInt64 (10 * rwa H S hr - S (rm k)) / 10000
def rh0 (w1 w2 : Int32) (H S : Nat → Int32) (pi rm : Nat → Nat) (hr n k : Nat) : Int32 := if 0 ≤ lg_cmp (rhl w1 w2 H S pi rm hr n k) 0 then Int64.toInt32 (rhl w1 w2 H S pi rm hr n k) else 0
def rh1 (w1 w2 : Int32) (H S : Nat → Int32) (pi rm : Nat → Nat) (hr n k : Nat) : Int32 := if 0 < lg_cmp (sml n fun j => Int32.toInt64 (rh0 w1 w2 H S pi rm hr n j)) (Int32.toInt64 (H 161)) then Int64.toInt32 (Int32.toInt64 (rh0 w1 w2 H S pi rm hr n k) * Int32.toInt64 (H 161) / sml n fun j => Int32.toInt64 (rh0 w1 w2 H S pi rm hr n j)) else rh0 w1 w2 H S pi rm hr n k
/-- the row s after heats -/
def rsA (w1 w2 : Int32) (H S : Nat → Int32) (pi rm : Nat → Nat) (hr n : Nat) : Nat → Int32 := isg 122 n (rh1 w1 w2 H S pi rm hr n) (isg 114 n (rfl_ w1 w2 H S pi n) S)
theorem rwa_c {H S S' : Nat → Int32} {hr : Nat} (h : S' (130 + hr) = S (130 + hr)) : rwa H S' hr = rwa H S hr := by
  unfold rwa
  rw [h]
theorem seg_2 {α : Type} {o n : Nat} {F F' g : Nat → α} : isg o n F (isg o n F' g) = isg o n F g := by
  funext j
  unfold isg
  split
  · rfl
  · rfl
theorem seg_sh {α : Type} {o k : Nat} {F g : Nat → α} {v : α} {j : Nat} (h : j < o + k) (h2 : o ≤ j) : isg o k F g j = F (j - o) := if_pos ⟨h2, h⟩
theorem r_heat1 (d : Nat) {G : mG} {I : Nat → Nat → Int32} {L : Nat → Nat → Int64} {m n : Nat} {pi : Nat → Nat} (hM : LayM G m) (hn : I (m + 1) 164 = Int32.ofNat n) (hn8 : n ≤ 8) (hP : ∀ k, k < n → I (m + 1) (128 + k) = Int32.ofNat (pi k) ∧ pi k < 4) : f_X12_heats (d + 2) 4 [.ref m, .int 0, .int 0, mU, mU, mU, mU, mU] [] (G, I, L) = f_X12_heats (d + 2) 31 [.ref m, .int (sm n (fun j => rop (I m 15) (I m 16) (I (m + 1)) (I (m + 4)) (pi j) j)), .long 0, mU, .int 0, mU, mU, mU] [] (G, I, L) := by
  have A := loopy (fun i (q : Int32) => f_X12_heats (d + 2) 4 [.ref m, .int q, .int i, mU, mU, mU, mU, mU] [] (G, I, L)) (fun k => sm k (fun j => rop (I m 15) (I m 16) (I (m + 1)) (I (m + 4)) (pi j) j)) n 0 rfl (by
    intro k hk
    obtain ⟨p1, p2⟩ := hP k hk
    rw [e_X12_heats_4]
    simp (disch := omega) only [↓vM hM, ↓mcI_of (r_radiators (d + 1) hM), hn, if_neg (i_ng hk (by omega)), ↓mcI_of (r_openOf d hM (by omega) p1 p2), i_one, sm_s])
  try dsimp only at A
  rw [A, e_X12_heats_4]
  simp (disch := omega) only [↓vM hM, ↓mcI_of (r_radiators (d + 1) hM), hn, if_pos i_rf, e_X12_heats_26]
theorem r_heats (d : Nat) {G : mG} {I : Nat → Nat → Int32} {L : Nat → Nat → Int64} {m n hr : Nat} {pi rm : Nat → Nat} (hM : LayM G m) (hn : I (m + 1) 164 = Int32.ofNat n) (hn8 : n ≤ 8) (hP : ∀ k, k < n → I (m + 1) (128 + k) = Int32.ofNat (pi k) ∧ pi k < 4) (hR : ∀ k, k < n → I (m + 1) (120 + k) = Int32.ofNat (rm k) ∧ rm k < 8) (hh : hou (I (m + 4) 71) = Int32.ofNat hr) (h24 : hr < 24) (hq : 0 < lg_cmp (sml n fun j => Int32.toInt64 (rh0 (I m 15) (I m 16) (I (m + 1)) (I (m + 4)) pi rm hr n j)) (Int32.toInt64 (I (m + 1) 161)) → ¬ (sml n fun j => Int32.toInt64 (rh0 (I m 15) (I m 16) (I (m + 1)) (I (m + 4)) pi rm hr n j)) = 0) : mcal mT (d + 3) 222 [.ref m] (G, I, L) = some (.inl none, (G, va_up I (m + 4) (rsA (I m 15) (I m 16) (I (m + 1)) (I (m + 4)) pi rm hr n), L)) := by
  simp only [q_X12_heats_, e_X12_heats_0]
  rw [r_heat1 d hM hn hn8 hP]
  have B := loopy (fun i (q : Int64 × (Nat → Int32)) => f_X12_heats (d + 2) 31 [.ref m, .int (sm n (fun j => rop (I m 15) (I m 16) (I (m + 1)) (I (m + 4)) (pi j) j)), .long q.1, mU, .int i, mU, mU, mU] [] (G, va_up I (m + 4) q.2, L)) (fun k => (sml k (fun j => Int32.toInt64 (rh0 (I m 15) (I m 16) (I (m + 1)) (I (m + 4)) pi rm hr n j)), isg 122 k (rh0 (I m 15) (I m 16) (I (m + 1)) (I (m + 4)) pi rm hr n) (isg 114 k (rfl_ (I m 15) (I m 16) (I (m + 1)) (I (m + 4)) pi n) (I (m + 4))))) n (0, I (m + 4)) (by rw [seg_0, seg_0]; rfl) (by
    intro k hk
    obtain ⟨p1, p2⟩ := hP k hk
    obtain ⟨r1, r2⟩ := hR k hk
    have hk8 : k < 8 := by omega
    have z : ¬ (10000 : Nat) = 0 := by decide
    generalize hS : isg 122 k (rh0 (I m 15) (I m 16) (I (m + 1)) (I (m + 4)) pi rm hr n) (isg 114 k (rfl_ (I m 15) (I m 16) (I (m + 1)) (I (m + 4)) pi n) (I (m + 4))) = S
    have o1 : ∀ j, j < 114 ∨ 130 ≤ j → S j = I (m + 4) j := by
      intro j hj
      rw [← hS, seg_out (by omega), seg_out (by omega)]
    have op : mcal mT (d + 2) 213 [.ref m, .int (Int32.ofNat k)] (G, va_up I (m + 4) S, L) = some (.inl (some (.int (rop (I m 15) (I m 16) (I (m + 1)) (I (m + 4)) (pi k) k))), (G, va_up I (m + 4) S, L)) := by
      have := r_openOf d (I := va_up I (m + 4) S) (L := L) hM hk8 (by rw [up_ne (by omega)]; exact p1) p2
      simp (disch := omega) only [up_ne, up_eq] at this
      rw [this, rop_c (o1 _ (by omega)) (o1 _ (by omega)) (o1 _ (by omega))]
    have wa : mcal mT (d + 2) 212 [.ref m] (G, va_up I (m + 4) S, L) = some (.inl (some (.int (rwa (I (m + 1)) (I (m + 4)) hr))), (G, va_up I (m + 4) S, L)) := by
      have := r_waterNow d (I := va_up I (m + 4) S) (L := L) (hr := hr) hM (by rw [up_eq, o1 _ (by omega)]; exact hh) h24
      simp (disch := omega) only [up_ne, up_eq] at this
      rw [this, rwa_c (o1 _ (by omega))]
    have fl : f_X12_heats (d + 2) 31 [.ref m, .int (sm n (fun j => rop (I m 15) (I m 16) (I (m + 1)) (I (m + 4)) (pi j) j)), .long (sml k (fun j => Int32.toInt64 (rh0 (I m 15) (I m 16) (I (m + 1)) (I (m + 4)) pi rm hr n j))), mU, .int (Int32.ofNat k), mU, mU, mU] [] (G, va_up I (m + 4) S, L) = f_X12_heats (d + 2) 65 [.ref m, .int (sm n (fun j => rop (I m 15) (I m 16) (I (m + 1)) (I (m + 4)) (pi j) j)), .long (sml k (fun j => Int32.toInt64 (rh0 (I m 15) (I m 16) (I (m + 1)) (I (m + 4)) pi rm hr n j))), mU, .int (Int32.ofNat k), mU, mU, mU] [.int (rfl_ (I m 15) (I m 16) (I (m + 1)) (I (m + 4)) pi n k)] (G, va_up I (m + 4) S, L) := by
      rw [e_X12_heats_31]
      simp (disch := omega) only [↓vM hM, ↓mcI_of (r_radiators (d + 1) hM), up_ne, hn, if_neg (i_ng hk (by omega))]
      unfold rfl_
      by_cases c : sm n (fun j => rop (I m 15) (I m 16) (I (m + 1)) (I (m + 4)) (pi j) j) = 0
      · simp only [if_pos c]
      · simp (disch := omega) only [if_neg c, e_X12_heats_48, ↓vM hM, ↓mcI_of op, up_eq, o1]
    try dsimp only
    rw [fl, e_X12_heats_65]
    have key : rhl (I m 15) (I m 16) (I (m + 1)) (I (m + 4)) pi rm hr n k = Int32.toInt64 (rfl_ (I m 15) (I m 16) (I (m + 1)) (I (m + 4)) pi n k) * Int32.toInt64 (I (m + 1) (136 + k)) * Int32.toInt64 (10 * rwa (I (m + 1)) (I (m + 4)) hr - I (m + 4) (rm k)) / 10000 := rfl
    simp (disch := omega) only [↓vM hM, ↓mcI_of wa, up_ne, up_eq, ixA, ixZ, r1, if_neg z, o1, ← key]
    have e2 : (if 0 ≤ lg_cmp (rhl (I m 15) (I m 16) (I (m + 1)) (I (m + 4)) pi rm hr n k) 0 then f_X12_heats (d + 2) 148 [.ref m, .int (sm n (fun j => rop (I m 15) (I m 16) (I (m + 1)) (I (m + 4)) (pi j) j)), .long (sml k (fun j => Int32.toInt64 (rh0 (I m 15) (I m 16) (I (m + 1)) (I (m + 4)) pi rm hr n j))), mU, .int (Int32.ofNat k), mU, .long (rhl (I m 15) (I m 16) (I (m + 1)) (I (m + 4)) pi rm hr n k), mU] [.int (Int32.ofNat (122 + k)), .ref (m + 4)] (G, va_up (va_up I (m + 4) S) (m + 4) (va_up S (114 + k) (rfl_ (I m 15) (I m 16) (I (m + 1)) (I (m + 4)) pi n k)), L) else f_X12_heats (d + 2) 151 [.ref m, .int (sm n (fun j => rop (I m 15) (I m 16) (I (m + 1)) (I (m + 4)) (pi j) j)), .long (sml k (fun j => Int32.toInt64 (rh0 (I m 15) (I m 16) (I (m + 1)) (I (m + 4)) pi rm hr n j))), mU, .int (Int32.ofNat k), mU, mU, mU] [.int 0, .int (Int32.ofNat (122 + k)), .ref (m + 4)] (G, va_up (va_up I (m + 4) S) (m + 4) (va_up S (114 + k) (rfl_ (I m 15) (I m 16) (I (m + 1)) (I (m + 4)) pi n k)), L)) = f_X12_heats (d + 2) 151 [.ref m, .int (sm n (fun j => rop (I m 15) (I m 16) (I (m + 1)) (I (m + 4)) (pi j) j)), .long (sml k (fun j => Int32.toInt64 (rh0 (I m 15) (I m 16) (I (m + 1)) (I (m + 4)) pi rm hr n j))), mU, .int (Int32.ofNat k), mU, mU, mU] [.int (rh0 (I m 15) (I m 16) (I (m + 1)) (I (m + 4)) pi rm hr n k), .int (Int32.ofNat (122 + k)), .ref (m + 4)] (G, va_up (va_up I (m + 4) S) (m + 4) (va_up S (114 + k) (rfl_ (I m 15) (I m 16) (I (m + 1)) (I (m + 4)) pi n k)), L) := by
      unfold rh0
      split
      · rw [e_X12_heats_148]
      · rfl
    simp only [up2_e, up_eq] at e2 ⊢
    rw [e2, e_X12_heats_151]
    simp (disch := omega) only [↓vM hM, up2_e, up_eq, up_up, ixA, i_one, sml_s]
    congr 3
    rw [← hS]
    rw [show va_up (isg 122 k (rh0 (I m 15) (I m 16) (I (m + 1)) (I (m + 4)) pi rm hr n) (isg 114 k (rfl_ (I m 15) (I m 16) (I (m + 1)) (I (m + 4)) pi n) (I (m + 4)))) (114 + k) (rfl_ (I m 15) (I m 16) (I (m + 1)) (I (m + 4)) pi n k) = isg 122 k (rh0 (I m 15) (I m 16) (I (m + 1)) (I (m + 4)) pi rm hr n) (va_up (isg 114 k (rfl_ (I m 15) (I m 16) (I (m + 1)) (I (m + 4)) pi n) (I (m + 4))) (114 + k) (rfl_ (I m 15) (I m 16) (I (m + 1)) (I (m + 4)) pi n k)) from by
      funext j
      by_cases q : j = 114 + k
      · rw [q, up_eq, seg_out (by omega), up_eq]
      · rw [up_ne q]
        unfold isg
        split
        · rfl
        · rw [up_ne q]]
    rw [seg_s rfl, seg_s rfl])
  try dsimp only at B
  rw [up_id] at B
  rw [B, e_X12_heats_31]
  simp (disch := omega) only [↓vM hM, ↓mcI_of (r_radiators (d + 1) hM), up_ne, hn, if_pos i_rf, e_X12_heats_172]
  unfold rsA
  by_cases c : 0 < lg_cmp (sml n fun j => Int32.toInt64 (rh0 (I m 15) (I m 16) (I (m + 1)) (I (m + 4)) pi rm hr n j)) (Int32.toInt64 (I (m + 1) 161))
  · have hz := hq c
    rw [if_pos c, e_X12_heats_187]
    have C := loopy (fun i (q : Nat → Int32) => f_X12_heats (d + 2) 190 [.ref m, mU, .long (sml n fun j => Int32.toInt64 (rh0 (I m 15) (I m 16) (I (m + 1)) (I (m + 4)) pi rm hr n j)), mU, .int i, mU, mU, mU] [] (G, va_up I (m + 4) q, L)) (fun k => isg 122 k (rh1 (I m 15) (I m 16) (I (m + 1)) (I (m + 4)) pi rm hr n) (isg 122 n (rh0 (I m 15) (I m 16) (I (m + 1)) (I (m + 4)) pi rm hr n) (isg 114 n (rfl_ (I m 15) (I m 16) (I (m + 1)) (I (m + 4)) pi n) (I (m + 4))))) n _ seg_0 (by
      intro k hk
      try dsimp only
      rw [e_X12_heats_190]
      simp (disch := omega) only [↓vM hM, ↓mcI_of (r_radiators (d + 1) hM), up_ne, hn, if_neg (i_ng hk (by omega)), ixA, if_neg hz, up2_e, up_eq, up_up, i_one]
      rw [seg_s (by
        rw [seg_out (by omega), seg_in hk]
        unfold rh1
        rw [if_pos c])])
    try dsimp only at C
    rw [C, e_X12_heats_190]
    simp (disch := omega) only [↓vM hM, ↓mcI_of (r_radiators (d + 1) hM), up_ne, hn, if_pos i_rf, e_X12_heats_239]
    rw [seg_2]
  · rw [if_neg c]
    have e : isg 122 n (rh1 (I m 15) (I m 16) (I (m + 1)) (I (m + 4)) pi rm hr n) (isg 114 n (rfl_ (I m 15) (I m 16) (I (m + 1)) (I (m + 4)) pi n) (I (m + 4))) = isg 122 n (rh0 (I m 15) (I m 16) (I (m + 1)) (I (m + 4)) pi rm hr n) (isg 114 n (rfl_ (I m 15) (I m 16) (I (m + 1)) (I (m + 4)) pi n) (I (m + 4))) := seg_c fun j hj => by
      unfold rh1
      rw [if_neg c]
    rw [e]
