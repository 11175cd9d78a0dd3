/-! the reference: taps move -/
def rex (k w : Int32) : Int32 := if 40 ≤ w then (if k = w - 40 then k + 1 else if k = w - 39 then k - 1 else k) else k
theorem r_exchanged (d : Nat) (k w : Int32) (h : mH) : mcal mT (d + 1) 225 [.int k, .int w] h = some (.inl (some (.int (rex k w))), h) := by
  obtain ⟨G, I, L⟩ := h
  simp only [q_X12_exchanged_, e_X12_exchanged_0, e_X12_exchanged_10, e_X12_exchanged_24, e_X12_exchanged_38, e_X12_exchanged_39]
  unfold rex
  repeat' split
  all_goals rfl
def rsb (w1 w2 k : Int32) : Int32 := if w2 ≤ w1 then (if w2 = w1 then rex k w1 else rex (rex k w1) w2) else (if w1 = w2 then rex k w2 else rex (rex k w2) w1)
theorem r_seenBy (d : Nat) {G : mG} {I : Nat → Nat → Int32} {L : Nat → Nat → Int64} {m : Nat} (k : Int32) (hM : LayM G m) : mcal mT (d + 2) 224 [.ref m, .int k] (G, I, L) = some (.inl (some (.int (rsb (I m 15) (I m 16) k))), (G, I, L)) := by
  simp only [q_X12_seenBy_, e_X12_seenBy_0, ↓vM hM]
  unfold rsb
  by_cases c : I m 16 ≤ I m 15
  · by_cases c2 : I m 16 = I m 15
    · simp only [if_pos c, e_X12_seenBy_18, e_X12_seenBy_22, e_X12_seenBy_41, e_X12_seenBy_45, ↓vM hM, r_exchanged, mcI_v, if_pos c2, e_X12_seenBy_69]
    · simp only [if_pos c, e_X12_seenBy_18, e_X12_seenBy_22, e_X12_seenBy_41, e_X12_seenBy_45, ↓vM hM, r_exchanged, mcI_v, if_neg c2, e_X12_seenBy_63, e_X12_seenBy_69]
  · by_cases c2 : I m 15 = I m 16
    · simp only [if_neg c, e_X12_seenBy_22, e_X12_seenBy_45, ↓vM hM, r_exchanged, mcI_v, if_pos c2, e_X12_seenBy_69]
    · simp only [if_neg c, e_X12_seenBy_22, e_X12_seenBy_45, ↓vM hM, r_exchanged, mcI_v, if_neg c2, e_X12_seenBy_63, e_X12_seenBy_69]
def rnx (kind sees goal was : Int32) : Int32 := if kind = 2 then (if goal ≤ sees then (if sees ≤ goal then was else if 0 ≤ was - 2 then was - 2 else 0) else if was + 2 ≤ 16 then was + 2 else 16) else if goal - 20 ≤ sees then (if sees ≤ goal + 20 then was else 0) else 16
def rgo (wt wm off : Int32) (H : Nat → Int32) (k : Nat) : Int32 := 10 * (H (152 + k) + (if wt = Int32.ofNat k then wm else 0)) - 10 * off
def ree (w1 w2 : Int32) (H S : Nat → Int32) (sr k : Nat) : Int32 := S sr - (if H (144 + k) = 3 then (if raj w1 w2 S sr = 0 then 0 else 300) else 0)
/-- how far the tap is open then -/
def rnw (w1 w2 wt wm off : Int32) (H S : Nat → Int32) (sr k : Nat) : Int32 := if H (144 + k) = 0 then S (8 + k) else if rwr w1 w2 (10 * 0 + Int32.ofNat k) = 0 then (if rwr w1 w2 (10 * 1 + Int32.ofNat k) = 0 then rnx (H (144 + k)) (ree w1 w2 H S sr k) (rgo wt wm off H k) (S (8 + k)) else S (8 + k)) else S (8 + k)
def rdr (now was dir : Int32) : Int32 := if now = was then dir else if now ≤ was then -1 else 1
def rtb (x : Int64) : Int64 := (x <<< (Int32.toInt64 1 &&& 63)) &&& 1152921504606846975
def rtu (now was dir : Int32) (x : Int64) : Int64 := if now = was then rtb x else if dir = -(if now ≤ was then -1 else 1) then rtb x ||| 1 else rtb x
theorem r_mov254 (d : Nat) {G : mG} {I : Nat → Nat → Int32} {L : Nat → Nat → Int64} {m k : Nat} (was now : Int32) (x : Int64) (hM : LayM G m) (hk : k < 8) (hw : I (m + 4) (8 + k) = was) (hl : L (m + 6) k = rtb x) : f_X12_moves d 254 [.ref m, .int (Int32.ofNat k), mU, mU, mU, mU, .int was, .int now, mU] [] (G, I, L) = some (.inl none, (G, va_up I (m + 4) (va_up (va_up (I (m + 4)) (16 + k) (rdr now was (I (m + 4) (16 + k)))) (8 + k) now), va_up L (m + 6) (va_up (L (m + 6)) k (rtu now was (I (m + 4) (16 + k)) x)))) := by
  rw [e_X12_moves_254]
  unfold rdr rtu
  by_cases c : now = was
  · have e1 : va_up (I (m + 4)) (8 + k) now = I (m + 4) := up_same (by rw [hw, c])
    rw [if_pos c, if_pos c, if_pos c, up_id, e1, up_id, ← hl, up_id, up_id]
  rw [if_neg c, if_neg c, if_neg c, e_X12_moves_262]
  have tail : ∀ y : Int32, f_X12_moves d 274 [.ref m, .int (Int32.ofNat k), mU, mU, mU, mU, mU, .int now, mU] [.int y] (G, I, L) = some (.inl none, (G, va_up I (m + 4) (va_up (va_up (I (m + 4)) (16 + k) y) (8 + k) now), va_up L (m + 6) (va_up (L (m + 6)) k (if I (m + 4) (16 + k) = -y then rtb x ||| 1 else rtb x)))) := by
    intro y
    rw [e_X12_moves_274]
    by_cases c3 : I (m + 4) (16 + k) = -y
    · simp (disch := omega) only [↓vM hM, ixA, ixZ, if_pos c3, e_X12_moves_303, up2_e, up_eq, up_up, up_ne, hl]
    · simp (disch := omega) only [↓vM hM, ixA, ixZ, if_neg c3, e_X12_moves_303, up2_e, up_eq, up_up, up_ne]
      rw [← hl, up_id, up_id]
  by_cases c2 : now ≤ was
  · rw [if_pos c2, if_pos c2, e_X12_moves_273]
    exact tail (-1)
  · rw [if_neg c2, if_neg c2]
    exact tail 1
theorem r_moves (d : Nat) {G : mG} {I : Nat → Nat → Int32} {L : Nat → Nat → Int64} {m k nh sb sr : Nat} {off : Int32} (hM : LayM G m) (hk : k < 8) (hnh : I (m + 4) 154 = Int32.ofNat nh) (hnh4 : nh ≤ 4) (ho : off = rof (I m 21) (I (m + 4)) nh) (hsb : rsb (I m 15) (I m 16) (Int32.ofNat k) = Int32.ofNat sb) (hsb8 : sb < 8) (hsr : I (m + 1) (120 + sb) = Int32.ofNat sr) (hsr8 : sr < 8) : mcal mT (d + 4) 226 [.ref m, .int (Int32.ofNat k)] (G, I, L) = some (.inl none, (G, va_up I (m + 4) (va_up (va_up (I (m + 4)) (16 + k) (rdr (rnw (I m 15) (I m 16) (I m 18) (I m 19) off (I (m + 1)) (I (m + 4)) sr k) (I (m + 4) (8 + k)) (I (m + 4) (16 + k)))) (8 + k) (rnw (I m 15) (I m 16) (I m 18) (I m 19) off (I (m + 1)) (I (m + 4)) sr k)), va_up L (m + 6) (va_up (L (m + 6)) k (rtu (rnw (I m 15) (I m 16) (I m 18) (I m 19) off (I (m + 1)) (I (m + 4)) sr k) (I (m + 4) (8 + k)) (I (m + 4) (16 + k)) (L (m + 6) k))))) := by
  have L1 : va_up (va_up L (m + 6) (va_up (L (m + 6)) k (rtb (L (m + 6) k)))) (m + 6) (va_up (va_up (L (m + 6)) k (rtb (L (m + 6) k))) k (rtb (L (m + 6) k))) = va_up L (m + 6) (va_up (L (m + 6)) k (rtb (L (m + 6) k))) := by rw [up_up, up_up]
  have rb : (L (m + 6) k <<< (Int32.toInt64 1 &&& 63)) &&& 1152921504606846975 = rtb (L (m + 6) k) := rfl
  have stay : ∀ now : Int32, now = I (m + 4) (8 + k) → some ((Sum.inl none : Option Value ⊕ String), (G, I, va_up L (m + 6) (va_up (L (m + 6)) k (rtb (L (m + 6) k))))) = some (Sum.inl none, (G, va_up I (m + 4) (va_up (va_up (I (m + 4)) (16 + k) (rdr now (I (m + 4) (8 + k)) (I (m + 4) (16 + k)))) (8 + k) now), va_up L (m + 6) (va_up (L (m + 6)) k (rtu now (I (m + 4) (8 + k)) (I (m + 4) (16 + k)) (L (m + 6) k))))) := by
    intro now c
    unfold rdr rtu
    rw [if_pos c, if_pos c, up_id, up_same c.symm, up_id]
  simp (disch := omega) only [q_X12_moves_, e_X12_moves_0, ↓vM hM, ixA, ixZ, up2_e, rb, ↓mcI_of (r_isWrong (d + 2) 0 (Int32.ofNat k) hM), ↓mcI_of (r_isWrong (d + 2) 1 (Int32.ofNat k) hM), e_X12_moves_55]
  by_cases c0 : I (m + 1) (144 + k) = 0
  · rw [if_pos c0]
    exact stay _ (by unfold rnw; rw [if_pos c0])
  rw [if_neg c0]
  by_cases c1 : ¬ rwr (I m 15) (I m 16) (10 * 0 + Int32.ofNat k) = 0
  · rw [if_neg c1]
    exact stay _ (by unfold rnw; rw [if_neg c0, if_neg c1])
  replace c1 := Decidable.not_not.mp c1
  rw [if_pos c1]
  by_cases c2 : ¬ rwr (I m 15) (I m 16) (10 * 1 + Int32.ofNat k) = 0
  · rw [if_neg c2]
    exact stay _ (by unfold rnw; rw [if_neg c0, if_pos c1, if_neg c2])
  replace c2 := Decidable.not_not.mp c2
  rw [if_pos c2, e_X12_moves_56]
  have en : rnw (I m 15) (I m 16) (I m 18) (I m 19) off (I (m + 1)) (I (m + 4)) sr k = rnx (I (m + 1) (144 + k)) (ree (I m 15) (I m 16) (I (m + 1)) (I (m + 4)) sr k) (rgo (I m 18) (I m 19) off (I (m + 1)) k) (I (m + 4) (8 + k)) := by
    unfold rnw
    rw [if_neg c0, if_pos c1, if_pos c2]
  rw [en]
  generalize hL : va_up L (m + 6) (va_up (L (m + 6)) k (rtb (L (m + 6) k))) = L'
  have hl : L' (m + 6) k = rtb (L (m + 6) k) := by rw [← hL, up_eq, up_eq]
  have fin : ∀ now : Int32, f_X12_moves (d + 3) 254 [.ref m, .int (Int32.ofNat k), mU, mU, mU, mU, .int (I (m + 4) (8 + k)), .int now, mU] [] (G, I, L') = some (.inl none, (G, va_up I (m + 4) (va_up (va_up (I (m + 4)) (16 + k) (rdr now (I (m + 4) (8 + k)) (I (m + 4) (16 + k)))) (8 + k) now), va_up L (m + 6) (va_up (L (m + 6)) k (rtu now (I (m + 4) (8 + k)) (I (m + 4) (16 + k)) (L (m + 6) k))))) := by
    intro now
    rw [r_mov254 (d + 3) _ now (L (m + 6) k) hM hk rfl hl, ← hL, up_eq, up_up, up_up]
  have t129 : ∀ (y : Int32), f_X12_moves (d + 3) 129 [.ref m, .int (Int32.ofNat k), .int (I (m + 1) (144 + k)), mU, .int (ree (I m 15) (I m 16) (I (m + 1)) (I (m + 4)) sr k), mU, mU, mU, mU] [.int (if I m 18 = Int32.ofNat k then I m 19 else 0), .int (I (m + 1) (152 + k)), .int 10] (G, I, L') = some (.inl none, (G, va_up I (m + 4) (va_up (va_up (I (m + 4)) (16 + k) (rdr (rnx (I (m + 1) (144 + k)) (ree (I m 15) (I m 16) (I (m + 1)) (I (m + 4)) sr k) (rgo (I m 18) (I m 19) off (I (m + 1)) k) (I (m + 4) (8 + k))) (I (m + 4) (8 + k)) (I (m + 4) (16 + k)))) (8 + k) (rnx (I (m + 1) (144 + k)) (ree (I m 15) (I m 16) (I (m + 1)) (I (m + 4)) sr k) (rgo (I m 18) (I m 19) off (I (m + 1)) k) (I (m + 4) (8 + k)))), va_up L (m + 6) (va_up (L (m + 6)) k (rtu (rnx (I (m + 1) (144 + k)) (ree (I m 15) (I m 16) (I (m + 1)) (I (m + 4)) sr k) (rgo (I m 18) (I m 19) off (I (m + 1)) k) (I (m + 4) (8 + k))) (I (m + 4) (8 + k)) (I (m + 4) (16 + k)) (L (m + 6) k))))) := by
    intro _
    rw [e_X12_moves_129]
    have gg : 10 * (I (m + 1) (152 + k) + (if I m 18 = Int32.ofNat k then I m 19 else 0)) - 10 * off = rgo (I m 18) (I m 19) off (I (m + 1)) k := rfl
    simp (disch := omega) only [↓vM hM, ↓mcI_of (r_offNow d hM hnh hnh4), ← ho, ixA, gg]
    generalize rgo (I m 18) (I m 19) off (I (m + 1)) k = go
    generalize ree (I m 15) (I m 16) (I (m + 1)) (I (m + 4)) sr k = se
    simp only [e_X12_moves_182, e_X12_moves_189, e_X12_moves_207, e_X12_moves_214, e_X12_moves_216, e_X12_moves_221, e_X12_moves_236, e_X12_moves_250, e_X12_moves_252, fin]
    unfold rnx
    repeat' split
    all_goals rfl
  have t98 : ∀ y : Int32, I (m + 4) sr - y = ree (I m 15) (I m 16) (I (m + 1)) (I (m + 4)) sr k → f_X12_moves (d + 3) 98 [.ref m, .int (Int32.ofNat k), .int (I (m + 1) (144 + k)), mU, mU, mU, mU, mU, mU] [.int y, .int (I (m + 4) sr)] (G, I, L') = some (.inl none, (G, va_up I (m + 4) (va_up (va_up (I (m + 4)) (16 + k) (rdr (rnx (I (m + 1) (144 + k)) (ree (I m 15) (I m 16) (I (m + 1)) (I (m + 4)) sr k) (rgo (I m 18) (I m 19) off (I (m + 1)) k) (I (m + 4) (8 + k))) (I (m + 4) (8 + k)) (I (m + 4) (16 + k)))) (8 + k) (rnx (I (m + 1) (144 + k)) (ree (I m 15) (I m 16) (I (m + 1)) (I (m + 4)) sr k) (rgo (I m 18) (I m 19) off (I (m + 1)) k) (I (m + 4) (8 + k)))), va_up L (m + 6) (va_up (L (m + 6)) k (rtu (rnx (I (m + 1) (144 + k)) (ree (I m 15) (I m 16) (I (m + 1)) (I (m + 4)) sr k) (rgo (I m 18) (I m 19) off (I (m + 1)) k) (I (m + 4) (8 + k))) (I (m + 4) (8 + k)) (I (m + 4) (16 + k)) (L (m + 6) k))))) := by
    intro y hy
    have := t129 0
    rw [e_X12_moves_98]
    by_cases c : I m 18 = Int32.ofNat k
    · rw [if_pos c] at this
      simp (disch := omega) only [↓vM hM, ixA, if_pos c, hy]
      exact this
    · rw [if_neg c] at this
      simp (disch := omega) only [↓vM hM, ixA, if_neg c, hy, e_X12_moves_128]
      exact this
  simp (disch := omega) only [↓vM hM, ↓mcI_of (r_seenBy (d + 1) (Int32.ofNat k) hM), hsb, ixA, hsr, ixZ, ↓mcI_of (r_isAjar (d + 1) hM hsr8), e_X12_moves_97]
  have er : ree (I m 15) (I m 16) (I (m + 1)) (I (m + 4)) sr k = I (m + 4) sr - (if I (m + 1) (144 + k) = 3 then (if raj (I m 15) (I m 16) (I (m + 4)) sr = 0 then 0 else 300) else 0) := rfl
  by_cases c3 : I (m + 1) (144 + k) = 3
  · rw [if_pos c3] at er ⊢
    by_cases c4 : raj (I m 15) (I m 16) (I (m + 4)) sr = 0
    · rw [if_pos c4] at er ⊢
      exact t98 0 er.symm
    · rw [if_neg c4] at er ⊢
      exact t98 300 er.symm
  · rw [if_neg c3] at er ⊢
    exact t98 0 er.symm
