/-! taps move -/
def nxo (I : Nat → Nat → Int32) (h t u : Nat) (off : Int32) (sn : Nat → Nat) (k : Nat) : Int32 := nop I h t u ((I (u + 2) k - off) * 10) k (sn k)
def mvo (I : Nat → Nat → Int32) (h t u : Nat) (off : Int32) (sn : Nat → Nat) (k : Nat) : Int32 := cmp3 (nxo I h t u off sn k) (I (t + 7) k)
def tno (I : Nat → Nat → Int32) (h t u : Nat) (off : Int32) (sn : Nat → Nat) (k : Nat) : Int32 := if mvo I h t u off sn k = 0 then 0 else if mvo I h t u off sn k = -(I (t + 8) k) then 1 else 0
def lmo (I : Nat → Nat → Int32) (h t u : Nat) (off : Int32) (sn : Nat → Nat) (k : Nat) : Int32 := if mvo I h t u off sn k = 0 then I (t + 8) k else mvo I h t u off sn k
def tuo (I : Nat → Nat → Int32) (L : Nat → Nat → Int64) (h t u : Nat) (off : Int32) (sn : Nat → Nat) (k : Nat) : Int64 := ((L (t + 9) k <<< (Int32.toInt64 1 &&& 63)) ||| (if tno I h t u off sn k = 0 then 0 else 1)) &&& 1152921504606846975
theorem nop_up {I : Nat → Nat → Int32} {h t u k sn : Nat} {goal : Int32} {A B : Nat → Int32} (h1 : h + 14 ≤ t) (h2 : t + 14 ≤ u) : nop (va_up (va_up I (t + 8) A) (t + 7) (pre k B (I (t + 7)))) h t u goal k sn = nop I h t u goal k sn := by
  unfold nop wth
  simp (disch := omega) only [up_ne, up_eq, pre_ge]
theorem c_moveTaps (d : Nat) {G : mG} {I : Nat → Nat → Int32} {L : Nat → Nat → Int64} {p h s t u n : Nat} {sn : Nat → Nat} (off : Int32) (hP : LayP G p h s t u) (hH : LayH G h) (hT : LayT G t) (hU : LayU G u) (h1 : h + 14 ≤ t) (h2 : t + 14 ≤ u) (hn : I h 10 = Int32.ofNat n) (hn8 : n ≤ 8) (hR : ∀ k, k < n → I (u + 1) k = Int32.ofNat (sn k) ∧ sn k < 8) : mcal mT (d + 3) 68 [.ref p, .int off] (G, I, L) = some (.inl none, (G, va_up (va_up I (t + 8) (pre n (lmo I h t u off sn) (I (t + 8)))) (t + 7) (pre n (nxo I h t u off sn) (I (t + 7))), va_up L (t + 9) (pre n (tuo I L h t u off sn) (L (t + 9))))) := by
  simp only [q_X6_moveTaps_, e_X6_moveTaps_0]
  have A := loopx (fun x (q : (Nat → Nat → Int32) × (Nat → Nat → Int64)) => f_X6_moveTaps (d + 2) 2 [.ref p, .int off, .int x, mU, mU, mU] [] (G, q.1, q.2))
    (fun k => (va_up (va_up I (t + 8) (pre k (lmo I h t u off sn) (I (t + 8)))) (t + 7) (pre k (nxo I h t u off sn) (I (t + 7))), va_up L (t + 9) (pre k (tuo I L h t u off sn) (L (t + 9))))) n (by
      intro k hk
      have hk8 : k < 8 := by omega
      have e1 : ¬ Int32.ofNat n ≤ Int32.ofNat k := by rw [i_le (by omega) (by omega)]; omega
      obtain ⟨r1, r2⟩ := hR k hk
      have r1' : va_up (va_up I (t + 8) (pre k (lmo I h t u off sn) (I (t + 8)))) (t + 7) (pre k (nxo I h t u off sn) (I (t + 7))) (u + 1) k = Int32.ofNat (sn k) := by rw [up_ne (by omega), up_ne (by omega)]; exact r1
      have fin : ∀ (J : Nat → Nat → Int32) (M : Nat → Nat → Int64) (v : Int32), f_X6_moveTaps (d + 2) 137 [.ref p, .int off, .int (Int32.ofNat k), .int (nxo I h t u off sn k), mU, mU] [.int v, .int (Int32.ofNat k), .ref (t + 8)] (G, J, M) = f_X6_moveTaps (d + 2) 2 [.ref p, .int off, .int (Int32.ofNat (k + 1)), mU, mU, mU] [] (G, up2 (up2 J (t + 8) k v) (t + 7) k (nxo I h t u off sn k), M) := by
        intro J M v
        simp (disch := omega) only [e_X6_moveTaps_137, ↓vP hP, ↓vT hT, i_one]
      have mid : ∀ (y : Int32), y = tno I h t u off sn k → f_X6_moveTaps (d + 2) 73 [.ref p, .int off, .int (Int32.ofNat k), .int (nxo I h t u off sn k), .int (mvo I h t u off sn k), mU] [.int y] (G, va_up (va_up I (t + 8) (pre k (lmo I h t u off sn) (I (t + 8)))) (t + 7) (pre k (nxo I h t u off sn) (I (t + 7))), va_up L (t + 9) (pre k (tuo I L h t u off sn) (L (t + 9)))) = f_X6_moveTaps (d + 2) 2 [.ref p, .int off, .int (Int32.ofNat (k + 1)), mU, mU, mU] [] (G, va_up (va_up I (t + 8) (pre (k + 1) (lmo I h t u off sn) (I (t + 8)))) (t + 7) (pre (k + 1) (nxo I h t u off sn) (I (t + 7))), va_up L (t + 9) (pre (k + 1) (tuo I L h t u off sn) (L (t + 9)))) := by
        intro y hy
        have tail : ∀ z : Int64, z = (if tno I h t u off sn k = 0 then 0 else 1) → f_X6_moveTaps (d + 2) 104 [.ref p, .int off, .int (Int32.ofNat k), .int (nxo I h t u off sn k), .int (mvo I h t u off sn k), mU] [.long z, .long (L (t + 9) k <<< (Int32.toInt64 1 &&& 63)), .int (Int32.ofNat k), .ref (t + 9)] (G, va_up (va_up I (t + 8) (pre k (lmo I h t u off sn) (I (t + 8)))) (t + 7) (pre k (nxo I h t u off sn) (I (t + 7))), va_up L (t + 9) (pre k (tuo I L h t u off sn) (L (t + 9)))) = f_X6_moveTaps (d + 2) 2 [.ref p, .int off, .int (Int32.ofNat (k + 1)), mU, mU, mU] [] (G, va_up (va_up I (t + 8) (pre (k + 1) (lmo I h t u off sn) (I (t + 8)))) (t + 7) (pre (k + 1) (nxo I h t u off sn) (I (t + 7))), va_up L (t + 9) (pre (k + 1) (tuo I L h t u off sn) (L (t + 9)))) := by
          intro z hz
          have eL : va_up (pre k (tuo I L h t u off sn) (L (t + 9))) k ((L (t + 9) k <<< (Int32.toInt64 1 &&& 63) ||| z) &&& 1152921504606846975) = pre (k + 1) (tuo I L h t u off sn) (L (t + 9)) := pre_s (by rw [hz]; rfl)
          by_cases c : mvo I h t u off sn k = 0
          · simp (disch := omega) only [e_X6_moveTaps_104, ↓vP hP, ↓vT hT, if_pos c, e_X6_moveTaps_128, fin, up2_e, up_eq, up_ne, up_up, up_two, pre_ge, eL]
            rw [pre_s, pre_s]
            · rfl
            · exact (if_pos c).symm
          · simp (disch := omega) only [e_X6_moveTaps_104, ↓vP hP, ↓vT hT, if_neg c, fin, up2_e, up_eq, up_ne, up_up, up_two, pre_ge, eL]
            rw [pre_s, pre_s]
            · rfl
            · exact (if_neg c).symm
        rw [e_X6_moveTaps_73]
        by_cases c : y = 0
        · simp (disch := omega) only [↓vP hP, ↓vT hT, if_pos c, e_X6_moveTaps_103, up_eq, pre_ge]
          exact tail 0 (by rw [← hy, if_pos c])
        · simp (disch := omega) only [↓vP hP, ↓vT hT, if_neg c, up_eq, pre_ge]
          exact tail 1 (by rw [← hy, if_neg c])
      dsimp only
      rw [e_X6_moveTaps_2]
      have eN : nop I h t u ((I (u + 2) k - off) * 10) k (sn k) = nxo I h t u off sn k := rfl
      have eM : cmp3 (nxo I h t u off sn k) (I (t + 7) k) = mvo I h t u off sn k := rfl
      simp (disch := omega) only [↓vP hP, ↓vH hH, ↓vT hT, ↓vU hU, hn, if_neg e1, up_ne, c_nextOpening d _ hP hH hT hU hk8 r1' r2, mcI_v, nop_up h1 h2, eN, up_eq, pre_ge, c_compare, eM]
      by_cases c1 : mvo I h t u off sn k = 0
      · simp only [if_pos c1, e_X6_moveTaps_72]
        exact mid 0 (if_pos c1).symm
      · by_cases c2 : mvo I h t u off sn k = -(I (t + 8) k)
        · simp (disch := omega) only [if_neg c1, ↓vP hP, ↓vT hT, up_ne, up_eq, pre_ge, if_pos c2]
          exact mid 1 (by unfold tno; rw [if_neg c1, if_pos c2])
        · simp (disch := omega) only [if_neg c1, ↓vP hP, ↓vT hT, up_ne, up_eq, pre_ge, if_neg c2, e_X6_moveTaps_72]
          exact mid 0 (by unfold tno; rw [if_neg c1, if_neg c2]))
  simp only [pre_0, up_id] at A
  rw [A, e_X6_moveTaps_2]
  have e1 : Int32.ofNat n ≤ Int32.ofNat n := by rw [i_le (by omega) (by omega)]; omega
  simp (disch := omega) only [↓vP hP, ↓vH hH, if_pos e1, e_X6_moveTaps_154, up_ne, hn]
