/-! walls, pair by pair -/
theorem loopa {σ : Type} (F : Int32 → σ → Option mO) (S : Nat → σ) (a n : Nat) (hs : ∀ k, k < n → F (Int32.ofNat (a + k)) (S k) = F (Int32.ofNat (a + k + 1)) (S (k + 1))) : F (Int32.ofNat a) (S 0) = F (Int32.ofNat (a + n)) (S n) := by
  induction n with
  | zero => rfl
  | succ n ih => exact (ih fun k hk => hs k (by omega)).trans (hs n (by omega))
theorem i_m8 (r o : Nat) : Int32.ofNat r * 8 + Int32.ofNat o = Int32.ofNat (r * 8 + o) := by
  have e : Int32.ofNat r * 8 = Int32.ofNat (r * 8) := i_mul r 8
  rw [e, i_add]
def wli (lo : Nat → Nat → Int32) (r : Nat) (W : Nat → Int32) : Nat → Nat → Int32
  | 0 => W
  | j + 1 => va_up (va_up (wli lo r W j) r (wli lo r W j r + lo r (r + 1 + j))) (r + 1 + j) (wli lo r W j (r + 1 + j) - lo r (r + 1 + j))
def wlo (lo : Nat → Nat → Int32) (n : Nat) (W : Nat → Int32) : Nat → Nat → Int32
  | 0 => W
  | r + 1 => wli lo r (wlo lo n W r) (n - (r + 1))
def los (I : Nat → Nat → Int32) (h t r o : Nat) : Int32 := I (h + 3) (r * 8 + o) * (I (t + 1) r - I (t + 1) o) / 100
theorem los_0 {I : Nat → Nat → Int32} {h t r o : Nat} (c : I (h + 3) (r * 8 + o) = 0) : los I h t r o = 0 := by
  unfold los
  rw [c, Int32.zero_mul]
  decide
theorem c_loseThroughWalls (d : Nat) {G : mG} {I : Nat → Nat → Int32} {L : Nat → Nat → Int64} {p h s t u n : Nat} (hP : LayP G p h s t u) (hH : LayH G h) (hT : LayT G t) (h1 : h + 14 ≤ t) (hn : I h 1 = Int32.ofNat n) (hn8 : n ≤ 8) : mcal mT (d + 2) 63 [.ref p] (G, I, L) = some (.inl none, (G, va_up I (t + 2) (wlo (los I h t) n (pre 8 (fun _ => 0) (I (t + 2))) n), L)) := by
  have hK : gK G (t + 2) = 20 := (uT hT).2.2.2.2.2.1
  have hN : gN G (t + 2) = 8 := (uT hT).2.2.2.2.2.2.1
  simp (disch := omega) only [q_X6_loseThroughWalls_, e_X6_loseThroughWalls_0, ↓vP hP, ↓vT hT, c_fillI d 0 hK hN (by decide), mcV_v]
  have A := loopx (fun x (q : Nat → Nat → Int32) => f_X6_loseThroughWalls (d + 1) 13 [.ref p, .int x, mU, mU, mU] [] (G, q, L))
    (fun k => va_up I (t + 2) (wlo (los I h t) n (pre 8 (fun _ => 0) (I (t + 2))) k)) n (by
      intro r hr
      have e1 : ¬ Int32.ofNat n ≤ Int32.ofNat r := by rw [i_le (by omega) (by omega)]; omega
      rw [e_X6_loseThroughWalls_13]
      simp (disch := omega) only [↓vP hP, ↓vH hH, up_ne, hn, if_neg e1, i_one]
      have B := loopa (fun x (q : Nat → Nat → Int32) => f_X6_loseThroughWalls (d + 1) 28 [.ref p, .int (Int32.ofNat r), .int x, mU, mU] [] (G, q, L))
        (fun j => va_up I (t + 2) (wli (los I h t) r (wlo (los I h t) n (pre 8 (fun _ => 0) (I (t + 2))) r) j)) (r + 1) (n - (r + 1)) (by
          intro j hj
          have e2 : ¬ Int32.ofNat n ≤ Int32.ofNat (r + 1 + j) := by rw [i_le (by omega) (by omega)]; omega
          rw [e_X6_loseThroughWalls_28]
          by_cases c : I (h + 3) (r * 8 + (r + 1 + j)) = 0
          · simp (disch := omega) only [↓vP hP, ↓vH hH, up_ne, hn, if_neg e2, i_m8, if_pos c, e_X6_loseThroughWalls_115, i_one, wli, los_0 c, Int32.add_zero, Int32.sub_zero, up_id]
          · have c100 : ¬ (100 : Nat) = 0 := by decide
            have z : r ≠ r + 1 + j := by omega
            simp (disch := omega) only [↓vP hP, ↓vH hH, up_ne, hn, if_neg e2, i_m8, if_neg c, e_X6_loseThroughWalls_61, ↓vT hT, if_neg c100, e_X6_loseThroughWalls_115, i_one, wli, up2_e, up_eq, up_up, los])
      dsimp only [wli] at B
      rw [B, e_X6_loseThroughWalls_28]
      have e3 : Int32.ofNat n ≤ Int32.ofNat (r + 1 + (n - (r + 1))) := by rw [i_le (by omega) (by omega)]; omega
      simp (disch := omega) only [↓vP hP, ↓vH hH, up_ne, hn, if_pos e3, e_X6_loseThroughWalls_121, i_one, wlo])
  dsimp only [wlo] at A
  rw [A, e_X6_loseThroughWalls_13]
  have e1 : Int32.ofNat n ≤ Int32.ofNat n := by rw [i_le (by omega) (by omega)]; omega
  simp (disch := omega) only [↓vP hP, ↓vH hH, if_pos e1, e_X6_loseThroughWalls_127, up_ne, hn]
