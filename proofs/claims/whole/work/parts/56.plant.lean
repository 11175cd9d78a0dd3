/-! a plant's minute: dead pipes, gains -/
def ddn (hot : Int32) (fl : Nat → Int32) (pi : Nat → Nat) (D : Nat → Int32) : Nat → Nat → Int32
  | 0 => D
  | k + 1 => if hot = 0 then ddn hot fl pi D k else if fl k ≤ 0 then ddn hot fl pi D k else va_up (ddn hot fl pi D k) (pi k) 0
theorem c_countDead (d : Nat) {G : mG} {I : Nat → Nat → Int32} {L : Nat → Nat → Int64} {p h s t u n : Nat} {pi : Nat → Nat} (hot : Int32) (hP : LayP G p h s t u) (hH : LayH G h) (hT : LayT G t) (h1 : h + 14 ≤ t) (hn : I h 10 = Int32.ofNat n) (hn8 : n ≤ 8) (hR : ∀ k, k < n → I (h + 10) k = Int32.ofNat (pi k) ∧ pi k < 4) : mcal mT (d + 1) 67 [.ref p, .int hot] (G, I, L) = some (.inl none, (G, va_up I (t + 13) (ddn hot (I (t + 10)) pi (pre 4 (fun j => I (t + 13) j + 1) (I (t + 13))) n), L)) := by
  simp only [q_X6_countDead_, e_X6_countDead_0]
  have A := loopx (fun x (q : Nat → Nat → Int32) => f_X6_countDead d 2 [.ref p, .int hot, .int x] [] (G, q, L))
    (fun k => va_up I (t + 13) (pre k (fun j => I (t + 13) j + 1) (I (t + 13)))) 4 (by
      intro k hk
      have e1 : ¬ (4 : Int32) ≤ Int32.ofNat k := by
        have := i_le (a := 4) (b := k) (by omega) (by omega)
        intro q
        have := this.mp q
        omega
      rw [e_X6_countDead_2]
      simp (disch := omega) only [↓vP hP, ↓vT hT, if_neg e1, up2_e, up_eq, up_ne, up_up, pre_ge, i_one]
      rw [pre_s]
      rfl)
  simp only [pre_0, up_id] at A
  rw [A, e_X6_countDead_2, if_pos (by decide), e_X6_countDead_26]
  have B := loopx (fun x (q : Nat → Nat → Int32) => f_X6_countDead d 28 [.ref p, .int hot, .int x] [] (G, q, L))
    (fun k => va_up I (t + 13) (ddn hot (I (t + 10)) pi (pre 4 (fun j => I (t + 13) j + 1) (I (t + 13))) k)) n (by
      intro k hk
      have hk8 : k < 8 := by omega
      have e1 : ¬ Int32.ofNat n ≤ Int32.ofNat k := by rw [i_le (by omega) (by omega)]; omega
      obtain ⟨r1, r2⟩ := hR k hk
      rw [e_X6_countDead_28]
      by_cases c1 : hot = 0
      · simp (disch := omega) only [↓vP hP, ↓vH hH, hn, if_neg e1, if_pos c1, e_X6_countDead_73, up_ne, i_one, ddn]
      by_cases c2 : I (t + 10) k ≤ 0
      · simp (disch := omega) only [↓vP hP, ↓vH hH, ↓vT hT, hn, if_neg e1, if_neg c1, if_pos c2, e_X6_countDead_73, up_ne, i_one, ddn]
      · simp (disch := omega) only [↓vP hP, ↓vH hH, ↓vT hT, hn, if_neg e1, if_neg c1, if_neg c2, r1, e_X6_countDead_73, up2_e, up_eq, up_ne, up_up, i_one, ddn])
  rw [show va_up I (t + 13) (pre 4 (fun j => I (t + 13) j + 1) (I (t + 13))) = va_up I (t + 13) (ddn hot (I (t + 10)) pi (pre 4 (fun j => I (t + 13) j + 1) (I (t + 13))) 0) from rfl, B]
  have e1 : Int32.ofNat n ≤ Int32.ofNat n := by rw [i_le (by omega) (by omega)]; omega
  rw [e_X6_countDead_28]
  simp (disch := omega) only [↓vP hP, ↓vH hH, if_pos e1, e_X6_countDead_79, up_ne, hn]
theorem up_mid {α : Type} {F : Nat → α} {a b : Nat} {v w v' : α} (h : a ≠ b) : va_up (va_up (va_up F a v) b w) a v' = va_up (va_up F b w) a v' := by
  funext j
  by_cases q : j = a
  · rw [q, up_eq, up_eq]
  · rw [up_ne q, up_ne q]
    by_cases r : j = b
    · rw [r, up_eq, up_eq]
    · rw [up_ne r, up_ne r, up_ne q]
theorem up_same {α : Type} {F : Nat → α} {a : Nat} {v : α} (h : F a = v) : va_up F a v = F := by rw [← h]; exact up_id
def ghn (rm : Nat → Nat) (H D : Nat → Int32) : Nat → Nat → Int32
  | 0 => D
  | k + 1 => va_up (ghn rm H D k) (rm k) (ghn rm H D k (rm k) + H k)
def mtr (I : Nat → Nat → Int32) (t j : Nat) : Int32 := jmin 100000000 (I (t + 12) j + I (t + 11) j)
theorem c_gain (d : Nat) {G : mG} {I : Nat → Nat → Int32} {L : Nat → Nat → Int64} {p h s t u n r : Nat} {rm : Nat → Nat} (hr : Int32) (hP : LayP G p h s t u) (hH : LayH G h) (hT : LayT G t) (h1 : h + 14 ≤ t) (hr1 : I h 1 = Int32.ofNat r) (hr8 : r ≤ 8) (hn : I h 10 = Int32.ofNat n) (hn8 : n ≤ 8) (hR : ∀ k, k < n → I (h + 9) k = Int32.ofNat (rm k) ∧ rm k < 8) : mcal mT (d + 2) 65 [.ref p, .int hr] (G, I, L) = some (.inl none, (G, va_up (va_up (va_up I (t + 6) (pre r (snn I h hr) (I (t + 6)))) (t + 5) (ghn rm (I (t + 11)) (pre r (fun _ => 0) (I (t + 5))) n)) (t + 12) (pre n (mtr I t) (I (t + 12))), L)) := by
  simp only [q_X6_gain_, e_X6_gain_0]
  have A := loopx (fun x (q : Nat → Nat → Int32) => f_X6_gain (d + 1) 2 [.ref p, .int hr, .int x] [] (G, q, L))
    (fun k => va_up (va_up I (t + 5) (pre k (fun _ => 0) (I (t + 5)))) (t + 6) (pre k (snn I h hr) (I (t + 6)))) r (by
      intro k hk
      have hk8 : k < 8 := by omega
      have e1 : ¬ Int32.ofNat r ≤ Int32.ofNat k := by rw [i_le (by omega) (by omega)]; omega
      rw [e_X6_gain_2]
      simp (disch := omega) only [↓vP hP, ↓vH hH, ↓vT hT, hr1, if_neg e1, c_sunAt d hr hH hk8, mcI_v, up2_e, up_eq, up_ne, up_two, snn, i_one]
      rw [pre_s, pre_s]
      · rfl
      · rfl)
  simp only [pre_0, up_id] at A
  rw [A, e_X6_gain_2]
  have e1 : Int32.ofNat r ≤ Int32.ofNat r := by rw [i_le (by omega) (by omega)]; omega
  simp (disch := omega) only [↓vP hP, ↓vH hH, if_pos e1, e_X6_gain_47, up_ne, hr1]
  have B := loopx (fun x (q : Nat → Nat → Int32) => f_X6_gain (d + 1) 49 [.ref p, mU, .int x] [] (G, q, L))
    (fun k => va_up (va_up (va_up I (t + 6) (pre r (snn I h hr) (I (t + 6)))) (t + 5) (ghn rm (I (t + 11)) (pre r (fun _ => 0) (I (t + 5))) k)) (t + 12) (pre k (mtr I t) (I (t + 12)))) n (by
      intro k hk
      have hk8 : k < 8 := by omega
      have e1 : ¬ Int32.ofNat n ≤ Int32.ofNat k := by rw [i_le (by omega) (by omega)]; omega
      obtain ⟨r1, r2⟩ := hR k hk
      rw [e_X6_gain_49]
      simp (disch := omega) only [↓vP hP, ↓vH hH, ↓vT hT, hn, if_neg e1, r1, up2_e, up_eq, up_ne, up_two, pre_ge, i_one, ghn]
      rw [pre_s]
      rfl)
  have z : va_up (va_up I (t + 5) (pre r (fun _ => 0) (I (t + 5)))) (t + 6) (pre r (snn I h hr) (I (t + 6))) = va_up (va_up (va_up I (t + 6) (pre r (snn I h hr) (I (t + 6)))) (t + 5) (ghn rm (I (t + 11)) (pre r (fun _ => 0) (I (t + 5))) 0)) (t + 12) (pre 0 (mtr I t) (I (t + 12))) := by
    rw [pre_0]
    rw [up_same (F := va_up (va_up I (t + 6) _) (t + 5) _) (by rw [up_ne (by omega), up_ne (by omega)])]
    funext j
    by_cases q : j = t + 5
    · rw [q, up_ne (by omega), up_eq, up_eq]; rfl
    · by_cases q2 : j = t + 6
      · rw [q2, up_eq, up_ne (by omega), up_eq]
      · rw [up_ne q2, up_ne q, up_ne q, up_ne q2]
  rw [z, B, e_X6_gain_49]
  have e2 : Int32.ofNat n ≤ Int32.ofNat n := by rw [i_le (by omega) (by omega)]; omega
  simp (disch := omega) only [↓vP hP, ↓vH hH, if_pos e2, e_X6_gain_128, up_ne, hn]
