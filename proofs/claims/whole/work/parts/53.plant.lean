/-! a plant's minute -/
def opn (I : Nat → Nat → Int32) (h s t k : Nat) : Int32 := if ((I t 2 >>> (I (h + 10) k &&& 31)) &&& 1) = 0 then jmin (I (t + 7) k) (I (s + 1) k) else 0
theorem c_openingOf (d : Nat) {G : mG} {I : Nat → Nat → Int32} {L : Nat → Nat → Int64} {p h s t u k : Nat} (hP : LayP G p h s t u) (hH : LayH G h) (hS : LayS G s) (hT : LayT G t) (hk : k < 8) : mcal mT (d + 1) 57 [.ref p, .int (Int32.ofNat k)] (G, I, L) = some (.inl (some (.int (opn I h s t k))), (G, I, L)) := by
  simp only [q_X6_openingOf_, e_X6_openingOf_0, e_X6_openingOf_24, gk, gr, gx, uP hP, uH hH, uS hS, uT hT, ix hk (by decide), if_true, not_false_eq_true, and_self, or_self, opn]
  split <;> rfl
def pfl (I : Nat → Nat → Int32) (h s t n j : Nat) : Int32 := if 0 < sm n (opn I h s t) then I s 10 * opn I h s t j / sm n (opn I h s t) else 0
theorem opn_up {I : Nat → Nat → Int32} {h s t k : Nat} {A : Nat → Int32} (h1 : h + 14 ≤ s) (h2 : s + 7 ≤ t) : opn (va_up I (t + 10) A) h s t k = opn I h s t k := by
  unfold opn
  simp (disch := omega) only [up_ne]
theorem c_partFlow (d : Nat) {G : mG} {I : Nat → Nat → Int32} {L : Nat → Nat → Int64} {p h s t u n : Nat} (hP : LayP G p h s t u) (hH : LayH G h) (hS : LayS G s) (hT : LayT G t) (h1 : h + 14 ≤ s) (h2 : s + 7 ≤ t) (hn : I h 10 = Int32.ofNat n) (hn8 : n ≤ 8) : mcal mT (d + 2) 58 [.ref p] (G, I, L) = some (.inl none, (G, va_up I (t + 10) (pre n (pfl I h s t n) (I (t + 10))), L)) := by
  simp only [q_X6_partFlow_, e_X6_partFlow_0]
  have A := loopx (fun x (q : Int32 × (Nat → Nat → Int32)) => f_X6_partFlow (d + 1) 4 [.ref p, .int q.1, .int x, mU] [] (G, q.2, L))
    (fun k => (sm k (opn I h s t), va_up I (t + 10) (pre k (fun j => I s 10 * opn I h s t j) (I (t + 10))))) n (by
      intro k hk
      have hk8 : k < 8 := by omega
      have e1 : ¬ Int32.ofNat n ≤ Int32.ofNat k := by rw [i_le (by omega) (by omega)]; omega
      dsimp only
      rw [e_X6_partFlow_4]
      simp (disch := omega) only [gk, gr, gx, uP hP, uH hH, uS hS, uT hT, ix hk8 (by decide), if_true, not_false_eq_true, and_self, or_self, c_openingOf d hP hH hS hT hk8, mcI_v, hn, if_neg e1, opn_up h1 h2, up2_e, up_eq, up_ne, up_up, i_one, sm_s]
      rw [pre_s rfl])
  simp only [pre_0, up_id, sm_0] at A
  rw [A]
  have e1 : Int32.ofNat n ≤ Int32.ofNat n := by rw [i_le (by omega) (by omega)]; omega
  rw [e_X6_partFlow_4]
  simp (disch := omega) only [gk, gr, uP hP, uH hH, if_true, if_pos e1, e_X6_partFlow_49, up_ne, hn]
  have B := loopx (fun x (q : Nat → Nat → Int32) => f_X6_partFlow (d + 1) 51 [.ref p, .int (sm n (opn I h s t)), .int x, mU] [] (G, q, L))
    (fun k => va_up I (t + 10) (pre k (pfl I h s t n) (pre n (fun j => I s 10 * opn I h s t j) (I (t + 10))))) n (by
      intro k hk
      have hk8 : k < 8 := by omega
      have e1 : ¬ Int32.ofNat n ≤ Int32.ofNat k := by rw [i_le (by omega) (by omega)]; omega
      rw [e_X6_partFlow_51]
      by_cases c : 0 < sm n (opn I h s t)
      · have c0 : ¬ sm n (opn I h s t) = 0 := fun q => by rw [q] at c; exact absurd c (by decide)
        simp (disch := omega) only [gk, gr, gx, uP hP, uH hH, uT hT, ix hk8 (by decide), if_true, not_false_eq_true, and_self, or_self, hn, if_neg e1, if_pos c, e_X6_partFlow_78, e_X6_partFlow_89, if_neg c0, up2_e, up_eq, up_ne, up_up, i_one]
        rw [pre_s]
        rw [pre_ge (by omega), pre_lt hk]
        exact (if_pos c).symm
      · simp (disch := omega) only [gk, gr, gx, uP hP, uH hH, uT hT, ix hk8 (by decide), if_true, not_false_eq_true, and_self, or_self, hn, if_neg e1, if_neg c, e_X6_partFlow_89, up2_e, up_eq, up_ne, up_up, i_one]
        rw [pre_s]
        exact (if_neg c).symm)
  simp only [pre_0] at B
  rw [B]
  rw [e_X6_partFlow_51]
  simp (disch := omega) only [gk, gr, uP hP, uH hH, if_true, if_pos e1, e_X6_partFlow_96, up_ne, hn]
  have e : pre n (pfl I h s t n) (pre n (fun j => I s 10 * opn I h s t j) (I (t + 10))) = pre n (pfl I h s t n) (I (t + 10)) := by
    funext j
    by_cases q : j < n
    · rw [pre_lt q, pre_lt q]
    · rw [pre_ge q, pre_ge q, pre_ge q]
  rw [e]
