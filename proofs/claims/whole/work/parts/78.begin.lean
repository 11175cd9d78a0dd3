/-! a state begins -/
def stA (I : Nat → Nat → Int32) (t h : Nat) : Nat → Nat → Int32 := fil (fil (fil (fil (fil (cpr (up2 (up2 (up2 (up2 (up2 (up2 I t 0 0) t 1 0) t 2 0) t 3 0) t 4 0) t 5 0) (h + 2) (t + 1) 8) (t + 2) 8 0) (t + 3) 8 0) (t + 4) 8 0) (t + 5) 8 0) (t + 6) 8 0
def stO (F : Nat → Nat → Int32) (t h n : Nat) : Nat → Nat → Int32 := va_up F (t + 7) (pre 8 (fun k => if tap F h n k = 0 then 16 else 0) (F (t + 7)))
def stB (I : Nat → Nat → Int32) (t h n : Nat) : Nat → Nat → Int32 := fil (fil (fil (fil (fil (stO (stA I t h) t h n) (t + 8) 8 0) (t + 10) 8 0) (t + 11) 8 0) (t + 12) 8 0) (t + 13) 4 0
theorem c_stBegin (d : Nat) {G : mG} {I : Nat → Nat → Int32} {L : Nat → Nat → Int64} {t h n : Nat} (hT : LayT G t) (hH : LayH G h) (h1 : h + 14 ≤ t) (hn : I h 10 = Int32.ofNat n) (hn8 : n ≤ 8) : mcal mT (d + 2) 80 [.ref t, .ref h] (G, I, L) = some (.inl none, (G, stB I t h n, fil L (t + 9) 8 0)) := by
  obtain ⟨-, -, p1, q1, -, p2, q2, -, p3, q3, -, p4, q4, -, p5, q5, -, p6, q6, -, p7, q7, -, p8, q8, -, p9, q9, -, p10, q10, -, p11, q11, -, p12, q12, -, p13, q13⟩ := uT hT
  obtain ⟨-, -, -, -, -, r1, t1, -⟩ := uH hH
  have m1 : ∀ (F : Nat → Nat → Int32) (f : (Nat → Nat → Int32) → Option mO), marc G 20 F (h + 2) 0 (t + 1) 0 8 f = f (cpr F (h + 2) (t + 1) 8) := fun F f => marc_c r1 p1 t1 q1 (by decide) f
  have f2 : ∀ (F : Nat → Nat → Int32) (L : Nat → Nat → Int64) (f : mH → Option mO) (g : String → mH → Option mO), mcV (mcal mT (d + 1) 293 [.ref (t + 2), .int 0] (G, F, L)) f g = f (G, fil F (t + 2) 8 0, L) := fun F L f g => mcV_of (c_fillI d 0 p2 q2 (by decide)) f g
  have f3 : ∀ (F : Nat → Nat → Int32) (L : Nat → Nat → Int64) (f : mH → Option mO) (g : String → mH → Option mO), mcV (mcal mT (d + 1) 293 [.ref (t + 3), .int 0] (G, F, L)) f g = f (G, fil F (t + 3) 8 0, L) := fun F L f g => mcV_of (c_fillI d 0 p3 q3 (by decide)) f g
  have f4 : ∀ (F : Nat → Nat → Int32) (L : Nat → Nat → Int64) (f : mH → Option mO) (g : String → mH → Option mO), mcV (mcal mT (d + 1) 293 [.ref (t + 4), .int 0] (G, F, L)) f g = f (G, fil F (t + 4) 8 0, L) := fun F L f g => mcV_of (c_fillI d 0 p4 q4 (by decide)) f g
  have f5 : ∀ (F : Nat → Nat → Int32) (L : Nat → Nat → Int64) (f : mH → Option mO) (g : String → mH → Option mO), mcV (mcal mT (d + 1) 293 [.ref (t + 5), .int 0] (G, F, L)) f g = f (G, fil F (t + 5) 8 0, L) := fun F L f g => mcV_of (c_fillI d 0 p5 q5 (by decide)) f g
  have f6 : ∀ (F : Nat → Nat → Int32) (L : Nat → Nat → Int64) (f : mH → Option mO) (g : String → mH → Option mO), mcV (mcal mT (d + 1) 293 [.ref (t + 6), .int 0] (G, F, L)) f g = f (G, fil F (t + 6) 8 0, L) := fun F L f g => mcV_of (c_fillI d 0 p6 q6 (by decide)) f g
  have f8 : ∀ (F : Nat → Nat → Int32) (L : Nat → Nat → Int64) (f : mH → Option mO) (g : String → mH → Option mO), mcV (mcal mT (d + 1) 293 [.ref (t + 8), .int 0] (G, F, L)) f g = f (G, fil F (t + 8) 8 0, L) := fun F L f g => mcV_of (c_fillI d 0 p8 q8 (by decide)) f g
  have f9 : ∀ (F : Nat → Nat → Int32) (L : Nat → Nat → Int64) (f : mH → Option mO) (g : String → mH → Option mO), mcV (mcal mT (d + 1) 292 [.ref (t + 9), .long 0] (G, F, L)) f g = f (G, F, fil L (t + 9) 8 0) := fun F L f g => mcV_of (c_fillL d 0 p9 q9 (by decide)) f g
  have f10 : ∀ (F : Nat → Nat → Int32) (L : Nat → Nat → Int64) (f : mH → Option mO) (g : String → mH → Option mO), mcV (mcal mT (d + 1) 293 [.ref (t + 10), .int 0] (G, F, L)) f g = f (G, fil F (t + 10) 8 0, L) := fun F L f g => mcV_of (c_fillI d 0 p10 q10 (by decide)) f g
  have f11 : ∀ (F : Nat → Nat → Int32) (L : Nat → Nat → Int64) (f : mH → Option mO) (g : String → mH → Option mO), mcV (mcal mT (d + 1) 293 [.ref (t + 11), .int 0] (G, F, L)) f g = f (G, fil F (t + 11) 8 0, L) := fun F L f g => mcV_of (c_fillI d 0 p11 q11 (by decide)) f g
  have f12 : ∀ (F : Nat → Nat → Int32) (L : Nat → Nat → Int64) (f : mH → Option mO) (g : String → mH → Option mO), mcV (mcal mT (d + 1) 293 [.ref (t + 12), .int 0] (G, F, L)) f g = f (G, fil F (t + 12) 8 0, L) := fun F L f g => mcV_of (c_fillI d 0 p12 q12 (by decide)) f g
  have f13 : ∀ (F : Nat → Nat → Int32) (L : Nat → Nat → Int64) (f : mH → Option mO) (g : String → mH → Option mO), mcV (mcal mT (d + 1) 293 [.ref (t + 13), .int 0] (G, F, L)) f g = f (G, fil F (t + 13) 4 0, L) := fun F L f g => mcV_of (c_fillI d 0 p13 q13 (by decide)) f g
  rw [q_X8_begin_, e_X8_begin_0]
  simp only [↓vT hT, ↓vH hH, ↓m1, ↓f2, ↓f3, ↓f4, ↓f5, ↓f6]
  have fr : ∀ a, a < t ∨ t + 14 ≤ a → stA I t h a = I a := by
    intro a ha
    unfold stA
    simp (disch := omega) only [fil_ne, cpr_ne, up2_e, up_ne]
  show f_X8_begin (d + 1) 87 [.ref t, .ref h, .int 0] [] (G, stA I t h, L) = _
  generalize hF : stA I t h = F
  have hn' : F h 10 = Int32.ofNat n := by rw [← hF, fr h (by omega)]; exact hn
  have A := loopy (fun i (q : Nat → Int32) => f_X8_begin (d + 1) 87 [.ref t, .ref h, .int i] [] (G, va_up F (t + 7) q, L)) (fun k => pre k (fun k => if tap F h n k = 0 then 16 else 0) (F (t + 7))) 8 _ pre_0 (by
    intro k hk
    try dsimp only
    have e8 : ¬ (8 : Int32) ≤ Int32.ofNat k := i_ng (a := 8) hk (by decide)
    have ht := c_hasTap d (G := G) (I := va_up F (t + 7) (pre k (fun k => if tap F h n k = 0 then 16 else 0) (F (t + 7)))) (L := L) (h := h) (n := n) (k := k) hH (by rw [up_ne (by omega)]; exact hn') hn8 (by omega)
    have te : tap (va_up F (t + 7) (pre k (fun k => if tap F h n k = 0 then 16 else 0) (F (t + 7)))) h n k = tap F h n k := by
      unfold tap
      rw [up_ne (by omega)]
    rw [te] at ht
    rw [e_X8_begin_87, if_neg e8]
    by_cases c : tap F h n k = 0
    · simp (disch := omega) only [↓vT hT, ↓vH hH, ↓mcI_of ht, if_pos c, e_X8_begin_110, e_X8_begin_112, up2_e, up_eq, up_up, i_one]
      rw [pre_s (by rw [if_pos c])]
    · simp (disch := omega) only [↓vT hT, ↓vH hH, ↓mcI_of ht, if_neg c, e_X8_begin_112, up2_e, up_eq, up_up, i_one]
      rw [pre_s (by rw [if_neg c])])
  try dsimp only at A
  rw [up_id] at A
  rw [A, e_X8_begin_87, if_pos (by decide), e_X8_begin_119]
  simp only [↓vT hT, ↓f8, ↓f9, ↓f10, ↓f11, ↓f12, ↓f13]
  rw [← hF]
  rfl
theorem stA_fr {I : Nat → Nat → Int32} {t h a : Nat} (q : a < t ∨ t + 14 ≤ a) : stA I t h a = I a := by
  unfold stA
  simp (disch := omega) only [fil_ne, cpr_ne, up2_e, up_ne]
theorem stB_fr {I : Nat → Nat → Int32} {t h n a : Nat} (q : a < t ∨ t + 14 ≤ a) : stB I t h n a = I a := by
  unfold stB stO
  simp (disch := omega) only [fil_ne, up_ne, stA_fr]
theorem stB_r {I : Nat → Nat → Int32} {t h n : Nat} (q : h + 14 ≤ t) : stB I t h n (t + 1) = pre 8 (I (h + 2)) (I (t + 1)) ∧ stB I t h n (t + 2) = pre 8 (fun _ => 0) (I (t + 2)) ∧ stB I t h n (t + 3) = pre 8 (fun _ => 0) (I (t + 3)) ∧ stB I t h n (t + 4) = pre 8 (fun _ => 0) (I (t + 4)) ∧ stB I t h n (t + 5) = pre 8 (fun _ => 0) (I (t + 5)) ∧ stB I t h n (t + 6) = pre 8 (fun _ => 0) (I (t + 6)) ∧ stB I t h n (t + 7) = pre 8 (fun k => if tap I h n k = 0 then 16 else 0) (I (t + 7)) ∧ stB I t h n (t + 8) = pre 8 (fun _ => 0) (I (t + 8)) ∧ stB I t h n (t + 10) = pre 8 (fun _ => 0) (I (t + 10)) ∧ stB I t h n (t + 11) = pre 8 (fun _ => 0) (I (t + 11)) ∧ stB I t h n (t + 12) = pre 8 (fun _ => 0) (I (t + 12)) ∧ stB I t h n (t + 13) = pre 4 (fun _ => 0) (I (t + 13)) := by
  have te : ∀ k, tap (stA I t h) h n k = tap I h n k := by
    intro k
    unfold tap
    rw [stA_fr (by omega)]
  unfold stB stO
  refine ⟨?_, ?_, ?_, ?_, ?_, ?_, ?_, ?_, ?_, ?_, ?_, ?_⟩ <;> simp (disch := omega) only [fil_ne, fil_eq, up_ne, up_eq, te] <;> unfold stA <;> simp (disch := omega) only [fil_ne, fil_eq, cpr_ne, cpr_eq, up2_e, up_ne, up_eq]
theorem stB_f {I : Nat → Nat → Int32} {t h n : Nat} : stB I t h n t 0 = 0 ∧ stB I t h n t 1 = 0 ∧ stB I t h n t 2 = 0 ∧ stB I t h n t 3 = 0 ∧ stB I t h n t 4 = 0 ∧ stB I t h n t 5 = 0 := by
  unfold stB stO stA
  refine ⟨?_, ?_, ?_, ?_, ?_, ?_⟩ <;> simp (disch := omega) only [fil_ne, fil_eq, cpr_ne, cpr_eq, up2_e, up_ne, up_eq]
