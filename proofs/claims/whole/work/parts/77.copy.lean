/-! copies, and beginnings -/
def cpr {α : Type} (F : Nat → Nat → α) (a b n : Nat) : Nat → Nat → α := va_up F b (pre n (F a) (F b))
def cpf (F : Nat → Nat → Int32) (s o k : Nat) : Nat → Nat → Int32 := up2 F s k (F o k)
def fil {α : Type} (F : Nat → Nat → α) (a n : Nat) (v : α) : Nat → Nat → α := va_up F a (pre n (fun _ => v) (F a))
theorem cpr_eq {α : Type} {F : Nat → Nat → α} {a b n : Nat} : cpr F a b n b = pre n (F a) (F b) := up_eq
theorem cpr_ne {α : Type} {F : Nat → Nat → α} {a b n c : Nat} (h : c ≠ b) : cpr F a b n c = F c := up_ne h
theorem fil_eq {α : Type} {F : Nat → Nat → α} {a n : Nat} {v : α} : fil F a n v a = pre n (fun _ => v) (F a) := up_eq
theorem fil_ne {α : Type} {F : Nat → Nat → α} {a n c : Nat} {v : α} (h : c ≠ a) : fil F a n v c = F c := up_ne h
theorem cpf_e {F : Nat → Nat → Int32} {s o k : Nat} : up2 F s k (F o k) = cpf F s o k := rfl
theorem cpf_ne {F : Nat → Nat → Int32} {s o k c : Nat} (h : c ≠ s) : cpf F s o k c = F c := up_ne h
theorem cpf_k {F : Nat → Nat → Int32} {s o k : Nat} : cpf F s o k s k = F o k := by
  unfold cpf up2
  rw [up_eq, up_eq]
theorem cpf_n {F : Nat → Nat → Int32} {s o k j : Nat} (h : j ≠ k) : cpf F s o k s j = F s j := by
  unfold cpf up2
  rw [up_eq, up_ne h]
theorem marc_c {α : Type} {G : mG} {t n a b : Nat} {F : Nat → Nat → α} (ka : gK G a = t) (kb : gK G b = t) (na : gN G a = n) (nb : gN G b = n) (hn : n < 2147483648) (f : (Nat → Nat → α) → Option mO) : marc G t F a 0 b 0 (Int32.ofNat n) f = f (cpr F a b n) := marc_t ka kb na nb hn f
def cpS (I : Nat → Nat → Int32) (s o : Nat) : Nat → Nat → Int32 := cpf (cpr (cpr (cpr (cpf (cpf (cpf (cpf (cpr (cpr (cpr I (o + 1) (s + 1) 8) (o + 2) (s + 2) 24) (o + 3) (s + 3) 24) s o 3) s o 4) s o 5) s o 6) (o + 4) (s + 4) 4) (o + 5) (s + 5) 4) (o + 6) (s + 6) 4) s o 10
theorem c_setCopy (d : Nat) {G : mG} {I : Nat → Nat → Int32} {L : Nat → Nat → Int64} {s o : Nat} (hS : LayS G s) (hO : LayS G o) : mcal mT (d + 1) 76 [.ref s, .ref o] (G, I, L) = some (.inl none, (G, cpS I s o, L)) := by
  obtain ⟨-, -, p1, q1, -, p2, q2, -, p3, q3, -, p4, q4, -, p5, q5, -, p6, q6⟩ := uS hS
  obtain ⟨-, -, r1, t1, -, r2, t2, -, r3, t3, -, r4, t4, -, r5, t5, -, r6, t6⟩ := uS hO
  have m1 : ∀ (F : Nat → Nat → Int32) (f : (Nat → Nat → Int32) → Option mO), marc G 20 F (o + 1) 0 (s + 1) 0 8 f = f (cpr F (o + 1) (s + 1) 8) := fun F f => marc_c r1 p1 t1 q1 (by decide) f
  have m2 : ∀ (F : Nat → Nat → Int32) (f : (Nat → Nat → Int32) → Option mO), marc G 20 F (o + 2) 0 (s + 2) 0 24 f = f (cpr F (o + 2) (s + 2) 24) := fun F f => marc_c r2 p2 t2 q2 (by decide) f
  have m3 : ∀ (F : Nat → Nat → Int32) (f : (Nat → Nat → Int32) → Option mO), marc G 20 F (o + 3) 0 (s + 3) 0 24 f = f (cpr F (o + 3) (s + 3) 24) := fun F f => marc_c r3 p3 t3 q3 (by decide) f
  have m4 : ∀ (F : Nat → Nat → Int32) (f : (Nat → Nat → Int32) → Option mO), marc G 20 F (o + 4) 0 (s + 4) 0 4 f = f (cpr F (o + 4) (s + 4) 4) := fun F f => marc_c r4 p4 t4 q4 (by decide) f
  have m5 : ∀ (F : Nat → Nat → Int32) (f : (Nat → Nat → Int32) → Option mO), marc G 20 F (o + 5) 0 (s + 5) 0 4 f = f (cpr F (o + 5) (s + 5) 4) := fun F f => marc_c r5 p5 t5 q5 (by decide) f
  have m6 : ∀ (F : Nat → Nat → Int32) (f : (Nat → Nat → Int32) → Option mO), marc G 20 F (o + 6) 0 (s + 6) 0 4 f = f (cpr F (o + 6) (s + 6) 4) := fun F f => marc_c r6 p6 t6 q6 (by decide) f
  rw [q_X7_copyFrom_, e_X7_copyFrom_0]
  simp only [↓vS hS, ↓vS hO, ↓m1, ↓m2, ↓m3, ↓m4, ↓m5, ↓m6, cpf_e]
  rfl
theorem cpS_fr {I : Nat → Nat → Int32} {s o a : Nat} (h : a < s ∨ s + 7 ≤ a) : cpS I s o a = I a := by
  unfold cpS
  simp (disch := omega) only [cpf_ne, cpr_ne]
theorem cpS_r {I : Nat → Nat → Int32} {s o : Nat} (h : s + 7 ≤ o ∨ o + 7 ≤ s) : cpS I s o (s + 1) = pre 8 (I (o + 1)) (I (s + 1)) ∧ cpS I s o (s + 2) = pre 24 (I (o + 2)) (I (s + 2)) ∧ cpS I s o (s + 3) = pre 24 (I (o + 3)) (I (s + 3)) ∧ cpS I s o (s + 4) = pre 4 (I (o + 4)) (I (s + 4)) ∧ cpS I s o (s + 5) = pre 4 (I (o + 5)) (I (s + 5)) ∧ cpS I s o (s + 6) = pre 4 (I (o + 6)) (I (s + 6)) := by
  unfold cpS
  refine ⟨?_, ?_, ?_, ?_, ?_, ?_⟩ <;> simp (disch := omega) only [cpf_ne, cpr_ne, cpr_eq]
theorem cpS_f {I : Nat → Nat → Int32} {s o : Nat} (h : s + 7 ≤ o ∨ o + 7 ≤ s) : cpS I s o s 3 = I o 3 ∧ cpS I s o s 4 = I o 4 ∧ cpS I s o s 5 = I o 5 ∧ cpS I s o s 6 = I o 6 ∧ cpS I s o s 10 = I o 10 := by
  unfold cpS
  refine ⟨?_, ?_, ?_, ?_, ?_⟩ <;> simp (disch := omega) only [cpf_ne, cpr_ne, cpr_eq, cpf_k, cpf_n]
def cpT (I : Nat → Nat → Int32) (t o : Nat) : Nat → Nat → Int32 := cpr (cpr (cpr (cpr (cpr (cpr (cpr (cpr (cpr (cpr (cpr (cpr (cpf (cpf (cpf (cpf (cpf (cpf I t o 0) t o 1) t o 2) t o 3) t o 4) t o 5) (o + 1) (t + 1) 8) (o + 2) (t + 2) 8) (o + 3) (t + 3) 8) (o + 4) (t + 4) 8) (o + 5) (t + 5) 8) (o + 6) (t + 6) 8) (o + 7) (t + 7) 8) (o + 8) (t + 8) 8) (o + 10) (t + 10) 8) (o + 11) (t + 11) 8) (o + 12) (t + 12) 8) (o + 13) (t + 13) 4
theorem c_stCopy (d : Nat) {G : mG} {I : Nat → Nat → Int32} {L : Nat → Nat → Int64} {t o : Nat} (hT : LayT G t) (hO : LayT G o) : mcal mT (d + 1) 81 [.ref t, .ref o] (G, I, L) = some (.inl none, (G, cpT I t o, cpr L (o + 9) (t + 9) 8)) := by
  obtain ⟨-, -, p1, q1, -, p2, q2, -, p3, q3, -, p4, q4, -, p5, q5, -, p6, q6, -, p7, q7, -, p8, q8, -, p9, q9, -, p10, q10, -, p11, q11, -, p12, q12, -, p13, q13⟩ := uT hT
  obtain ⟨-, -, r1, t1, -, r2, t2, -, r3, t3, -, r4, t4, -, r5, t5, -, r6, t6, -, r7, t7, -, r8, t8, -, r9, t9, -, r10, t10, -, r11, t11, -, r12, t12, -, r13, t13⟩ := uT hO
  have m1 : ∀ (F : Nat → Nat → Int32) (f : (Nat → Nat → Int32) → Option mO), marc G 20 F (o + 1) 0 (t + 1) 0 8 f = f (cpr F (o + 1) (t + 1) 8) := fun F f => marc_c r1 p1 t1 q1 (by decide) f
  have m2 : ∀ (F : Nat → Nat → Int32) (f : (Nat → Nat → Int32) → Option mO), marc G 20 F (o + 2) 0 (t + 2) 0 8 f = f (cpr F (o + 2) (t + 2) 8) := fun F f => marc_c r2 p2 t2 q2 (by decide) f
  have m3 : ∀ (F : Nat → Nat → Int32) (f : (Nat → Nat → Int32) → Option mO), marc G 20 F (o + 3) 0 (t + 3) 0 8 f = f (cpr F (o + 3) (t + 3) 8) := fun F f => marc_c r3 p3 t3 q3 (by decide) f
  have m4 : ∀ (F : Nat → Nat → Int32) (f : (Nat → Nat → Int32) → Option mO), marc G 20 F (o + 4) 0 (t + 4) 0 8 f = f (cpr F (o + 4) (t + 4) 8) := fun F f => marc_c r4 p4 t4 q4 (by decide) f
  have m5 : ∀ (F : Nat → Nat → Int32) (f : (Nat → Nat → Int32) → Option mO), marc G 20 F (o + 5) 0 (t + 5) 0 8 f = f (cpr F (o + 5) (t + 5) 8) := fun F f => marc_c r5 p5 t5 q5 (by decide) f
  have m6 : ∀ (F : Nat → Nat → Int32) (f : (Nat → Nat → Int32) → Option mO), marc G 20 F (o + 6) 0 (t + 6) 0 8 f = f (cpr F (o + 6) (t + 6) 8) := fun F f => marc_c r6 p6 t6 q6 (by decide) f
  have m7 : ∀ (F : Nat → Nat → Int32) (f : (Nat → Nat → Int32) → Option mO), marc G 20 F (o + 7) 0 (t + 7) 0 8 f = f (cpr F (o + 7) (t + 7) 8) := fun F f => marc_c r7 p7 t7 q7 (by decide) f
  have m8 : ∀ (F : Nat → Nat → Int32) (f : (Nat → Nat → Int32) → Option mO), marc G 20 F (o + 8) 0 (t + 8) 0 8 f = f (cpr F (o + 8) (t + 8) 8) := fun F f => marc_c r8 p8 t8 q8 (by decide) f
  have m9 : ∀ (F : Nat → Nat → Int64) (f : (Nat → Nat → Int64) → Option mO), marc G 21 F (o + 9) 0 (t + 9) 0 8 f = f (cpr F (o + 9) (t + 9) 8) := fun F f => marc_c (α := Int64) r9 p9 t9 q9 (by decide) f
  have m10 : ∀ (F : Nat → Nat → Int32) (f : (Nat → Nat → Int32) → Option mO), marc G 20 F (o + 10) 0 (t + 10) 0 8 f = f (cpr F (o + 10) (t + 10) 8) := fun F f => marc_c r10 p10 t10 q10 (by decide) f
  have m11 : ∀ (F : Nat → Nat → Int32) (f : (Nat → Nat → Int32) → Option mO), marc G 20 F (o + 11) 0 (t + 11) 0 8 f = f (cpr F (o + 11) (t + 11) 8) := fun F f => marc_c r11 p11 t11 q11 (by decide) f
  have m12 : ∀ (F : Nat → Nat → Int32) (f : (Nat → Nat → Int32) → Option mO), marc G 20 F (o + 12) 0 (t + 12) 0 8 f = f (cpr F (o + 12) (t + 12) 8) := fun F f => marc_c r12 p12 t12 q12 (by decide) f
  have m13 : ∀ (F : Nat → Nat → Int32) (f : (Nat → Nat → Int32) → Option mO), marc G 20 F (o + 13) 0 (t + 13) 0 4 f = f (cpr F (o + 13) (t + 13) 4) := fun F f => marc_c r13 p13 t13 q13 (by decide) f
  rw [q_X8_copyFrom_, e_X8_copyFrom_0]
  simp only [↓vT hT, ↓vT hO, ↓m1, ↓m2, ↓m3, ↓m4, ↓m5, ↓m6, ↓m7, ↓m8, ↓m9, ↓m10, ↓m11, ↓m12, ↓m13, cpf_e]
  rfl
theorem cpT_fr {I : Nat → Nat → Int32} {t o a : Nat} (h : a < t ∨ t + 14 ≤ a) : cpT I t o a = I a := by
  unfold cpT
  simp (disch := omega) only [cpf_ne, cpr_ne]
theorem cpT_r {I : Nat → Nat → Int32} {t o : Nat} (h : t + 14 ≤ o ∨ o + 14 ≤ t) : cpT I t o (t + 1) = pre 8 (I (o + 1)) (I (t + 1)) ∧ cpT I t o (t + 2) = pre 8 (I (o + 2)) (I (t + 2)) ∧ cpT I t o (t + 3) = pre 8 (I (o + 3)) (I (t + 3)) ∧ cpT I t o (t + 4) = pre 8 (I (o + 4)) (I (t + 4)) ∧ cpT I t o (t + 5) = pre 8 (I (o + 5)) (I (t + 5)) ∧ cpT I t o (t + 6) = pre 8 (I (o + 6)) (I (t + 6)) ∧ cpT I t o (t + 7) = pre 8 (I (o + 7)) (I (t + 7)) ∧ cpT I t o (t + 8) = pre 8 (I (o + 8)) (I (t + 8)) ∧ cpT I t o (t + 10) = pre 8 (I (o + 10)) (I (t + 10)) ∧ cpT I t o (t + 11) = pre 8 (I (o + 11)) (I (t + 11)) ∧ cpT I t o (t + 12) = pre 8 (I (o + 12)) (I (t + 12)) ∧ cpT I t o (t + 13) = pre 4 (I (o + 13)) (I (t + 13)) := by
  unfold cpT
  refine ⟨?_, ?_, ?_, ?_, ?_, ?_, ?_, ?_, ?_, ?_, ?_, ?_⟩ <;> simp (disch := omega) only [cpf_ne, cpr_ne, cpr_eq]
theorem cpT_f {I : Nat → Nat → Int32} {t o : Nat} (h : t + 14 ≤ o ∨ o + 14 ≤ t) : cpT I t o t 0 = I o 0 ∧ cpT I t o t 1 = I o 1 ∧ cpT I t o t 2 = I o 2 ∧ cpT I t o t 3 = I o 3 ∧ cpT I t o t 4 = I o 4 ∧ cpT I t o t 5 = I o 5 := by
  unfold cpT
  refine ⟨?_, ?_, ?_, ?_, ?_, ?_⟩ <;> simp (disch := omega) only [cpf_ne, cpr_ne, cpr_eq, cpf_k, cpf_n]
def cpD (I : Nat → Nat → Int32) (e o : Nat) : Nat → Nat → Int32 := cpr (cpr (cpf (cpf I e o 0) e o 1) (o + 1) (e + 1) 2688) (o + 2) (e + 2) 56
theorem c_dCopy (d : Nat) {G : mG} {I : Nat → Nat → Int32} {L : Nat → Nat → Int64} {e o : Nat} (hD : LayD G e) (hO : LayD G o) : mcal mT (d + 1) 26 [.ref e, .ref o] (G, I, L) = some (.inl none, (G, cpD I e o, L)) := by
  obtain ⟨-, -, p1, q1, -, p2, q2⟩ := uD hD
  obtain ⟨-, -, r1, t1, -, r2, t2⟩ := uD hO
  have m1 : ∀ (F : Nat → Nat → Int32) (f : (Nat → Nat → Int32) → Option mO), marc G 20 F (o + 1) 0 (e + 1) 0 2688 f = f (cpr F (o + 1) (e + 1) 2688) := fun F f => marc_c r1 p1 t1 q1 (by decide) f
  have m2 : ∀ (F : Nat → Nat → Int32) (f : (Nat → Nat → Int32) → Option mO), marc G 20 F (o + 2) 0 (e + 2) 0 56 f = f (cpr F (o + 2) (e + 2) 56) := fun F f => marc_c r2 p2 t2 q2 (by decide) f
  rw [q_X3_copyFrom_, e_X3_copyFrom_0]
  simp only [↓vD hD, ↓vD hO, ↓m1, ↓m2, cpf_e]
  rfl
theorem cpD_fr {I : Nat → Nat → Int32} {e o a : Nat} (h : a < e ∨ e + 3 ≤ a) : cpD I e o a = I a := by
  unfold cpD
  simp (disch := omega) only [cpf_ne, cpr_ne]
theorem cpD_r {I : Nat → Nat → Int32} {e o : Nat} (h : e + 3 ≤ o ∨ o + 3 ≤ e) : cpD I e o (e + 1) = pre 2688 (I (o + 1)) (I (e + 1)) ∧ cpD I e o (e + 2) = pre 56 (I (o + 2)) (I (e + 2)) ∧ cpD I e o e 0 = I o 0 ∧ cpD I e o e 1 = I o 1 := by
  unfold cpD
  refine ⟨?_, ?_, ?_, ?_⟩ <;> simp (disch := omega) only [cpf_ne, cpr_ne, cpr_eq, cpf_k, cpf_n]
def tpB (I : Nat → Nat → Int32) (u h : Nat) : Nat → Nat → Int32 := cpr (cpr (up2 I u 0 0) (h + 9) (u + 1) 8) (h + 13) (u + 2) 8
theorem c_tapBegin (d : Nat) {G : mG} {I : Nat → Nat → Int32} {L : Nat → Nat → Int64} {u h : Nat} (hU : LayU G u) (hH : LayH G h) : mcal mT (d + 1) 83 [.ref u, .ref h] (G, I, L) = some (.inl none, (G, tpB I u h, L)) := by
  obtain ⟨-, -, p1, q1, -, p2, q2⟩ := uU hU
  obtain ⟨-, -, -, -, -, -, -, -, -, -, -, -, -, -, -, -, -, -, -, -, -, -, -, -, -, -, r1, t1, -, -, -, -, -, -, -, -, -, -, r2, t2⟩ := uH hH
  have m1 : ∀ (F : Nat → Nat → Int32) (f : (Nat → Nat → Int32) → Option mO), marc G 20 F (h + 9) 0 (u + 1) 0 8 f = f (cpr F (h + 9) (u + 1) 8) := fun F f => marc_c r1 p1 t1 q1 (by decide) f
  have m2 : ∀ (F : Nat → Nat → Int32) (f : (Nat → Nat → Int32) → Option mO), marc G 20 F (h + 13) 0 (u + 2) 0 8 f = f (cpr F (h + 13) (u + 2) 8) := fun F f => marc_c r2 p2 t2 q2 (by decide) f
  rw [q_X9_begin_, e_X9_begin_0]
  simp only [↓vU hU, ↓vH hH, ↓m1, ↓m2]
  rfl
theorem tpB_fr {I : Nat → Nat → Int32} {u h a : Nat} (q : a < u ∨ u + 3 ≤ a) : tpB I u h a = I a := by
  unfold tpB
  simp (disch := omega) only [cpr_ne, up2_e, up_ne]
theorem tpB_r {I : Nat → Nat → Int32} {u h : Nat} (q : h + 14 ≤ u) : tpB I u h (u + 1) = pre 8 (I (h + 9)) (I (u + 1)) ∧ tpB I u h (u + 2) = pre 8 (I (h + 13)) (I (u + 2)) ∧ tpB I u h u 0 = 0 := by
  unfold tpB
  refine ⟨?_, ?_, ?_⟩ <;> simp (disch := omega) only [cpr_ne, cpr_eq, up2_e, up_ne, up_eq]
