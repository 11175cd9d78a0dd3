/-! the class's diary -/
theorem cpy_seg {α : Type} {A B : Nat → α} {o n : Nat} : va_cpy A B 0 o n = isg o n A B := by
  funext j
  unfold va_cpy isg
  rw [Nat.zero_add]
theorem marc_s {α : Type} {G : mG} {t n o na nb a b : Nat} {F : Nat → Nat → α} (ka : gK G a = t) (kb : gK G b = t) (ea : gN G a = na) (eb : gN G b = nb) (hn : n ≤ na) (ho : o + n ≤ nb) (hb : na < 2147483648) (hb2 : nb < 2147483648) (f : (Nat → Nat → α) → Option mO) : marc G t F a 0 b (Int32.ofNat o) (Int32.ofNat n) f = f (va_up F b (isg o n (F a) (F b))) := by
  have z : (0 : Int32).toNatClampNeg = 0 := rfl
  unfold marc
  rw [z, i_nat (n := n) (by omega), i_nat (n := o) (by omega), cpy_seg, if_pos ⟨ka, kb, by decide, i_neg (by omega), i_neg (by omega), by omega, by omega⟩]
theorem i_m7 (k : Nat) : Int32.ofNat k * 7 = Int32.ofNat (7 * k) := by
  rw [Nat.mul_comm]
  exact i_mul k 7
theorem i_m56 (k : Nat) : Int32.ofNat k * 56 = Int32.ofNat (56 * k) := by
  rw [Nat.mul_comm]
  exact i_mul k 56
theorem c_dClear (d : Nat) {G : mG} {I : Nat → Nat → Int32} {L : Nat → Nat → Int64} {e : Nat} (hD : LayD G e) : mcal mT (d + 1) 25 [.ref e] (G, I, L) = some (.inl none, (G, va_up I e (va_up (va_up (I e) 0 0) 1 0), L)) := by
  simp only [q_X3_clear_, e_X3_clear_0, ↓vD hD, up2_e, up_eq, up_up]
theorem c_beginHour (d : Nat) {G : mG} {I : Nat → Nat → Int32} {L : Nat → Nat → Int64} {e : Nat} (hD : LayD G e) : mcal mT (d + 2) 28 [.ref e] (G, I, L) = some (.inl none, (G, va_up I (e + 2) (pre 56 (iclr 9999) (I (e + 2))), L)) := by
  obtain ⟨-, -, -, -, -, k2, n2⟩ := uD hD
  simp only [q_X3_beginHour_, e_X3_beginHour_0, ↓vD hD, ↓mcV_of (c_fillI d 0 k2 n2 (by decide))]
  have A := loopy (fun i (q : Nat → Int32) => f_X3_beginHour (d + 1) 10 [.ref e, .int i] [] (G, va_up I (e + 2) q, L)) (fun k => pre (7 * k) (iclr 9999) (pre 56 (fun _ => 0) (I (e + 2)))) 8 _ pre_0 (by
    intro k hk
    try dsimp only
    rw [e_X3_beginHour_10, if_neg (show ¬ (8 : Int32) ≤ Int32.ofNat k from i_ng (a := 8) hk (by decide))]
    simp (disch := omega) only [↓vD hD, i_m7, ixZ, ixR, up2_e, up_eq, up_up, i_one]
    congr 4
    funext j
    by_cases q0 : j = 7 * k + 1
    · rw [q0, up_eq, pre_lt (by omega)]
      unfold iclr
      rw [show (7 * k + 1) % 7 = 1 by omega, if_neg (by decide), if_pos rfl]
    rw [up_ne q0]
    by_cases q1 : j = 7 * k
    · rw [q1, up_eq, pre_lt (by omega)]
      unfold iclr
      rw [show 7 * k % 7 = 0 by omega, if_pos rfl]
    rw [up_ne q1]
    by_cases q2 : j < 7 * k
    · rw [pre_lt q2, pre_lt (by omega)]
    rw [pre_ge q2]
    by_cases q3 : j < 7 * (k + 1)
    · rw [pre_lt q3, pre_lt (by omega)]
      unfold iclr
      rw [if_neg (by omega), if_neg (by omega)]
    · rw [pre_ge q3])
  try dsimp only at A
  rw [A, e_X3_beginHour_10, if_pos (by decide), e_X3_beginHour_50]
  congr 5
  funext j
  by_cases q : j < 7 * 8
  · rw [pre_lt q, pre_lt q]
  · rw [pre_ge q, pre_ge (show ¬ j < 56 from q), pre_ge (show ¬ j < 56 from q)]
theorem i_48 {M : Nat} (h : M < 2147483648) : Int32.ofNat M - Int32.ofNat M / 48 * 48 = Int32.ofNat (M % 48) := i_rem (b := 48) h (by decide)
def cEh (I : Nat → Nat → Int32) (e w : Nat) : Nat → Nat → Int32 := va_up (va_up I e (va_up (va_up (I e) 1 (Int32.ofNat ((w + 1) % 48))) 0 (jmin 48 (I e 0 + 1)))) (e + 1) (isg (56 * ((w + 1) % 48)) 56 (I (e + 2)) (I (e + 1)))
theorem c_endHour (d : Nat) {G : mG} {I : Nat → Nat → Int32} {L : Nat → Nat → Int64} {e w : Nat} (hD : LayD G e) (hw : I e 1 = Int32.ofNat w) (hw48 : w < 48) : mcal mT (d + 1) 29 [.ref e] (G, I, L) = some (.inl none, (G, cEh I e w, L)) := by
  obtain ⟨-, -, k1, n1, -, k2, n2⟩ := uD hD
  have z : ¬ (48 : Nat) = 0 := by decide
  have hm : (w + 1) % 48 < 48 := Nat.mod_lt _ (by decide)
  have mc := fun F f => marc_s (α := Int32) (G := G) (t := 20) (n := 56) (o := 56 * ((w + 1) % 48)) (na := 56) (nb := 2688) (a := e + 2) (b := e + 1) (F := F) k2 k1 n2 n1 (by omega) (by omega) (by decide) (by decide) f
  have mc' : ∀ F f, marc G 20 F (e + 2) 0 (e + 1) (Int32.ofNat (56 * ((w + 1) % 48))) 56 f = f (va_up F (e + 1) (isg (56 * ((w + 1) % 48)) 56 (F (e + 2)) (F (e + 1)))) := mc
  simp (disch := omega) only [q_X3_endHour_, e_X3_endHour_0, ↓vD hD, if_neg z, hw, i_one, i_48, up2_e, up_eq, i_m56, mc', up_ne]
  unfold cEh
  rw [up_mid' (by omega)]
theorem jmin_r (x y : Int32) : jmin x y = if x ≤ y then x else y := by
  unfold jmin
  by_cases c : y < x
  · rw [if_pos c, if_neg (Int32.not_le.mpr c)]
  · rw [if_neg c, if_pos (Int32.not_lt.mp c)]
theorem jmax_r (x y : Int32) : jmax x y = if y ≤ x then x else y := by
  unfold jmax
  by_cases c : x < y
  · rw [if_pos c, if_neg (Int32.not_le.mpr c)]
  · rw [if_neg c, if_pos (Int32.not_lt.mp c)]
/-- the class's page after a minute -/
def cPg (I : Nat → Nat → Int32) (t : Nat) (P : Nat → Int32) : Nat → Int32 := pgv (I (t + 1)) (fun r => (I t 1 >>> (Int32.ofNat r &&& 31)) &&& 1) (I (t + 5)) (I (t + 2)) (I (t + 3)) (I (t + 4)) P
theorem c_not17 (d : Nat) {G : mG} {I : Nat → Nat → Int32} {L : Nat → Nat → Int64} {e h t r : Nat} (hD : LayD G e) (hH : LayH G h) (hT : LayT G t) (h1 : t + 14 ≤ e) (h2 : h + 14 ≤ e) (hr : I h 1 = Int32.ofNat r) (hr8 : r ≤ 8) : f_X3_note d 17 [.ref e, .ref h, .ref t, .int 0, mU, mU] [] (G, I, L) = f_X3_note d 184 [.ref e, mU, .ref t, mU, mU, mU] [] (G, va_up I (e + 2) (pre (7 * r) (cPg I t (I (e + 2))) (I (e + 2))), L) := by
  have A := loopy (fun i (q : Nat → Int32) => f_X3_note d 17 [.ref e, .ref h, .ref t, .int i, mU, mU] [] (G, va_up I (e + 2) q, L)) (fun k => pre (7 * k) (cPg I t (I (e + 2))) (I (e + 2))) r _ pre_0 (by
    intro k hk
    try dsimp only
    generalize hR : pre (7 * k) (cPg I t (I (e + 2))) (I (e + 2)) = R
    have o : ∀ j, 7 * k ≤ j → R j = I (e + 2) j := by
      intro j hj
      rw [← hR, pre_ge (by omega)]
    rw [e_X3_note_17]
    simp (disch := omega) only [↓vD hD, ↓vH hH, ↓vT hT, up_ne, hr, if_neg (i_ng hk (by omega)), i_m7, ixZ, ixR, up2_e, up_eq, up_up, o]
    have p0 : jmin (I (e + 2) (7 * k)) (I (t + 1) k) = cPg I t (I (e + 2)) (7 * k) := by rw [jmin_r]; exact pgv_0.symm
    have p1 : jmax (I (e + 2) (7 * k + 1)) (I (t + 1) k) = cPg I t (I (e + 2)) (7 * k + 1) := by rw [jmax_r]; exact pgv_1.symm
    rw [← hR, pre_7 (F := cPg I t (I (e + 2))) (a := 7 * k) p0 p1 pgv_2.symm pgv_3.symm pgv_4.symm pgv_5.symm pgv_6.symm, Nat.mul_succ])
  try dsimp only at A
  rw [up_id] at A
  rw [A, e_X3_note_17]
  simp (disch := omega) only [↓vH hH, up_ne, hr, if_pos i_rf]
/-- the page that a note begins with -/
def cP0 (I : Nat → Nat → Int32) (e M : Nat) : Nat → Int32 := if M % 60 = 1 then pre 56 (iclr 9999) (I (e + 2)) else I (e + 2)
def cP1 (I : Nat → Nat → Int32) (e t r M : Nat) : Nat → Int32 := pre (7 * r) (cPg I t (cP0 I e M)) (cP0 I e M)
theorem c_note (d : Nat) {G : mG} {I : Nat → Nat → Int32} {L : Nat → Nat → Int64} {e h t r M w : Nat} (hD : LayD G e) (hH : LayH G h) (hT : LayT G t) (h1 : t + 14 ≤ e) (h2 : h + 14 ≤ e) (hr : I h 1 = Int32.ofNat r) (hr8 : r ≤ 8) (hm : I t 0 = Int32.ofNat M) (hM2 : M < 2147483648) (hw : I e 1 = Int32.ofNat w) (hw48 : w < 48) : mcal mT (d + 3) 27 [.ref e, .ref h, .ref t] (G, I, L) = some (.inl none, (G, if M % 60 = 0 then cEh (va_up I (e + 2) (cP1 I e t r M)) e w else va_up I (e + 2) (cP1 I e t r M), L)) := by
  have z : ¬ (60 : Nat) = 0 := by decide
  have key : ∀ J : Nat → Nat → Int32, J = va_up I (e + 2) (cP0 I e M) → f_X3_note (d + 2) 15 [.ref e, .ref h, .ref t, mU, mU, mU] [] (G, J, L) = some (.inl none, (G, if M % 60 = 0 then cEh (va_up I (e + 2) (cP1 I e t r M)) e w else va_up I (e + 2) (cP1 I e t r M), L)) := by
    intro J hJ
    have j1 : J h 1 = Int32.ofNat r := by rw [hJ, up_ne (by omega)]; exact hr
    have j2 : pre (7 * r) (cPg J t (J (e + 2))) (J (e + 2)) = cP1 I e t r M := by
      unfold cP1 cPg
      rw [hJ, up_eq]
      simp (disch := omega) only [up_ne]
    rw [e_X3_note_15, c_not17 (d + 2) hD hH hT h1 h2 j1 hr8, j2, hJ, up_up, e_X3_note_184]
    simp (disch := omega) only [↓vT hT, ↓vD hD, if_neg z, up_ne, hm, i_60 hM2]
    by_cases c : M % 60 = 0
    · have eh := c_endHour (d + 1) (I := va_up I (e + 2) (cP1 I e t r M)) (L := L) (w := w) hD (by rw [up_ne (by omega)]; exact hw) hw48
      rw [if_pos (show Int32.ofNat (M % 60) = 0 by rw [c]; rfl), if_pos c]
      simp only [↓mcV_of eh, e_X3_note_198]
    · have q : ¬ Int32.ofNat (M % 60) = 0 := by
        rw [show (0 : Int32) = Int32.ofNat 0 from rfl, i_eq (by omega) (by decide)]
        exact c
      rw [if_neg q, if_neg c, e_X3_note_198]
  simp (disch := omega) only [q_X3_note_, e_X3_note_0, ↓vT hT, ↓vD hD, if_neg z, hm, i_60 hM2]
  by_cases c : M % 60 = 1
  · have bh := c_beginHour d (I := I) (L := L) hD
    rw [if_pos (show Int32.ofNat (M % 60) = 1 by rw [c]; rfl)]
    simp only [↓mcV_of bh]
    exact key _ (by unfold cP0; rw [if_pos c])
  · have q : ¬ Int32.ofNat (M % 60) = 1 := by
      rw [show (1 : Int32) = Int32.ofNat 1 from rfl, i_eq (by omega) (by decide)]
      exact c
    rw [if_neg q]
    exact key _ (by unfold cP0; rw [if_neg c, up_id])
/-- an entry: room r, b hours back, column c -/
def cEn (I : Nat → Nat → Int32) (e w b r c : Nat) : Int32 := I (e + 1) (56 * ((w + 48 - b) % 48) + 7 * r + c)
theorem c_entry (d : Nat) {G : mG} {I : Nat → Nat → Int32} {L : Nat → Nat → Int64} {e w b r c : Nat} (hD : LayD G e) (hw : I e 1 = Int32.ofNat w) (hw48 : w < 48) (hb : b < 48) (hr : r < 8) (hc : c < 7) : mcal mT (d + 1) 30 [.ref e, .int (Int32.ofNat r), .int (Int32.ofNat b), .int (Int32.ofNat c)] (G, I, L) = some (.inl (some (.int (cEn I e w b r c))), (G, I, L)) := by
  obtain ⟨-, -, k1, n1, -⟩ := uD hD
  have z : ¬ (48 : Nat) = 0 := by decide
  have hm : (w + 48 - b) % 48 < 48 := Nat.mod_lt _ (by decide)
  have e1 : Int32.ofNat w - Int32.ofNat b + 48 = Int32.ofNat (w + 48 - b) := by
    have a1 : Int32.ofNat w + 48 - Int32.ofNat b = Int32.ofNat (w + 48 - b) := by
      have a2 : Int32.ofNat w + 48 = Int32.ofNat (w + 48) := i_add w 48
      rw [a2, i_sub (by omega) (by omega)]
    rw [← a1, Int32.sub_eq_add_neg, Int32.sub_eq_add_neg, Int32.add_assoc, Int32.add_assoc, Int32.add_comm (-Int32.ofNat b)]
  have c2 : ¬ Int32.ofNat 2688 ≤ Int32.ofNat (56 * ((w + 48 - b) % 48) + 7 * r + c) := i_ng (by omega) (by decide)
  have kk : ∀ X, gk G (e + 1) 20 X = X := fun X => gk_t k1
  simp (disch := omega) only [q_X3_entry_, e_X3_entry_0, ↓vD hD, ↓kk, if_neg z, hw, e1, i_48, i_m56, i_m7, i_add, n1, if_neg c2, i_neg, if_false, e_X3_entry_54]
  rfl
def dre (a b c e : Int32) : Int32 := if a < 10 then (if b = 0 then 2 else if c ≤ e then 0 else 1) else 3
theorem c_reason (d : Nat) {G : mG} {I : Nat → Nat → Int32} {L : Nat → Nat → Int64} {e w b r : Nat} (hD : LayD G e) (hw : I e 1 = Int32.ofNat w) (hw48 : w < 48) (hb : b < 48) (hr : r < 8) : mcal mT (d + 2) 31 [.ref e, .int (Int32.ofNat r), .int (Int32.ofNat b)] (G, I, L) = some (.inl (some (.int (dre (cEn I e w b r 2) (cEn I e w b r 3) (cEn I e w b r 4) (cEn I e w b r 5)))), (G, I, L)) := by
  have n2 : mcal mT (d + 1) 30 [.ref e, .int (Int32.ofNat r), .int (Int32.ofNat b), .int 2] (G, I, L) = some (.inl (some (.int (cEn I e w b r 2))), (G, I, L)) := c_entry d hD hw hw48 hb hr (by decide)
  have n3 : mcal mT (d + 1) 30 [.ref e, .int (Int32.ofNat r), .int (Int32.ofNat b), .int 3] (G, I, L) = some (.inl (some (.int (cEn I e w b r 3))), (G, I, L)) := c_entry d hD hw hw48 hb hr (by decide)
  have n4 : mcal mT (d + 1) 30 [.ref e, .int (Int32.ofNat r), .int (Int32.ofNat b), .int 4] (G, I, L) = some (.inl (some (.int (cEn I e w b r 4))), (G, I, L)) := c_entry d hD hw hw48 hb hr (by decide)
  have n5 : mcal mT (d + 1) 30 [.ref e, .int (Int32.ofNat r), .int (Int32.ofNat b), .int 5] (G, I, L) = some (.inl (some (.int (cEn I e w b r 5))), (G, I, L)) := c_entry d hD hw hw48 hb hr (by decide)
  simp only [q_X3_reason_, e_X3_reason_0, ↓vD hD, ↓mcI_of n2, e_X3_reason_14, ↓mcI_of n3, e_X3_reason_26, ↓mcI_of n4, ↓mcI_of n5, e_X3_reason_47, e_X3_reason_48]
  unfold dre
  repeat' split
  all_goals rfl
