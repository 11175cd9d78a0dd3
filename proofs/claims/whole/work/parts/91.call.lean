/-! what a call may leave otherwise and nobody sees -/
def Scr (a : Nat) : Prop := (171 ≤ a ∧ a < 195) ∨ a = 216 ∨ a = 219 ∨ a = 223 ∨ a = 224 ∨ a = 227 ∨ a = 234 ∨ a = 239 ∨ a = 245 ∨ a = 199 ∨ a = 203 ∨ a = 200 ∨ a = 204 ∨ a = 208 ∨ a = 212 ∨ a = 202 ∨ a = 206 ∨ a = 210 ∨ a = 214
def Qui (I I' : Nat → Nat → Int32) (L L' : Nat → Nat → Int64) : Prop := (∀ a, ¬ Scr a → I' a = I a) ∧ (∀ k, k ≠ 0 → k ≠ 17 → k ≠ 19 → k ≠ 32 → k ≠ 33 → k ≠ 34 → I' 219 k = I 219 k) ∧ (∀ j, j < 173 → I' 223 j = I 223 j) ∧ (I' 200 1 = I 200 1 ∧ I' 204 1 = I 204 1 ∧ I' 208 1 = I 208 1 ∧ I' 212 1 = I 212 1) ∧ (∀ a, a ≠ 251 → a ≠ 187 → a ≠ 225 → a ≠ 226 → L' a = L a) ∧ (∀ j, j < 16 → L' 225 j = L 225 j)
theorem Rel_q {z z' h hs bl bs cl cs nr n nh M hN w lc mc kc ta : Nat} {rm pi mk : Nat → Nat} {G G' : mG} {I I' : Nat → Nat → Int32} {L L' : Nat → Nat → Int64} (q : Rel z h hs bl bs cl cs nr n nh M hN w lc mc kc ta rm pi mk G I L) (hG : LyR G' h hs bl bs cl cs kc mk) (hz : z ≤ z') (hz2 : z' ≤ 512) (hq : Qui I I' L L') : Rel z' h hs bl bs cl cs nr n nh M hN w lc mc kc ta rm pi mk G' I' L' := by
  obtain ⟨a1, a2, ⟨a3, a3'⟩, a4, ⟨a5, a5'⟩, a6, a7, a8, a9, a10, a11, a12, ⟨a13, a13'⟩, a14⟩ := q
  obtain ⟨q1, q2, q3, ⟨q4, q5, q6, q7⟩, q8, q9⟩ := hq
  obtain ⟨-, -, hnr8, -, -, hn8⟩ := ho_sz a2
  have hm := a1.2.2.2.2.2.2.2.2.2.2.2.2.2.2.2.2.2.2.2.1
  have hh := a1.2.2.2.2.2.2.2.2.2.2.2.2.2.2.1
  have hb := a1.2.2.2.2.2.2.2.2.2.2.2.2.2.2.2.1
  have hc := a1.2.2.2.2.2.2.2.2.2.2.2.2.2.2.2.2.1
  have e : ∀ a, ¬ Scr a → I' a = I a := q1
  unfold Scr at q1
  have e220 : I' 220 = I 220 := q1 220 (by omega)
  refine ⟨hG, HoR_c a2 (fun a h1 h2 => q1 a (by omega)) e220, ⟨FlR_c a3 (fun k h1 h2 h3 h4 => q2 k (by omega) h3 h4 (by omega) (by omega) (by omega)), by rw [q2 23 (by decide) (by decide) (by decide) (by decide) (by decide) (by decide)]; exact a3'⟩, SeR_c a4 hn8 (fun a h1 h2 => q1 a (by omega)) (fun j hj => q3 j (by omega)), ⟨StR_c a5 hn8 hnr8 (fun a h1 h2 => q1 a (by omega)) (q8 _ (by decide) (by decide) (by decide) (by decide)) e220 (fun j hj => q3 j (by omega)) q9, ?_⟩, TaR_c a6 (fun a h1 h2 => q1 a (by omega)) e220, DiR_c a7 hnr8 (fun a h1 h2 => q1 a (by omega)) (fun j _ => by rw [q1 228 (by omega)]) (fun j _ => by rw [q1 229 (by omega)]), TpR_c a8 (by rw [q1 101 (by omega)]) (by rw [q1 101 (by omega)]) (q1 102 (by omega)) (q2 3 (by decide) (by decide) (by decide) (by decide) (by decide) (by decide)) (q2 9 (by decide) (by decide) (by decide) (by decide) (by decide) (by decide)) (q1 222 (by omega)), EgR_c a9 (q1 215 (by omega)) (q1 217 (by omega)) (q1 230 (by omega)) (q1 240 (by omega)), LgR_c a10 (by rw [q1 100 (by omega)]) (q2 28 (by decide) (by decide) (by decide) (by decide) (by decide) (by decide)) (q1 218 (by omega)) (q1 231 (by omega)) (q1 232 (by omega)) (q1 233 (by omega)), BiR_c a11 ?_ (q2 36 (by decide) (by decide) (by decide) (by decide) (by decide) (by decide)) ?_ (q1 235 (by omega)) (q1 236 (by omega)), ClR_c a12 ?_ (q2 44 (by decide) (by decide) (by decide) (by decide) (by decide) (by decide)) ?_ (q1 241 (by omega)) (q1 242 (by omega)), ⟨MkR_c a13 hn8 hnr8 hz (by rw [q1 100 (by omega)]) (q2 51 (by decide) (by decide) (by decide) (by decide) (by decide) (by decide)) (q1 246 (by omega)) (q1 247 (by omega)) (q1 248 (by omega)) (q1 249 (by omega)) (q8 250 (by decide) (by decide) (by decide) (by decide)) e220 (fun i a hi h1 h2 => ?_), a13'⟩, hz2⟩
  · have := Nat.mul_le_mul_left 999 hz
    omega
  · rcases hb with ⟨b, -⟩ | ⟨b, -⟩
    · rw [b]; exact q4
    · rw [b]; exact q5
  · rcases hb with ⟨b, -⟩ | ⟨b, -⟩
    · rw [b]; exact q1 _ (by omega)
    · rw [b]; exact q1 _ (by omega)
  · rcases hc with ⟨b, -⟩ | ⟨b, -⟩
    · rw [b]; exact q6
    · rw [b]; exact q7
  · rcases hc with ⟨b, -⟩ | ⟨b, -⟩
    · rw [b]; exact q1 _ (by omega)
    · rw [b]; exact q1 _ (by omega)
  · obtain ⟨-, -, m3, m4⟩ := hm i (by omega)
    exact ⟨q1 a (by omega), q8 a (by omega) (by omega) (by omega) (by omega)⟩
/-- only the code of a throw, and the law's cell -/
theorem Qui_t {I : Nat → Nat → Int32} {L L' : Nat → Nat → Int64} (x : Int32) (hL : ∀ a, a ≠ 251 → L' a = L a) : Qui I (va_up I 219 (va_up (I 219) 0 x)) L L' := by
  refine ⟨fun a ha => up_ne ?_, fun k hk _ _ _ _ _ => ?_, fun j _ => ?_, ⟨?_, ?_, ?_, ?_⟩, fun a h1 _ _ _ => hL a h1, fun j _ => by rw [hL _ (by decide)]⟩
  · intro q
    exact ha (by rw [q]; unfold Scr; omega)
  · rw [up_eq, up_ne hk]
  all_goals rw [up_ne (by decide)]
/-! arguments tested, in the reference -/
theorem r_within (d : Nat) (x a b : Int32) (h : mH) : mcal mT (d + 1) 176 [.int x, .int a, .int b] h = some (.inl (some (.int (if x < a then 0 else if b < x then 0 else 1))), h) := by
  obtain ⟨G, I, L⟩ := h
  simp only [q_X12_within_, e_X12_within_0, e_X12_within_14, e_X12_within_15]
  by_cases c1 : x < a
  · simp only [if_pos c1, mb0]
  by_cases c2 : b < x
  · simp only [if_neg c1, if_pos c2, mb0]
  · simp only [if_neg c1, if_neg c2, mb1]
theorem r_may1 (d : Nat) {G : mG} {I : Nat → Nat → Int32} {L : Nat → Nat → Int64} {m : Nat} (c : Int32) (hM : LayM G m) (h0 : I m 0 = 0) : mcal mT (d + 1) 175 [.ref m, .int 1, .int c] (G, I, L) = some (.inl (some (.int 1)), (G, I, L)) := by
  have z : ¬ (1 : Int32) = 0 := by decide
  simp only [q_X12_may_, e_X12_may_0, if_neg z, e_X12_may_16, ↓vM hM, h0, if_true, e_X12_may_28, mb1]
theorem r_may0 (d : Nat) {G : mG} {I : Nat → Nat → Int32} {L : Nat → Nat → Int64} {m : Nat} (c : Int32) (hM : LayM G m) (h0 : I m 0 = 0) (hc : ¬ c = 0) : mcal mT (d + 1) 175 [.ref m, .int 0, .int c] (G, I, L) = some (.inl (some (.int 0)), (G, va_up I m (va_up (I m) 0 c), L)) := by
  simp only [q_X12_may_, e_X12_may_0, if_true, ↓vM hM, h0, e_X12_may_16, up2_e, up_eq, if_neg hc, e_X12_may_27, e_X12_may_28, mb0]
theorem i_sub1 {n : Nat} {x : Int32} (hn : n < 2147483648) (h0 : ¬ x < 0) : (Int32.ofNat n - 1 < x) ↔ ¬ x < Int32.ofNat n := by
  have e : (Int32.ofNat n - 1).toInt = (n : Int) - 1 := by rw [t_sub (by rw [i_of hn, k1]; omega) (by rw [i_of hn, k1]; omega), i_of hn, k1]
  rw [Int32.lt_iff_toInt_lt, Int32.lt_iff_toInt_lt, e, i_of hn]
  omega
theorem r_isRoom (d : Nat) {G : mG} {I : Nat → Nat → Int32} {L : Nat → Nat → Int64} {m nr : Nat} (x c : Int32) (hM : LayM G m) (h0 : I m 0 = 0) (hc : ¬ c = 0) (hnr : I (m + 1) 163 = Int32.ofNat nr) (hnr8 : nr ≤ 8) : mcal mT (d + 2) 231 [.ref m, .int x, .int c] (G, I, L) = if x < 0 ∨ ¬ x < Int32.ofNat nr then some (.inl (some (.int 0)), (G, va_up I m (va_up (I m) 0 c), L)) else some (.inl (some (.int 1)), (G, I, L)) := by
  simp only [q_X12_isRoom_, e_X12_isRoom_0, ↓vM hM, ↓mcI_of (r_rooms d hM), hnr, r_within, mcI_v]
  by_cases c1 : x < 0
  · simp only [if_pos c1, ↓mcI_of (r_may0 d c hM h0 hc), mb0]
    rw [if_pos (Or.inl c1)]
  · by_cases c2 : x < Int32.ofNat nr
    · have c3 : ¬ Int32.ofNat nr - 1 < x := fun q => (i_sub1 (by omega) c1).mp q c2
      have c4 : ¬ (x < 0 ∨ ¬ x < Int32.ofNat nr) := by rintro (q | q); exact c1 q; exact q c2
      simp only [if_neg c1, if_neg c3, ↓mcI_of (r_may1 d c hM h0), if_neg c4, mb1]
    · have c3 : Int32.ofNat nr - 1 < x := (i_sub1 (by omega) c1).mpr c2
      have c4 : x < 0 ∨ ¬ x < Int32.ofNat nr := Or.inr c2
      simp only [if_neg c1, if_pos c3, ↓mcI_of (r_may0 d c hM h0 hc), if_pos c4, mb0]
theorem r_isRadiator (d : Nat) {G : mG} {I : Nat → Nat → Int32} {L : Nat → Nat → Int64} {m n : Nat} (x : Int32) (hM : LayM G m) (h0 : I m 0 = 0) (hn : I (m + 1) 164 = Int32.ofNat n) (hn8 : n ≤ 8) : mcal mT (d + 2) 232 [.ref m, .int x] (G, I, L) = if x < 0 ∨ ¬ x < Int32.ofNat n then some (.inl (some (.int 0)), (G, va_up I m (va_up (I m) 0 1), L)) else some (.inl (some (.int 1)), (G, I, L)) := by
  have hc : ¬ (1 : Int32) = 0 := by decide
  simp only [q_X12_isRadiator_, e_X12_isRadiator_0, ↓vM hM, ↓mcI_of (r_radiators d hM), hn, r_within, mcI_v]
  by_cases c1 : x < 0
  · simp only [if_pos c1, ↓mcI_of (r_may0 d 1 hM h0 hc), mb0]
    rw [if_pos (Or.inl c1)]
  · by_cases c2 : x < Int32.ofNat n
    · have c3 : ¬ Int32.ofNat n - 1 < x := fun q => (i_sub1 (by omega) c1).mp q c2
      have c4 : ¬ (x < 0 ∨ ¬ x < Int32.ofNat n) := by rintro (q | q); exact c1 q; exact q c2
      simp only [if_neg c1, if_neg c3, ↓mcI_of (r_may1 d 1 hM h0), if_neg c4, mb1]
    · have c3 : Int32.ofNat n - 1 < x := (i_sub1 (by omega) c1).mpr c2
      have c4 : x < 0 ∨ ¬ x < Int32.ofNat n := Or.inr c2
      simp only [if_neg c1, if_pos c3, ↓mcI_of (r_may0 d 1 hM h0 hc), if_pos c4, mb0]
theorem r_isHouse (d : Nat) {G : mG} {I : Nat → Nat → Int32} {L : Nat → Nat → Int64} {m nr : Nat} (c : Int32) (hM : LayM G m) (h0 : I m 0 = 0) (hc : ¬ c = 0) (hnr : I (m + 1) 163 = Int32.ofNat nr) (hnr8 : nr ≤ 8) : mcal mT (d + 2) 228 [.ref m, .int c] (G, I, L) = if nr = 0 then some (.inl (some (.int 0)), (G, va_up I m (va_up (I m) 0 c), L)) else some (.inl (some (.int 1)), (G, I, L)) := by
  simp only [q_X12_isHouse_, e_X12_isHouse_0, ↓vM hM, ↓mcI_of (r_rooms d hM), hnr]
  by_cases c1 : nr = 0
  · have c2 : Int32.ofNat nr ≤ 0 := by rw [c1]; decide
    simp only [if_pos c2, if_pos c1, e_X12_isHouse_12, e_X12_isHouse_13, ↓vM hM, ↓mcI_of (r_may0 d c hM h0 hc), mb0]
  · have c2 : ¬ Int32.ofNat nr ≤ 0 := i_ng (b := 0) (by omega) (by omega)
    simp only [if_neg c2, if_neg c1, e_X12_isHouse_13, ↓vM hM, ↓mcI_of (r_may1 d c hM h0), mb1]
theorem r_thrown (d : Nat) {G : mG} {I : Nat → Nat → Int32} {L : Nat → Nat → Int64} {m : Nat} (hM : LayM G m) : mcal mT (d + 1) 174 [.ref m] (G, I, L) = some (.inl (some (.int (I m 0))), (G, I, L)) := by
  simp only [q_X12_thrown_, e_X12_thrown_0, ↓vM hM]
