/-! the words of bills, read -/
def wJ (J : Nat → Nat → Int32) (j : Nat) : Nat := (J 237 j).toNatClampNeg
/-- codes of class and reference -/
def CdR (b s : Nat) (I J : Nat → Nat → Int32) : Prop := I (b + 1) 1 = Int32.ofNat s ∧ J 219 37 = Int32.ofNat s ∧ ∀ j, j < s → ∃ w, w ≤ 9 ∧ J 237 j = Int32.ofNat w ∧ irng (J 238 j) 0 9999 ∧ I (b + 2) j = (if w = 0 then J 238 j else -Int32.ofNat w)
def PrS (B : Nat → Nat) (b e a t s : Nat) (I J : Nat → Nat → Int32) : Prop := TxR B e a I ∧ RdR B e a J ∧ J 219 8 = Int32.ofNat t ∧ CdR b s I J ∧ s ≤ a ∧ e ≤ 200 ∧ (b = 199 ∨ b = 203) ∧ I 101 7 = -1
def BlC (b : Nat) (I I' : Nat → Nat → Int32) : Prop := (∀ x, x ≠ 101 → x ≠ b + 1 → x ≠ b + 2 → I' x = I x) ∧ (∀ k, (k < 3 ∨ 7 < k) → I' 101 k = I 101 k) ∧ ∀ k, k ≠ 1 → I' (b + 1) k = I (b + 1) k
def BlJ (J J' : Nat → Nat → Int32) : Prop := (∀ x, x ≠ 219 → x ≠ 237 → x ≠ 238 → J' x = J x) ∧ ∀ k, k ≠ 5 → k ≠ 6 → k ≠ 7 → k ≠ 8 → k ≠ 37 → J' 219 k = J 219 k
def SaR (s : Nat) (J J' : Nat → Nat → Int32) : Prop := ∀ j, j < s → J' 237 j = J 237 j ∧ J' 238 j = J 238 j
theorem BlC_i {b : Nat} {I : Nat → Nat → Int32} : BlC b I I := ⟨fun _ _ _ _ => rfl, fun _ _ => rfl, fun _ _ => rfl⟩
theorem BlJ_i {J : Nat → Nat → Int32} : BlJ J J := ⟨fun _ _ _ _ => rfl, fun _ _ _ _ _ _ => rfl⟩
theorem BlC_t {b : Nat} {I I1 I2 : Nat → Nat → Int32} (x : BlC b I I1) (y : BlC b I1 I2) : BlC b I I2 := ⟨fun a h1 h2 h3 => (y.1 a h1 h2 h3).trans (x.1 a h1 h2 h3), fun k h => (y.2.1 k h).trans (x.2.1 k h), fun k h => (y.2.2 k h).trans (x.2.2 k h)⟩
theorem BlJ_t {J J1 J2 : Nat → Nat → Int32} (x : BlJ J J1) (y : BlJ J1 J2) : BlJ J J2 := ⟨fun a h1 h2 h3 => (y.1 a h1 h2 h3).trans (x.1 a h1 h2 h3), fun k h1 h2 h3 h4 h5 => (y.2 k h1 h2 h3 h4 h5).trans (x.2 k h1 h2 h3 h4 h5)⟩
theorem SaR_t {s s1 : Nat} {J J1 J2 : Nat → Nat → Int32} (x : SaR s J J1) (h : s ≤ s1) (y : SaR s1 J1 J2) : SaR s J J2 := fun j hj => ⟨(y j (by omega)).1.trans (x j hj).1, (y j (by omega)).2.trans (x j hj).2⟩
theorem SaR_i {s : Nat} {J : Nat → Nat → Int32} : SaR s J J := fun _ _ => ⟨rfl, rfl⟩
theorem BlC_x {b : Nat} {I I' : Nat → Nat → Int32} (hb : b = 199 ∨ b = 203) (o : TxO I I') : BlC b I I' := ⟨fun x h _ _ => o.1 x h, o.2, fun k _ => by rw [o.1 (b + 1) (by omega)]⟩
theorem BlJ_x {J J' : Nat → Nat → Int32} (o : RdO J J') : BlJ J J' := ⟨fun x h _ _ => o.1 x h, fun k h1 h2 h3 _ _ => o.2 k h1 h2 h3⟩
theorem SaR_x {s : Nat} {J J' : Nat → Nat → Int32} (o : RdO J J') : SaR s J J' := fun j _ => by rw [o.1 237 (by decide), o.1 238 (by decide)]; exact ⟨rfl, rfl⟩
theorem CdR_x {b s : Nat} {I I' J J' : Nat → Nat → Int32} (hb : b = 199 ∨ b = 203) (o : TxO I I') (o' : RdO J J') (q : CdR b s I J) : CdR b s I' J' := by
  unfold CdR at q ⊢
  rw [o.1 (b + 1) (by omega), o.1 (b + 2) (by omega), o'.1 237 (by decide), o'.1 238 (by decide), o'.2 37 (by decide) (by decide) (by decide)]
  exact q
/-- on in the text -/
theorem PrS_x {B : Nat → Nat} {b e a a' t s : Nat} {I I' J J' : Nat → Nat → Int32} (q : PrS B b e a t s I J) (o : TxO I I') (o' : RdO J J') (h1 : TxR B e a' I') (h2 : RdR B e a' J') (h3 : a ≤ a') (h7 : I' 101 7 = I 101 7) : PrS B b e a' t s I' J' := by
  obtain ⟨q1, q2, q3, q4, q5, q6, q7, q8⟩ := q
  exact ⟨h1, h2, by rw [o'.2 8 (by decide) (by decide) (by decide)]; exact q3, CdR_x q7 o o' q4, by omega, q6, q7, h7.trans q8⟩
theorem hgt_c {W W' : Nat → Nat} : ∀ n, (∀ j, j < n → W j = W' j) → hgt W n = hgt W' n := by
  intro n
  induction n with
  | zero => intro _; rfl
  | succ n ih =>
    intro h
    unfold hgt
    rw [ih (fun j hj => h j (by omega)), h n (by omega)]
/-- codes that leave one value -/
def Sgm (W : Nat → Nat) (s s' D : Nat) : Prop := (∀ j, s ≤ j → j < s' → (W j ≤ 5 → hgt W j < hgt W s + D) ∧ (¬ W j ≤ 5 → hgt W s + 2 ≤ hgt W j)) ∧ hgt W s' = hgt W s + 1
theorem Sgm_c {W W' : Nat → Nat} {s s' D D' : Nat} (q : Sgm W s s' D) (h : ∀ j, j < s' → W j = W' j) (hs : s ≤ s') (hD : D ≤ D') : Sgm W' s s' D' := by
  obtain ⟨q1, q2⟩ := q
  have e : ∀ n, n ≤ s' → hgt W n = hgt W' n := fun n hn => hgt_c n (fun j hj => h j (by omega))
  refine ⟨fun j h1 h2 => ?_, by rw [← e s' (Nat.le_refl _), ← e s hs]; exact q2⟩
  have := q1 j h1 h2
  rw [← h j h2, ← e j (by omega), ← e s hs]
  exact ⟨fun p => by have := this.1 p; omega, this.2⟩
/-- one more value, and a sign -/
theorem Sgm_j {W : Nat → Nat} {s s1 s2 D : Nat} (p : Sgm W s s1 (D + 1)) (q : Sgm W s1 s2 D) (h1 : s ≤ s1) (h2 : s1 ≤ s2) (w : ¬ W s2 ≤ 5) : Sgm W s (s2 + 1) (D + 1) := by
  obtain ⟨p1, p2⟩ := p
  obtain ⟨q1, q2⟩ := q
  refine ⟨fun j h3 h4 => ?_, ?_⟩
  · by_cases c : j < s1
    · exact p1 j h3 c
    · by_cases c2 : j < s2
      · have := q1 j (by omega) c2
        exact ⟨fun x => by have := this.1 x; omega, fun x => by have := this.2 x; omega⟩
      · have ej : j = s2 := by omega
        rw [ej]
        exact ⟨fun x => absurd x w, fun _ => by omega⟩
  · show (if W s2 ≤ 5 then hgt W s2 + 1 else hgt W s2 - 1) = _
    rw [if_neg w]
    omega
theorem Sgm_1 {W : Nat → Nat} {s D : Nat} (w : W s ≤ 5) (hD : 1 ≤ D) : Sgm W s (s + 1) D := by
  refine ⟨fun j h1 h2 => ?_, if_pos w⟩
  have ej : j = s := by omega
  rw [ej]
  exact ⟨fun _ => by omega, fun x => absurd w x⟩
/-- both have read a piece, or both have found the same fault -/
def OutB (B : Nat → Nat) (b e a t s : Nat) (I J : Nat → Nat → Int32) (G G2 : mG) (L K : Nat → Nat → Int64) (X Y : Option mO) (Q : (Nat → Nat → Int32) → Nat → Nat → Prop) : Prop := (∃ I' J' a' s', X = some (.inl (some (.int 1)), (G, I', L)) ∧ Y = some (.inl none, (G2, J', K)) ∧ PrS B b e a' t s' I' J' ∧ BlC b I I' ∧ BlJ J J' ∧ SaR s J J' ∧ a ≤ a' ∧ s ≤ s' ∧ s' + a ≤ s + a' ∧ Q J' a' s') ∨ (∃ I' J' k p, X = some (.inl (some (.int 0)), (G, I', L)) ∧ Y = some (.inl none, (G2, J', K)) ∧ I' 101 6 = k ∧ I' 101 7 = Int32.ofNat p ∧ J' 219 6 = Int32.ofNat p ∧ J' 219 7 = k ∧ p ≤ 500 ∧ BlC b I I' ∧ BlJ J J')
section
variable {G G2 : mG} {I J : Nat → Nat → Int32} {L K : Nat → Nat → Int64} {B : Nat → Nat} {b e a t s : Nat}
theorem c_add (d : Nat) {c : Nat} (v : Int32) (lC : LayC G c) (h : I c 1 = Int32.ofNat s) (hs : s < 200) : mcal mT (d + 1) 20 [.ref c, .int v] (G, I, L) = some (.inl none, (G, va_up (va_up I (c + 1) (va_up (I (c + 1)) s v)) c (va_up (I c) 1 (Int32.ofNat (s + 1))), L)) := by
  have n2 : gN G (c + 1) = 200 := lC.2.2.2.1
  have k2 : gK G (c + 1) = 20 := lC.2.2.1
  have nn : ¬ Int32.ofNat 200 ≤ Int32.ofNat s := fun p => by have := (i_le (by decide) (by omega)).mp p; omega
  have ne : c ≠ c + 1 := by omega
  rw [q_X2_add_, e_X2_add_0]
  simp only [↓vC lC, ↓gk_t k2, n2, h, if_neg nn]
  simp (disch := omega) only [↓vC lC, up2_e, up_ne ne, h, i_one, e_X2_add_32]
theorem r_emit (d : Nat) (x y : Int32) (lM : LayM G2 219) (f : J 219 6 = -1) (h : J 219 37 = Int32.ofNat s) (hs : s < 200) : mcal mT (d + 2) 260 [.ref 219, .int x, .int y] (G2, J, K) = some (.inl none, (G2, va_up (va_up (va_up J 237 (va_up (J 237) s x)) 238 (va_up (J 238) s y)) 219 (va_up (J 219) 37 (Int32.ofNat (s + 1))), K)) := by
  have fi := r_fine d (K := K) lM f
  rw [q_X12_emit_, e_X12_emit_0]
  simp only [↓vM lM, ↓mcI_of fi, if_neg (show ¬ (1 : Int32) = 0 by decide), e_X12_emit_8]
  have h' : ∀ R, va_up J 237 R 219 37 = Int32.ofNat s := fun R => by rw [up_ne (by decide)]; exact h
  have u8 : ∀ R, va_up J 237 R 238 = J 238 := fun R => up_ne (by decide)
  have u9 : ∀ R S, va_up (va_up J 237 R) 238 S 219 = J 219 := fun R S => by rw [up_ne (by decide), up_ne (by decide)]
  simp (disch := omega) only [↓vM lM, h, up2_e, h', u8, u9, i_one]
theorem r_emitN (d : Nat) (x y : Int32) (lM : LayM G2 219) (f : ¬ J 219 6 = -1) : mcal mT (d + 2) 260 [.ref 219, .int x, .int y] (G2, J, K) = some (.inl none, (G2, J, K)) := by
  have fi := r_fineN d (K := K) lM f
  rw [q_X12_emit_, e_X12_emit_0]
  simp only [↓vM lM, ↓mcI_of fi, if_true]
/-- a code written down by both -/
theorem em_pair (d d' : Nat) {w : Nat} {N : Int32} (lW : LayW G 1 b) (lM : LayM G2 219) (q : PrS B b e a t s I J) (hs : s + 1 ≤ a) (hw : w ≤ 9) (hN : irng N 0 9999) : ∃ I' J', mcal mT (d + 1) 20 [.ref (b + 1), .int (if w = 0 then N else -Int32.ofNat w)] (G, I, L) = some (.inl none, (G, I', L)) ∧ mcal mT (d' + 2) 260 [.ref 219, .int (Int32.ofNat w), .int N] (G2, J, K) = some (.inl none, (G2, J', K)) ∧ PrS B b e a t (s + 1) I' J' ∧ BlC b I I' ∧ BlJ J J' ∧ SaR s J J' ∧ wJ J' s = w := by
  obtain ⟨q1, q2, q3, ⟨q4, q5, q6⟩, q7, q8, q9, q10⟩ := id q
  have ae : a ≤ e := q1.2.2.1
  have ca := c_add d (G := G) (I := I) (L := L) (c := b + 1) (s := s) (if w = 0 then N else -Int32.ofNat w) lW.2.2 q4 (by omega)
  have re := r_emit d' (G2 := G2) (J := J) (K := K) (s := s) (Int32.ofNat w) N lM q2.2.2.2.2.1 q5 (by omega)
  generalize hI' : va_up (va_up I (b + 1 + 1) (va_up (I (b + 1 + 1)) s (if w = 0 then N else -Int32.ofNat w))) (b + 1) (va_up (I (b + 1)) 1 (Int32.ofNat (s + 1))) = I' at ca
  generalize hJ' : va_up (va_up (va_up J 237 (va_up (J 237) s (Int32.ofNat w))) 238 (va_up (J 238) s N)) 219 (va_up (J 219) 37 (Int32.ofNat (s + 1))) = J' at re
  have oI : ∀ x, x ≠ b + 1 → x ≠ b + 2 → I' x = I x := fun x h1 h2 => by rw [← hI', up_ne h1, up_ne h2]
  have oJ : ∀ x, x ≠ 219 → x ≠ 237 → x ≠ 238 → J' x = J x := fun x h1 h2 h3 => by rw [← hJ', up_ne h1, up_ne h3, up_ne h2]
  have J9 : ∀ k, k ≠ 37 → J' 219 k = J 219 k := fun k hk => by rw [← hJ', up_eq, up_ne hk]
  have I2 : I' (b + 2) = va_up (I (b + 2)) s (if w = 0 then N else -Int32.ofNat w) := by rw [← hI', up_ne (by omega)]; exact up_eq
  have J7 : J' 237 = va_up (J 237) s (Int32.ofNat w) := by rw [← hJ', up_ne (by decide), up_ne (by decide), up_eq]
  have J8 : J' 238 = va_up (J 238) s N := by rw [← hJ', up_ne (by decide), up_eq]
  refine ⟨I', J', ca, re, ⟨?_, ?_, by rw [J9 8 (by decide)]; exact q3, ⟨by rw [← hI', up_eq, up_eq], by rw [← hJ', up_eq, up_eq], fun j hj => ?_⟩, hs, q8, q9, by rw [oI 101 (by omega) (by omega)]; exact q10⟩, ⟨fun x h1 h2 h3 => oI x h2 h3, fun k hk => by rw [oI 101 (by omega) (by omega)], fun k hk => by rw [← hI', up_eq, up_ne hk]⟩, ⟨fun x h1 h2 h3 => oJ x h1 h2 h3, fun k _ _ _ _ h5 => J9 k h5⟩, fun j hj => ?_, ?_⟩
  · obtain ⟨x1, x2, x3, x4, x5⟩ := q1
    rw [show TxR B e a I' ↔ _ from Iff.rfl]
    refine ⟨by rw [oI 101 (by omega) (by omega)]; exact x1, by rw [oI 101 (by omega) (by omega)]; exact x2, x3, x4, fun j hj => by rw [oI 102 (by omega) (by omega)]; exact x5 j hj⟩
  · obtain ⟨x1, x2, x3, x4, x5, x6⟩ := q2
    exact ⟨by rw [J9 4 (by decide)]; exact x1, by rw [J9 5 (by decide)]; exact x2, x3, x4, by rw [J9 6 (by decide)]; exact x5, fun j hj => by rw [oJ 222 (by decide) (by decide) (by decide)]; exact x6 j hj⟩
  · rw [I2, J7, J8]
    by_cases c : j = s
    · rw [c, up_eq, up_eq, up_eq]
      exact ⟨w, hw, rfl, hN, rfl⟩
    · rw [up_ne c, up_ne c, up_ne c]
      exact q6 j (by omega)
  · rw [J7, J8, up_ne (by omega), up_ne (by omega)]
    exact ⟨rfl, rfl⟩
  · unfold wJ
    rw [J7, up_eq, i_nat (by omega)]
theorem wJ_s {J J' : Nat → Nat → Int32} (h : SaR s J J') : ∀ j, j < s → wJ J j = wJ J' j := fun j hj => by unfold wJ; rw [(h j hj).1]
/-- the reference reads no more after a fault -/
theorem un_N (d : Nat) (lM : LayM G2 219) (f : ¬ J 219 6 = -1) : mcal mT (d + 2) 261 [.ref 219] (G2, J, K) = some (.inl none, (G2, J, K)) := by
  have fi := r_fineN d (K := K) lM f
  rw [q_X12_unit_, e_X12_unit_0]
  simp only [↓vM lM, ↓mcI_of fi, if_true]
theorem pr_N4 (d : Nat) (lM : LayM G2 219) (f : ¬ J 219 6 = -1) : f_X12_product (d + 1) 4 [.ref 219, mU] [] (G2, J, K) = some (.inl none, (G2, J, K)) := by
  have fi := r_fineN d (K := K) lM f
  rw [e_X12_product_4]
  simp only [↓vM lM, ↓mcI_of fi, if_true, e_X12_product_69]
theorem pr_N (d : Nat) (lM : LayM G2 219) (f : ¬ J 219 6 = -1) : mcal mT (d + 3) 262 [.ref 219] (G2, J, K) = some (.inl none, (G2, J, K)) := by
  rw [q_X12_product_, e_X12_product_0]
  simp only [↓vM lM, ↓mcV_of (un_N d (K := K) lM f)]
  exact pr_N4 (d + 1) lM f
theorem su_N4 (d : Nat) (lM : LayM G2 219) (f : ¬ J 219 6 = -1) : f_X12_sum (d + 1) 4 [.ref 219, mU] [] (G2, J, K) = some (.inl none, (G2, J, K)) := by
  have fi := r_fineN d (K := K) lM f
  rw [e_X12_sum_4]
  simp only [↓vM lM, ↓mcI_of fi, if_true, e_X12_sum_69]
theorem su_N (d : Nat) (lM : LayM G2 219) (f : ¬ J 219 6 = -1) : mcal mT (d + 4) 263 [.ref 219] (G2, J, K) = some (.inl none, (G2, J, K)) := by
  rw [q_X12_sum_, e_X12_sum_0]
  simp only [↓vM lM, ↓mcV_of (pr_N d (K := K) lM f)]
  exact su_N4 (d + 2) lM f
end
