/-! claims, read: numbers and codes of both -/
section
variable {G G2 : mG} {I J : Nat → Nat → Int32} {L K : Nat → Nat → Int64} {B : Nat → Nat} {e a : Nat}
/-- a number read by both, or the same fault -/
theorem nm_pair (d r : Nat) {lo h1 : Nat} {hi : Int32} (hhi : hi = Int32.ofNat h1 - 1) (lX : LayX G 101) (lM : LayM G2 219) (q1 : TxR B e a I) (q2 : RdR B e a J) (hlo : lo ≤ 100000) (hh1 : h1 ≤ 100000) : (∃ I' J' v a', lo ≤ v ∧ v < h1 ∧ mcal mT (d + 2) 94 [.ref 101, .int (Int32.ofNat lo), .int hi] (G, I, L) = some (.inl (some (.int 1)), (G, I', L)) ∧ mcal mT (r + 2) 187 [.ref 219, .int (Int32.ofNat lo), .int hi] (G2, J, K) = some (.inl (some (.int (Int32.ofNat v))), (G2, J', K)) ∧ TxO I I' ∧ RdO J J' ∧ TxR B e a' I' ∧ RdR B e a' J' ∧ I' 101 5 = Int32.ofNat v ∧ I' 101 7 = I 101 7 ∧ a < a' ∧ J' 219 7 = J 219 7 ∧ ∃ p, I' 101 4 = Int32.ofNat p ∧ p ≤ 500 ∧ a ≤ p ∧ p = skb B e a) ∨ (∃ I' J' k p, mcal mT (d + 2) 94 [.ref 101, .int (Int32.ofNat lo), .int hi] (G, I, L) = some (.inl (some (.int 0)), (G, I', L)) ∧ mcal mT (r + 2) 187 [.ref 219, .int (Int32.ofNat lo), .int hi] (G2, J, K) = some (.inl (some (.int 0)), (G2, J', K)) ∧ TxO I I' ∧ RdO J J' ∧ I' 101 6 = k ∧ I' 101 7 = Int32.ofNat p ∧ J' 219 6 = Int32.ofNat p ∧ J' 219 7 = k ∧ p ≤ 500) := by
  have ae := q1.2.2.1
  have e5 := q1.2.2.2.1
  have bb := skb_b (B := B) (e := e) (a := a) ae
  have nb := nme_b (B := B) (e := e) (a := a) ae
  rw [hhi]
  rcases tk_num d (L := L) (lo := lo) (h1 := h1) lX q1 hlo hh1 with ⟨n1, I1, c1, c2, c3, c4⟩ | ⟨n1, n2, I1, c1, c2, c3, c4, c5, c6⟩ | ⟨n1, n2, I1, c1, c2, c3, c4⟩
  · rcases rk_num r (K := K) (lo := lo) (h1 := h1) lM q2 hlo hh1 with ⟨m1, J1, e1, e2, e3, e4⟩ | ⟨m1, -⟩ | ⟨m1, -⟩
    · exact Or.inr ⟨I1, J1, 1, skb B e a, c1, e1, c2, e2, c3, c4, e3, e4, by omega⟩
    · exact absurd n1 m1
    · exact absurd n1 m1
  · rcases rk_num r (K := K) (lo := lo) (h1 := h1) lM q2 hlo hh1 with ⟨m1, -⟩ | ⟨m1, m2, J1, e1, e2, e3, e4⟩ | ⟨m1, m2, -⟩
    · exact absurd m1 n1
    · exact Or.inl ⟨I1, J1, nmn B e a, nme B e a, n2.1, n2.2, c1, e1, c2, e2, c3, e3, c4, c6 7 (by decide), by omega, e4, skb B e a, c5, by omega, bb.1, rfl⟩
    · exact absurd n2 m2
  · rcases rk_num r (K := K) (lo := lo) (h1 := h1) lM q2 hlo hh1 with ⟨m1, -⟩ | ⟨m1, m2, -⟩ | ⟨m1, m2, J1, e1, e2, e3, e4⟩
    · exact absurd m1 n1
    · exact absurd m2 n2
    · exact Or.inr ⟨I1, J1, 2, skb B e a, c1, e1, c2, e2, c3, c4, e3, e4, by omega⟩
end
def wK (J : Nat → Nat → Int32) (j : Nat) : Nat := (J 243 j).toNatClampNeg
/-- a saying or a sign of both -/
def CcJ (b : Nat) (I J : Nat → Nat → Int32) (P j w : Nat) : Prop := (w ≤ 3 → I (b + 2) P = Int32.ofNat w ∧ ∃ r q f t, r ≤ 7 ∧ q ≤ 400 ∧ f ≤ t ∧ t ≤ 47 ∧ J 244 (4 * j) = Int32.ofNat r ∧ J 244 (4 * j + 1) = Int32.ofNat q ∧ J 244 (4 * j + 2) = Int32.ofNat f ∧ J 244 (4 * j + 3) = Int32.ofNat t ∧ I (b + 2) (P + 1) = Int32.ofNat r ∧ I (b + 2) (P + 2) = Int32.ofNat q ∧ I (b + 2) (P + 3) = Int32.ofNat f ∧ I (b + 2) (P + 4) = Int32.ofNat t) ∧ (w = 4 → I (b + 2) P = 5) ∧ (w = 5 → I (b + 2) P = 6) ∧ (w = 6 → I (b + 2) P = 4)
def CcR (b s : Nat) (I J : Nat → Nat → Int32) : Prop := I (b + 1) 1 = Int32.ofNat (pos (wK J) s) ∧ J 219 45 = Int32.ofNat s ∧ ∀ j, j < s → ∃ w, w ≤ 6 ∧ J 243 j = Int32.ofNat w ∧ CcJ b I J (pos (wK J) j) j w
def PrC (B : Nat → Nat) (b e a t s : Nat) (I J : Nat → Nat → Int32) : Prop := TxR B e a I ∧ RdR B e a J ∧ J 219 8 = Int32.ofNat t ∧ CcR b s I J ∧ pos (wK J) s ≤ a ∧ 2 * s ≤ a ∧ e ≤ 200 ∧ (b = 207 ∨ b = 211) ∧ I 101 7 = -1
def ClJ (J J' : Nat → Nat → Int32) : Prop := (∀ x, x ≠ 219 → x ≠ 243 → x ≠ 244 → J' x = J x) ∧ ∀ k, k ≠ 5 → k ≠ 6 → k ≠ 7 → k ≠ 8 → k ≠ 45 → J' 219 k = J 219 k
def SaC (s : Nat) (J J' : Nat → Nat → Int32) : Prop := ∀ j, j < s → J' 243 j = J 243 j ∧ J' 244 (4 * j) = J 244 (4 * j) ∧ J' 244 (4 * j + 1) = J 244 (4 * j + 1) ∧ J' 244 (4 * j + 2) = J 244 (4 * j + 2) ∧ J' 244 (4 * j + 3) = J 244 (4 * j + 3)
theorem ClJ_i {J : Nat → Nat → Int32} : ClJ J J := ⟨fun _ _ _ _ => rfl, fun _ _ _ _ _ _ => rfl⟩
theorem ClJ_t {J J1 J2 : Nat → Nat → Int32} (x : ClJ J J1) (y : ClJ J1 J2) : ClJ J J2 := ⟨fun a h1 h2 h3 => (y.1 a h1 h2 h3).trans (x.1 a h1 h2 h3), fun k h1 h2 h3 h4 h5 => (y.2 k h1 h2 h3 h4 h5).trans (x.2 k h1 h2 h3 h4 h5)⟩
theorem ClJ_x {J J' : Nat → Nat → Int32} (o : RdO J J') : ClJ J J' := ⟨fun x h _ _ => o.1 x h, fun k h1 h2 h3 _ _ => o.2 k h1 h2 h3⟩
theorem ClJ_u {J J' : Nat → Nat → Int32} {k : Nat} {v : Int32} (x : ClJ J J') (h : k = 5 ∨ k = 6 ∨ k = 7 ∨ k = 8 ∨ k = 45) : ClJ J (va_up J' 219 (va_up (J' 219) k v)) := ⟨fun a h1 h2 h3 => by rw [up_ne h1]; exact x.1 a h1 h2 h3, fun j h1 h2 h3 h4 h5 => by rw [up_eq, up_ne (by omega)]; exact x.2 j h1 h2 h3 h4 h5⟩
theorem SaC_i {s : Nat} {J : Nat → Nat → Int32} : SaC s J J := fun _ _ => ⟨rfl, rfl, rfl, rfl, rfl⟩
theorem SaC_t {s s1 : Nat} {J J1 J2 : Nat → Nat → Int32} (x : SaC s J J1) (h : s ≤ s1) (y : SaC s1 J1 J2) : SaC s J J2 := fun j hj => by
  obtain ⟨a1, a2, a3, a4, a5⟩ := x j hj
  obtain ⟨b1, b2, b3, b4, b5⟩ := y j (by omega)
  exact ⟨b1.trans a1, b2.trans a2, b3.trans a3, b4.trans a4, b5.trans a5⟩
theorem SaC_x {s : Nat} {J J' : Nat → Nat → Int32} (o : RdO J J') : SaC s J J' := fun j _ => by
  rw [o.1 243 (by decide), o.1 244 (by decide)]
  exact ⟨rfl, rfl, rfl, rfl, rfl⟩
theorem BlC_y {b : Nat} {I I' : Nat → Nat → Int32} (hb : b = 207 ∨ b = 211) (o : TxO I I') : BlC b I I' := ⟨fun x h _ _ => o.1 x h, o.2, fun k _ => by rw [o.1 (b + 1) (by omega)]⟩
theorem pos_c {W W' : Nat → Nat} : ∀ n, (∀ j, j < n → W j = W' j) → pos W n = pos W' n := by
  intro n
  induction n with
  | zero => intro _; rfl
  | succ n ih =>
    intro h
    unfold pos
    rw [ih (fun j hj => h j (by omega)), h n (by omega)]
theorem hgc_c {W W' : Nat → Nat} : ∀ n, (∀ j, j < n → W j = W' j) → hgc W n = hgc W' n := by
  intro n
  induction n with
  | zero => intro _; rfl
  | succ n ih =>
    intro h
    unfold hgc
    rw [ih (fun j hj => h j (by omega)), h n (by omega)]
theorem wK_s {s : Nat} {J J' : Nat → Nat → Int32} (h : SaC s J J') : ∀ j, j < s → wK J j = wK J' j := fun j hj => by unfold wK; rw [(h j hj).1]
theorem PrC_x {B : Nat → Nat} {b e a a' t s : Nat} {I I' J J' : Nat → Nat → Int32} (q : PrC B b e a t s I J) (o : TxO I I') (o' : RdO J J') (h1 : TxR B e a' I') (h2 : RdR B e a' J') (h3 : a ≤ a') (h7 : I' 101 7 = I 101 7) : PrC B b e a' t s I' J' := by
  obtain ⟨q1, q2, q3, q4, q5, q6, q7, q8, q9⟩ := q
  have e3 : wK J' = wK J := by funext j; unfold wK; rw [o'.1 243 (by decide)]
  refine ⟨h1, h2, by rw [o'.2 8 (by decide) (by decide) (by decide)]; exact q3, ?_, by rw [e3]; omega, by omega, q7, q8, h7.trans q9⟩
  unfold CcR CcJ at q4 ⊢
  rw [e3, o.1 (b + 1) (by omega), o.1 (b + 2) (by omega), o'.1 243 (by decide), o'.1 244 (by decide), o'.2 45 (by decide) (by decide) (by decide)]
  exact q4
theorem PrC_d {B : Nat → Nat} {b e a t t' s : Nat} {I J J' : Nat → Nat → Int32} (q : PrC B b e a t s I J) (h : ∀ x, x ≠ 219 → J' x = J x) (h9 : ∀ k, k ≠ 8 → J' 219 k = J 219 k) (h8 : J' 219 8 = Int32.ofNat t') : PrC B b e a t' s I J' := by
  obtain ⟨q1, ⟨r1, r2, r3, r4, r5, r6⟩, q3, q4, q5, q6, q7, q8, q9⟩ := q
  have e3 : wK J' = wK J := by funext j; unfold wK; rw [h 243 (by decide)]
  refine ⟨q1, ⟨by rw [h9 4 (by decide)]; exact r1, by rw [h9 5 (by decide)]; exact r2, r3, r4, by rw [h9 6 (by decide)]; exact r5, by rw [h 222 (by decide)]; exact r6⟩, h8, ?_, by rw [e3]; exact q5, q6, q7, q8, q9⟩
  unfold CcR CcJ at q4 ⊢
  rw [e3, h 243 (by decide), h 244 (by decide), h9 45 (by decide)]
  exact q4
/-- sayings that leave one verdict -/
def SgC (W : Nat → Nat) (s s' D : Nat) : Prop := (∀ j, s ≤ j → j < s' → (W j ≤ 3 → hgc W j < hgc W s + D) ∧ (W j = 4 ∨ W j = 5 → hgc W s + 2 ≤ hgc W j) ∧ (W j = 6 → hgc W s + 1 ≤ hgc W j)) ∧ hgc W s' = hgc W s + 1
theorem SgC_c {W W' : Nat → Nat} {s s' D D' : Nat} (q : SgC W s s' D) (h : ∀ j, j < s' → W j = W' j) (hs : s ≤ s') (hD : D ≤ D') : SgC W' s s' D' := by
  obtain ⟨q1, q2⟩ := q
  have e : ∀ n, n ≤ s' → hgc W n = hgc W' n := fun n hn => hgc_c n (fun j hj => h j (by omega))
  refine ⟨fun j h1 h2 => ?_, by rw [← e s' (Nat.le_refl _), ← e s hs]; exact q2⟩
  have := q1 j h1 h2
  rw [← h j h2, ← e j (by omega), ← e s hs]
  exact ⟨fun p => by have := this.1 p; omega, this.2⟩
theorem SgC_j {W : Nat → Nat} {s s1 s2 D : Nat} (p : SgC W s s1 (D + 1)) (q : SgC W s1 s2 D) (h1 : s ≤ s1) (h2 : s1 ≤ s2) (w : W s2 = 4 ∨ W s2 = 5) : SgC W s (s2 + 1) (D + 1) := by
  obtain ⟨p1, p2⟩ := p
  obtain ⟨q1, q2⟩ := q
  refine ⟨fun j h3 h4 => ?_, ?_⟩
  · by_cases c : j < s1
    · exact p1 j h3 c
    · by_cases c2 : j < s2
      · have := q1 j (by omega) c2
        exact ⟨fun x => by have := this.1 x; omega, fun x => by have := this.2.1 x; omega, fun x => by have := this.2.2 x; omega⟩
      · have ej : j = s2 := by omega
        rw [ej]
        exact ⟨fun x => by omega, fun _ => by omega, fun x => by omega⟩
  · show (if W s2 ≤ 3 then hgc W s2 + 1 else if W s2 = 6 then hgc W s2 else hgc W s2 - 1) = _
    rw [if_neg (by omega), if_neg (by omega)]
    omega
theorem SgC_n {W : Nat → Nat} {s s2 D D' : Nat} (q : SgC W s s2 D) (h2 : s ≤ s2) (w : W s2 = 6) (hD : D ≤ D') : SgC W s (s2 + 1) D' := by
  obtain ⟨q1, q2⟩ := q
  refine ⟨fun j h3 h4 => ?_, ?_⟩
  · by_cases c2 : j < s2
    · have := q1 j (by omega) c2
      exact ⟨fun x => by have := this.1 x; omega, this.2⟩
    · have ej : j = s2 := by omega
      rw [ej]
      exact ⟨fun x => by omega, fun x => by omega, fun x => by omega⟩
  · show (if W s2 ≤ 3 then hgc W s2 + 1 else if W s2 = 6 then hgc W s2 else hgc W s2 - 1) = _
    rw [if_neg (by omega), if_pos w]
    omega
theorem SgC_1 {W : Nat → Nat} {s D : Nat} (w : W s ≤ 3) (hD : 1 ≤ D) : SgC W s (s + 1) D := by
  refine ⟨fun j h1 h2 => ?_, if_pos w⟩
  have ej : j = s := by omega
  rw [ej]
  exact ⟨fun _ => by omega, fun x => by omega, fun x => by omega⟩
def OutC (B : Nat → Nat) (b e a t s : Nat) (I J : Nat → Nat → Int32) (G G2 : mG) (L K : Nat → Nat → Int64) (X Y : Option mO) (Q : (Nat → Nat → Int32) → Nat → Nat → Prop) : Prop := (∃ I' J' a' s', X = some (.inl (some (.int 1)), (G, I', L)) ∧ Y = some (.inl none, (G2, J', K)) ∧ PrC B b e a' t s' I' J' ∧ BlC b I I' ∧ ClJ J J' ∧ SaC s J J' ∧ a ≤ a' ∧ s ≤ s' ∧ pos (wK J') s' + a ≤ pos (wK J) s + a' ∧ 2 * s' + a ≤ 2 * s + a' ∧ Q J' a' s') ∨ (∃ I' J' k p, X = some (.inl (some (.int 0)), (G, I', L)) ∧ Y = some (.inl none, (G2, J', K)) ∧ I' 101 6 = k ∧ I' 101 7 = Int32.ofNat p ∧ J' 219 6 = Int32.ofNat p ∧ J' 219 7 = k ∧ p ≤ 500 ∧ BlC b I I' ∧ ClJ J J')
section
variable {G G2 : mG} {I J : Nat → Nat → Int32} {L K : Nat → Nat → Int64} {B : Nat → Nat} {b e a t s : Nat}
theorem OutC_f {I' J' : Nat → Nat → Int32} {k : Int32} {p : Nat} {X Y : Option mO} {Q : (Nat → Nat → Int32) → Nat → Nat → Prop} (hX : X = some (.inl (some (.int 0)), (G, I', L))) (hY : Y = some (.inl none, (G2, J', K))) (h1 : I' 101 6 = k) (h2 : I' 101 7 = Int32.ofNat p) (h3 : J' 219 6 = Int32.ofNat p) (h4 : J' 219 7 = k) (hp : p ≤ 500) (c : BlC b I I') (j : ClJ J J') : OutC B b e a t s I J G G2 L K X Y Q := Or.inr ⟨I', J', k, p, hX, hY, h1, h2, h3, h4, hp, c, j⟩
/-- the reference's entry -/
def emJ (J : Nat → Nat → Int32) (s : Nat) (x1 x2 x3 x4 x5 : Int32) : Nat → Nat → Int32 := va_up (va_up (va_up J 243 (va_up (J 243) s x1)) 244 (va_up (va_up (va_up (va_up (J 244) (4 * s) x2) (4 * s + 1) x3) (4 * s + 2) x4) (4 * s + 3) x5)) 219 (va_up (J 219) 45 (Int32.ofNat (s + 1)))
theorem r_emC (d : Nat) (x1 x2 x3 x4 x5 : Int32) (lM : LayM G2 219) (f : J 219 6 = -1) (h : J 219 45 = Int32.ofNat s) (hs : s < 110) : mcal mT (d + 2) 278 [.ref 219, .int x1, .int x2, .int x3, .int x4, .int x5] (G2, J, K) = some (.inl none, (G2, emJ J s x1 x2 x3 x4 x5, K)) := by
  have fi := r_fine d (K := K) lM f
  have m4 : (4 : Int32) * Int32.ofNat s = Int32.ofNat (4 * s) := i_mul 4 s
  have m41 : Int32.ofNat (4 * s) + 1 = Int32.ofNat (4 * s + 1) := i_add _ 1
  have m42 : Int32.ofNat (4 * s) + 2 = Int32.ofNat (4 * s + 2) := i_add _ 2
  have m43 : Int32.ofNat (4 * s) + 3 = Int32.ofNat (4 * s + 3) := i_add _ 3
  rw [q_X12_emitClaim_, e_X12_emitClaim_0]
  simp only [↓vM lM, ↓mcI_of fi, if_neg (show ¬ (1 : Int32) = 0 by decide), e_X12_emitClaim_8]
  have h' : ∀ R, va_up J 243 R 219 45 = Int32.ofNat s := fun R => by rw [up_ne (by decide)]; exact h
  have u4 : ∀ R, va_up J 243 R 244 = J 244 := fun R => up_ne (by decide)
  have h2 : ∀ R S, va_up (va_up J 243 R) 244 S 219 45 = Int32.ofNat s := fun R S => by rw [up_ne (by decide), up_ne (by decide)]; exact h
  have u9 : ∀ R S, va_up (va_up J 243 R) 244 S 219 = J 219 := fun R S => by rw [up_ne (by decide), up_ne (by decide)]
  simp (disch := omega) only [↓vM lM, h, up2_e, h', u4, h2, u9, up_eq, up_up, m4, m41, m42, m43, i_one]
  rfl
theorem r_emCN (d : Nat) (x1 x2 x3 x4 x5 : Int32) (lM : LayM G2 219) (f : ¬ J 219 6 = -1) : mcal mT (d + 2) 278 [.ref 219, .int x1, .int x2, .int x3, .int x4, .int x5] (G2, J, K) = some (.inl none, (G2, J, K)) := by
  have fi := r_fineN d (K := K) lM f
  rw [q_X12_emitClaim_, e_X12_emitClaim_0]
  simp only [↓vM lM, ↓mcI_of fi, if_true]
theorem emJ_o {x : Nat} {x1 x2 x3 x4 x5 : Int32} (h1 : x ≠ 219) (h2 : x ≠ 243) (h3 : x ≠ 244) : emJ J s x1 x2 x3 x4 x5 x = J x := by
  unfold emJ
  rw [up_ne h1, up_ne h3, up_ne h2]
theorem emJ_k {k : Nat} {x1 x2 x3 x4 x5 : Int32} (h : k ≠ 45) : emJ J s x1 x2 x3 x4 x5 219 k = J 219 k := by
  unfold emJ
  rw [up_eq, up_ne h]
theorem emJ_f {x1 x2 x3 x4 x5 : Int32} : ClJ J (emJ J s x1 x2 x3 x4 x5) ∧ SaC s J (emJ J s x1 x2 x3 x4 x5) ∧ (emJ J s x1 x2 x3 x4 x5) 219 45 = Int32.ofNat (s + 1) ∧ (emJ J s x1 x2 x3 x4 x5) 243 s = x1 ∧ (emJ J s x1 x2 x3 x4 x5) 244 (4 * s) = x2 ∧ (emJ J s x1 x2 x3 x4 x5) 244 (4 * s + 1) = x3 ∧ (emJ J s x1 x2 x3 x4 x5) 244 (4 * s + 2) = x4 ∧ (emJ J s x1 x2 x3 x4 x5) 244 (4 * s + 3) = x5 := by
  have e3 : emJ J s x1 x2 x3 x4 x5 243 = va_up (J 243) s x1 := by unfold emJ; rw [up_ne (by decide), up_ne (by decide), up_eq]
  have e4 : emJ J s x1 x2 x3 x4 x5 244 = va_up (va_up (va_up (va_up (J 244) (4 * s) x2) (4 * s + 1) x3) (4 * s + 2) x4) (4 * s + 3) x5 := by unfold emJ; rw [up_ne (by decide), up_eq]
  refine ⟨⟨fun x h1 h2 h3 => emJ_o h1 h2 h3, fun k _ _ _ _ h => emJ_k h⟩, fun j hj => ?_, by unfold emJ; rw [up_eq, up_eq], by rw [e3, up_eq], ?_, ?_, ?_, ?_⟩
  · rw [e3, e4, up_ne (by omega), up_ne (by omega), up_ne (by omega), up_ne (by omega), up_ne (by omega), up_ne (by omega), up_ne (by omega), up_ne (by omega), up_ne (by omega), up_ne (by omega), up_ne (by omega), up_ne (by omega), up_ne (by omega), up_ne (by omega), up_ne (by omega), up_ne (by omega), up_ne (by omega)]
    exact ⟨rfl, rfl, rfl, rfl, rfl⟩
  · rw [e4, up_ne (by omega), up_ne (by omega), up_ne (by omega), up_eq]
  · rw [e4, up_ne (by omega), up_ne (by omega), up_eq]
  · rw [e4, up_ne (by omega), up_eq]
  · rw [e4, up_eq]
/-- one more entry of both -/
theorem PrC_e {w : Nat} {I' : Nat → Nat → Int32} {x2 x3 x4 x5 : Int32} (q2 : RdR B e a J) (q3 : J 219 8 = Int32.ofNat t) (cc : CcR b s I J) (q7 : e ≤ 200) (q8 : b = 207 ∨ b = 211) (h1 : TxR B e a I') (h7 : I' 101 7 = -1) (hw : w ≤ 6) (hsz : I' (b + 1) 1 = Int32.ofNat (if w ≤ 3 then pos (wK J) s + 5 else pos (wK J) s + 1)) (hold : ∀ i, i < pos (wK J) s → I' (b + 2) i = I (b + 2) i) (hnew : CcJ b I' (emJ J s (Int32.ofNat w) x2 x3 x4 x5) (pos (wK J) s) s w) (hp : (if w ≤ 3 then pos (wK J) s + 5 else pos (wK J) s + 1) ≤ a) (hs : 2 * (s + 1) ≤ a) : PrC B b e a t (s + 1) I' (emJ J s (Int32.ofNat w) x2 x3 x4 x5) ∧ wK (emJ J s (Int32.ofNat w) x2 x3 x4 x5) s = w ∧ pos (wK (emJ J s (Int32.ofNat w) x2 x3 x4 x5)) (s + 1) = (if w ≤ 3 then pos (wK J) s + 5 else pos (wK J) s + 1) := by
  obtain ⟨c1, c2, c3⟩ := cc
  obtain ⟨f1, f2, f3, f4, -⟩ := emJ_f (J := J) (s := s) (x1 := Int32.ofNat w) (x2 := x2) (x3 := x3) (x4 := x4) (x5 := x5)
  generalize hJ' : emJ J s (Int32.ofNat w) x2 x3 x4 x5 = J' at hnew f1 f2 f3 f4 ⊢
  have oJ : ∀ x, x ≠ 219 → x ≠ 243 → x ≠ 244 → J' x = J x := f1.1
  have oK : ∀ k, k ≠ 45 → J' 219 k = J 219 k := fun k hk => by rw [← hJ']; exact emJ_k hk
  have ag := wK_s f2
  have ep : ∀ j, j ≤ s → pos (wK J') j = pos (wK J) j := fun j hj => (pos_c j (fun i hi => ag i (by omega))).symm
  have ew : wK J' s = w := by unfold wK; rw [f4, i_nat (by omega)]
  have es : pos (wK J') (s + 1) = (if w ≤ 3 then pos (wK J) s + 5 else pos (wK J) s + 1) := by
    show (if wK J' s ≤ 3 then pos (wK J') s + 5 else pos (wK J') s + 1) = _
    rw [ew, ep s (Nat.le_refl _)]
  refine ⟨⟨h1, ?_, by rw [oK 8 (by decide)]; exact q3, ⟨by rw [es]; exact hsz, f3, fun j hj => ?_⟩, by rw [es]; exact hp, hs, q7, q8, h7⟩, ew, es⟩
  · obtain ⟨x1, x2, x3, x4, x5, x6⟩ := q2
    exact ⟨by rw [oK 4 (by decide)]; exact x1, by rw [oK 5 (by decide)]; exact x2, x3, x4, by rw [oK 6 (by decide)]; exact x5, fun j hj => by rw [oJ 222 (by decide) (by decide) (by decide)]; exact x6 j hj⟩
  · by_cases c : j = s
    · rw [c, ep s (Nat.le_refl _)]
      exact ⟨w, hw, f4, hnew⟩
    · obtain ⟨v, v1, v2, v3⟩ := c3 j (by omega)
      obtain ⟨g1, g2, g3, g4, g5⟩ := f2 j (by omega)
      have pj := pos_s (W := wK J) (j := j) (c := s) (by omega)
      have vj : wK J j = v := by unfold wK; rw [v2, i_nat (by omega)]
      refine ⟨v, v1, by rw [g1]; exact v2, ?_⟩
      rw [ep j (by omega)]
      obtain ⟨u1, u2, u3, u4⟩ := v3
      have o0 : I' (b + 2) (pos (wK J) j) = I (b + 2) (pos (wK J) j) := hold _ (by omega)
      refine ⟨fun p => ?_, fun p => by rw [o0]; exact u2 p, fun p => by rw [o0]; exact u3 p, fun p => by rw [o0]; exact u4 p⟩
      obtain ⟨y1, y2⟩ := u1 p
      have e5 : pos (wK J) (j + 1) = pos (wK J) j + 5 := if_pos (by rw [vj]; exact p)
      rw [g2, g3, g4, g5, o0, hold (pos (wK J) j + 1) (by omega), hold (pos (wK J) j + 2) (by omega), hold (pos (wK J) j + 3) (by omega), hold (pos (wK J) j + 4) (by omega)]
      exact ⟨y1, y2⟩
/-- a sign written down by both -/
theorem ec_pair (d d' : Nat) {w : Nat} {cw : Int32} (lW : LayW G 2 b) (lM : LayM G2 219) (q : PrC B b e a t s I J) (hs : pos (wK J) s + 1 ≤ a) (hs2 : 2 * (s + 1) ≤ a) (hw : (w = 4 ∧ cw = 5) ∨ (w = 5 ∧ cw = 6) ∨ (w = 6 ∧ cw = 4)) : ∃ I' J', mcal mT (d + 1) 20 [.ref (b + 1), .int cw] (G, I, L) = some (.inl none, (G, I', L)) ∧ mcal mT (d' + 2) 278 [.ref 219, .int (Int32.ofNat w), .int 0, .int 0, .int 0, .int 0] (G2, J, K) = some (.inl none, (G2, J', K)) ∧ PrC B b e a t (s + 1) I' J' ∧ BlC b I I' ∧ ClJ J J' ∧ SaC s J J' ∧ wK J' s = w ∧ pos (wK J') (s + 1) = pos (wK J) s + 1 := by
  obtain ⟨q1, q2, q3, ⟨q4, q5, -⟩, -, -, q8, q9, q10⟩ := id q
  have ae : a ≤ e := q1.2.2.1
  have ca := c_add d (G := G) (I := I) (L := L) (c := b + 1) (s := pos (wK J) s) cw lW.2.2 q4 (by omega)
  have re := r_emC d' (G2 := G2) (J := J) (K := K) (s := s) (Int32.ofNat w) 0 0 0 0 lM q2.2.2.2.2.1 q5 (by omega)
  generalize hI' : va_up (va_up I (b + 1 + 1) (va_up (I (b + 1 + 1)) (pos (wK J) s) cw)) (b + 1) (va_up (I (b + 1)) 1 (Int32.ofNat (pos (wK J) s + 1))) = I' at ca
  have oI : ∀ x, x ≠ b + 1 → x ≠ b + 2 → I' x = I x := fun x h1 h2 => by rw [← hI', up_ne h1, up_ne h2]
  have I2 : I' (b + 2) = va_up (I (b + 2)) (pos (wK J) s) cw := by rw [← hI', up_ne (by omega)]; exact up_eq
  have n3 : ¬ w ≤ 3 := by omega
  have hc : (w = 4 → cw = 5) ∧ (w = 5 → cw = 6) ∧ (w = 6 → cw = 4) := by
    rcases hw with ⟨x, y⟩ | ⟨x, y⟩ | ⟨x, y⟩
    · exact ⟨fun _ => y, fun p => by omega, fun p => by omega⟩
    · exact ⟨fun p => by omega, fun _ => y, fun p => by omega⟩
    · exact ⟨fun p => by omega, fun p => by omega, fun _ => y⟩
  have t1 : TxR B e a I' := by
    obtain ⟨x1, x2, x3, x4, x5⟩ := q1
    exact ⟨by rw [oI 101 (by omega) (by omega)]; exact x1, by rw [oI 101 (by omega) (by omega)]; exact x2, x3, x4, fun j hj => by rw [oI 102 (by omega) (by omega)]; exact x5 j hj⟩
  obtain ⟨f1, f2, -⟩ := emJ_f (J := J) (s := s) (x1 := Int32.ofNat w) (x2 := 0) (x3 := 0) (x4 := 0) (x5 := 0)
  obtain ⟨p1, p2, p3⟩ := PrC_e (I' := I') (w := w) (x2 := 0) (x3 := 0) (x4 := 0) (x5 := 0) q2 q3 q.2.2.2.1 q8 q9 t1 (by rw [oI 101 (by omega) (by omega)]; exact q10) (by omega) (by rw [if_neg n3, ← hI', up_eq, up_eq]) (fun i hi => by rw [I2, up_ne (by omega)]) ⟨fun p => absurd p n3, fun p => by rw [I2, up_eq]; exact hc.1 p, fun p => by rw [I2, up_eq]; exact hc.2.1 p, fun p => by rw [I2, up_eq]; exact hc.2.2 p⟩ (by rw [if_neg n3]; exact hs) hs2
  rw [if_neg n3] at p3
  exact ⟨I', _, ca, re, p1, ⟨fun x h1 h2 h3 => oI x h2 h3, fun k hk => by rw [oI 101 (by omega) (by omega)], fun k hk => by rw [← hI', up_eq, up_ne hk]⟩, f1, f2, p2, p3⟩
end
