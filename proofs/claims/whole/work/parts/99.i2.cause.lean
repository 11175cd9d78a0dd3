/-! the search for a cause: what is found -/
/-- the least pair from x on with Q -/
def LeP (Q : Nat → Nat → Prop) (k : Int32) (x : Nat) (r : Int32) : Prop := (∃ a b, x ≤ a ∧ a < b ∧ b ≤ 46 ∧ Q a b ∧ (∀ v, a < v → v < b → ¬ Q a v) ∧ (∀ u, x ≤ u → u < a → ∀ v, u < v → v ≤ 46 → ¬ Q u v) ∧ r = if k = 0 then Int32.ofNat a else Int32.ofNat b) ∨ (r = -2 ∧ ∀ u v, x ≤ u → u < v → v ≤ 46 → ¬ Q u v)
/-- what a search for a cause finds -/
def Fnd (e0 : Prop) (P : Nat → Prop) (Q : Nat → Nat → Prop) (k r : Int32) : Prop := (e0 ∧ r = -1) ∨ (¬ e0 ∧ ((∃ w, w ≤ 46 ∧ P w ∧ (∀ v, v < w → ¬ P v) ∧ r = if k = 0 then Int32.ofNat w else -1) ∨ ((∀ w, w ≤ 46 → ¬ P w) ∧ LeP Q k 0 r)))
theorem LeP_u {Q : Nat → Nat → Prop} {k r r' : Int32} (a : LeP Q k 0 r) (b : LeP Q k 0 r') : r = r' := by
  rcases a with ⟨a, b', a1, a2, a3, a4, a5, a6, a7⟩ | ⟨a1, a2⟩ <;> rcases b with ⟨c, d, c1, c2, c3, c4, c5, c6, c7⟩ | ⟨c1, c2⟩
  · have e : a = c := by
      rcases Nat.lt_trichotomy a c with p | p | p
      · exact absurd a4 (c6 a (by omega) p b' a2 a3)
      · exact p
      · exact absurd c4 (a6 c (by omega) p d c2 c3)
    subst e
    have e : b' = d := by
      rcases Nat.lt_trichotomy b' d with p | p | p
      · exact absurd a4 (c5 b' a2 p)
      · exact p
      · exact absurd c4 (a5 d c2 p)
    rw [a7, c7, e]
  · exact absurd a4 (c2 a b' a1 a2 a3)
  · exact absurd c4 (a2 c d c1 c2 c3)
  · rw [a1, c1]
theorem Fnd_u {e0 : Prop} {P : Nat → Prop} {Q : Nat → Nat → Prop} {k r r' : Int32} (a : Fnd e0 P Q k r) (b : Fnd e0 P Q k r') : r = r' := by
  rcases a with ⟨a1, a2⟩ | ⟨a1, a2⟩ <;> rcases b with ⟨b1, b2⟩ | ⟨b1, b2⟩
  · rw [a2, b2]
  · exact absurd a1 b1
  · exact absurd b1 a1
  · rcases a2 with ⟨w, w1, w2, w3, w4⟩ | ⟨a2, a3⟩ <;> rcases b2 with ⟨v, v1, v2, v3, v4⟩ | ⟨b2, b3⟩
    · have e : w = v := by
        rcases Nat.lt_trichotomy w v with p | p | p
        · exact absurd w2 (v3 w p)
        · exact p
        · exact absurd v2 (w3 v p)
      rw [w4, v4, e]
    · exact absurd w2 (b2 w w1)
    · exact absurd v2 (a2 v v1)
    · exact LeP_u a3 b3
section
variable {J Jx : Nat → Nat → Int32} {K Kx : Nat → Nat → Int64}
theorem QuR_i : QuR J J K K := ⟨fun _ _ _ _ _ _ => rfl, fun _ _ _ _ _ _ => rfl, fun _ _ => rfl, fun _ _ _ => rfl, fun _ _ => rfl⟩
theorem QuR_up {v : Int32} {j : Nat} (q : QuR J Jx K Kx) (hj : j = 32 ∨ j = 33) : QuR J (va_up Jx 219 (va_up (Jx 219) j v)) K Kx := by
  obtain ⟨a1, a2, a3, a4, a5⟩ := q
  refine ⟨fun a h1 h2 h3 h4 h5 => ?_, fun k h1 h2 h3 h4 h5 => ?_, fun k hk => ?_, a4, a5⟩
  · rw [up_ne h1]; exact a1 a h1 h2 h3 h4 h5
  · rw [up_eq, up_ne (by omega)]; exact a2 k h1 h2 h3 h4 h5
  · rw [up_ne (by decide)]; exact a3 k hk
end
section
variable {G : mG} {I J : Nat → Nat → Int32} {K : Nat → Nat → Int64} {h nr n : Nat} {E : Int32 → Int32 → Int32}
/-- what the reference's search needs -/
def ErR (e : Nat) (off : Int32) (G : mG) (I J : Nat → Nat → Int32) (K : Nat → Nat → Int64) (h nr n : Nat) (E : Int32 → Int32 → Int32) : Prop := LayM G 219 ∧ (J 220 164 = Int32.ofNat n ∧ n ≤ 8 ∧ J 220 163 = Int32.ofNat nr ∧ nr ≤ 8 ∧ ∀ k, k < n → I (h + 12) k = J 220 (144 + k) ∧ irng (J 220 (144 + k)) 0 3) ∧ ∀ x1 x2, OkT I h n nr x1 → OkT I h n nr x2 → (E x1 x2 = 0 ∨ E x1 x2 = 1) ∧ (∀ Jx Kx, QuR J Jx K Kx → ∃ J' K', mcal mT (e + 7) 247 [.ref 219, .int x1, .int x2, .int off] (G, Jx, Kx) = some (.inl (some (.int (E x1 x2))), (G, J', K')) ∧ QuR J J' K K' ∧ ∀ k, J' 219 k = Jx 219 k)
theorem er_t {e w : Nat} {off : Int32} (q : ErR e off G I J K h nr n E) {Jx : Nat → Nat → Int32} {Kx : Nat → Nat → Int64} (a : QuR J Jx K Kx) (hw : w ≤ 47) : mcal mT (e + 7) 246 [.ref 219, .int (Int32.ofNat w)] (G, Jx, Kx) = some (.inl (some (.int (thg I h n nr w))), (G, Jx, Kx)) := by
  obtain ⟨lM, ⟨a1, a2, a3, a4, a5⟩, -⟩ := q
  have e0 : Jx 220 = J 220 := a.1 220 (by decide) (by decide) (by decide) (by decide) (by decide)
  exact rt_ok (I := I) (K := Kx) (h := h) (e + 4) lM (by rw [e0]; exact a1) a2 (by rw [e0]; exact a3) a4 (by rw [e0]; exact a5) hw
theorem n48 {w : Nat} (h : w < 48) : ¬ (48 : Int32) ≤ Int32.ofNat w := fun p => by
  have := (i_le (a := 48) (b := w) (by decide) (by omega)).mp p
  omega
theorem fr_1 {e : Nat} {off : Int32} (q : ErR e off G I J K h nr n E) : ∀ k w, w + k = 48 → ∀ Jx Kx, QuR J Jx K Kx → Jx 219 33 = -1 → ∃ J' K', QuR J J' K K' ∧ ((∃ v, w ≤ v ∧ v ≤ 46 ∧ (¬ thg I h n nr v = 0 ∧ E (Int32.ofNat v) (-1) = 1) ∧ (∀ u, w ≤ u → u < v → ¬ (¬ thg I h n nr u = 0 ∧ E (Int32.ofNat u) (-1) = 1)) ∧ f_X12_findCause (e + 7) 24 [.ref 219, .int off, .int (Int32.ofNat w), mU] [] (G, Jx, Kx) = some (.inl (some (.int 1)), (G, J', K')) ∧ J' 219 32 = Int32.ofNat v ∧ J' 219 33 = -1) ∨ ((∀ v, w ≤ v → v ≤ 46 → ¬ (¬ thg I h n nr v = 0 ∧ E (Int32.ofNat v) (-1) = 1)) ∧ f_X12_findCause (e + 7) 24 [.ref 219, .int off, .int (Int32.ofNat w), mU] [] (G, Jx, Kx) = f_X12_findCause (e + 7) 61 [.ref 219, .int off, mU, mU] [] (G, J', K'))) := by
  intro k
  induction k with
  | zero =>
    intro w hw Jx Kx qr j33
    have e48 : w = 48 := by omega
    refine ⟨Jx, Kx, qr, Or.inr ⟨fun v h1 h2 => by omega, ?_⟩⟩
    rw [e48, e_X12_findCause_24, if_pos (by decide)]
  | succ k ih =>
    intro w hw Jx Kx qr j33
    have lM := q.1
    have qu := QuR_up (v := Int32.ofNat w) (j := 32) qr (Or.inl rfl)
    have t := er_t q qu (w := w) (by omega)
    have j33' : va_up Jx 219 (va_up (Jx 219) 32 (Int32.ofNat w)) 219 33 = -1 := by rw [up_eq, up_ne (by decide)]; exact j33
    have j32' : va_up Jx 219 (va_up (Jx 219) 32 (Int32.ofNat w)) 219 32 = Int32.ofNat w := by rw [up_eq, up_eq]
    by_cases c : thg I h n nr w = 0
    · obtain ⟨J', K', a1, a2⟩ := ih (w + 1) (by omega) _ _ qu j33'
      have st : f_X12_findCause (e + 7) 24 [.ref 219, .int off, .int (Int32.ofNat w), mU] [] (G, Jx, Kx) = f_X12_findCause (e + 7) 24 [.ref 219, .int off, .int (Int32.ofNat (w + 1)), mU] [] (G, va_up Jx 219 (va_up (Jx 219) 32 (Int32.ofNat w)), Kx) := by
        rw [e_X12_findCause_24, if_neg (n48 (by omega))]
        simp only [↓vM lM, up2_e, ↓mcI_of t, if_pos c, e_X12_findCause_55, i_one]
      refine ⟨J', K', a1, ?_⟩
      rw [st]
      rcases a2 with ⟨v, v1, v2, v3, v4, v5⟩ | ⟨v1, v2⟩
      · refine Or.inl ⟨v, by omega, v2, v3, fun u h1 h2 => ?_, v5⟩
        by_cases eu : u = w
        · rw [eu]; exact fun p => p.1 c
        · exact v4 u (by omega) h2
      · refine Or.inr ⟨fun u h1 h2 => ?_, v2⟩
        by_cases eu : u = w
        · rw [eu]; exact fun p => p.1 c
        · exact v1 u (by omega) h2
    · have w46 : w ≤ 46 := by
        by_cases e47 : w = 47
        · exact absurd (by rw [e47]; exact thg_47 q.2.1.2.1) c
        · omega
      obtain ⟨f01, ex⟩ := q.2.2 (Int32.ofNat w) (-1) (Or.inr ⟨w, by omega, rfl, c⟩) (Or.inl rfl)
      obtain ⟨J1, K1, e1, e2, e3⟩ := ex _ _ qu
      by_cases cf : E (Int32.ofNat w) (-1) = 0
      · obtain ⟨J', K', a1, a2⟩ := ih (w + 1) (by omega) _ _ e2 (by rw [e3]; exact j33')
        have nf : ¬ E (Int32.ofNat w) (-1) = 1 := by rw [cf]; decide
        have st : f_X12_findCause (e + 7) 24 [.ref 219, .int off, .int (Int32.ofNat w), mU] [] (G, Jx, Kx) = f_X12_findCause (e + 7) 24 [.ref 219, .int off, .int (Int32.ofNat (w + 1)), mU] [] (G, J1, K1) := by
          rw [e_X12_findCause_24, if_neg (n48 (by omega))]
          simp only [↓vM lM, up2_e, ↓mcI_of t, if_neg c, ↓mcI_of e1, if_pos cf, e_X12_findCause_55, i_one]
        refine ⟨J', K', a1, ?_⟩
        rw [st]
        rcases a2 with ⟨v, v1, v2, v3, v4, v5⟩ | ⟨v1, v2⟩
        · refine Or.inl ⟨v, by omega, v2, v3, fun u h1 h2 => ?_, v5⟩
          by_cases eu : u = w
          · rw [eu]; exact fun p => nf p.2
          · exact v4 u (by omega) h2
        · refine Or.inr ⟨fun u h1 h2 => ?_, v2⟩
          by_cases eu : u = w
          · rw [eu]; exact fun p => nf p.2
          · exact v1 u (by omega) h2
      · have f1 : E (Int32.ofNat w) (-1) = 1 := by
          rcases f01 with p | p
          · exact absurd p cf
          · exact p
        refine ⟨J1, K1, e2, Or.inl ⟨w, Nat.le_refl _, w46, ⟨c, f1⟩, fun u h1 h2 => by omega, ?_, by rw [e3]; exact j32', by rw [e3]; exact j33'⟩⟩
        rw [e_X12_findCause_24, if_neg (n48 (by omega))]
        simp only [↓vM lM, up2_e, ↓mcI_of t, if_neg c, ↓mcI_of e1, if_neg cf, mb1]
theorem fr_2 {e x : Nat} {off : Int32} (q : ErR e off G I J K h nr n E) (hx : x ≤ 46) (hT : ¬ thg I h n nr x = 0) : ∀ k y, y + k = 48 → x < y → ∀ Jx Kx, QuR J Jx K Kx → ∃ J' K', QuR J J' K K' ∧ ((∃ v, y ≤ v ∧ v ≤ 46 ∧ (¬ thg I h n nr x = 0 ∧ ¬ thg I h n nr v = 0 ∧ E (Int32.ofNat x) (Int32.ofNat v) = 1) ∧ (∀ u, y ≤ u → u < v → ¬ (¬ thg I h n nr x = 0 ∧ ¬ thg I h n nr u = 0 ∧ E (Int32.ofNat x) (Int32.ofNat u) = 1)) ∧ f_X12_findCause (e + 7) 73 [.ref 219, .int off, .int (Int32.ofNat x), .int (Int32.ofNat y)] [] (G, Jx, Kx) = some (.inl (some (.int 1)), (G, J', K')) ∧ J' 219 32 = Int32.ofNat x ∧ J' 219 33 = Int32.ofNat v) ∨ ((∀ v, y ≤ v → v ≤ 46 → ¬ (¬ thg I h n nr x = 0 ∧ ¬ thg I h n nr v = 0 ∧ E (Int32.ofNat x) (Int32.ofNat v) = 1)) ∧ f_X12_findCause (e + 7) 73 [.ref 219, .int off, .int (Int32.ofNat x), .int (Int32.ofNat y)] [] (G, Jx, Kx) = f_X12_findCause (e + 7) 123 [.ref 219, .int off, .int (Int32.ofNat x), mU] [] (G, J', K'))) := by
  intro k
  induction k with
  | zero =>
    intro y hy hxy Jx Kx qr
    have e48 : y = 48 := by omega
    refine ⟨Jx, Kx, qr, Or.inr ⟨fun v h1 h2 => by omega, ?_⟩⟩
    rw [e48, e_X12_findCause_73, if_pos (by decide)]
  | succ k ih =>
    intro y hy hxy Jx Kx qr
    have lM := q.1
    have t0 := er_t q qr (w := x) (by omega)
    have qu := QuR_up (v := Int32.ofNat y) (j := 33) (QuR_up (v := Int32.ofNat x) (j := 32) qr (Or.inl rfl)) (Or.inr rfl)
    rw [up_eq, up_up] at qu
    have t := er_t q qu (w := y) (by omega)
    have j33' : va_up Jx 219 (va_up (va_up (Jx 219) 32 (Int32.ofNat x)) 33 (Int32.ofNat y)) 219 33 = Int32.ofNat y := by rw [up_eq, up_eq]
    have j32' : va_up Jx 219 (va_up (va_up (Jx 219) 32 (Int32.ofNat x)) 33 (Int32.ofNat y)) 219 32 = Int32.ofNat x := by rw [up_eq, up_ne (by decide), up_eq]
    by_cases c : thg I h n nr y = 0
    · obtain ⟨J', K', a1, a2⟩ := ih (y + 1) (by omega) (by omega) _ _ qu
      have st : f_X12_findCause (e + 7) 73 [.ref 219, .int off, .int (Int32.ofNat x), .int (Int32.ofNat y)] [] (G, Jx, Kx) = f_X12_findCause (e + 7) 73 [.ref 219, .int off, .int (Int32.ofNat x), .int (Int32.ofNat (y + 1))] [] (G, va_up Jx 219 (va_up (va_up (Jx 219) 32 (Int32.ofNat x)) 33 (Int32.ofNat y)), Kx) := by
        rw [e_X12_findCause_73, if_neg (n48 (by omega))]
        simp only [↓vM lM, ↓mcI_of t0, if_neg hT, up2_e, up_eq, up_up, ↓mcI_of t, if_pos c, e_X12_findCause_117, i_one]
      refine ⟨J', K', a1, ?_⟩
      rw [st]
      rcases a2 with ⟨v, v1, v2, v3, v4, v5⟩ | ⟨v1, v2⟩
      · refine Or.inl ⟨v, by omega, v2, v3, fun u h1 h2 => ?_, v5⟩
        by_cases eu : u = y
        · rw [eu]; exact fun p => p.2.1 c
        · exact v4 u (by omega) h2
      · refine Or.inr ⟨fun u h1 h2 => ?_, v2⟩
        by_cases eu : u = y
        · rw [eu]; exact fun p => p.2.1 c
        · exact v1 u (by omega) h2
    · have w46 : y ≤ 46 := by
        by_cases e47 : y = 47
        · exact absurd (by rw [e47]; exact thg_47 q.2.1.2.1) c
        · omega
      obtain ⟨f01, ex⟩ := q.2.2 (Int32.ofNat x) (Int32.ofNat y) (Or.inr ⟨x, by omega, rfl, hT⟩) (Or.inr ⟨y, by omega, rfl, c⟩)
      obtain ⟨J1, K1, e1, e2, e3⟩ := ex _ _ qu
      by_cases cf : E (Int32.ofNat x) (Int32.ofNat y) = 0
      · obtain ⟨J', K', a1, a2⟩ := ih (y + 1) (by omega) (by omega) _ _ e2
        have nf : ¬ E (Int32.ofNat x) (Int32.ofNat y) = 1 := by rw [cf]; decide
        have st : f_X12_findCause (e + 7) 73 [.ref 219, .int off, .int (Int32.ofNat x), .int (Int32.ofNat y)] [] (G, Jx, Kx) = f_X12_findCause (e + 7) 73 [.ref 219, .int off, .int (Int32.ofNat x), .int (Int32.ofNat (y + 1))] [] (G, J1, K1) := by
          rw [e_X12_findCause_73, if_neg (n48 (by omega))]
          simp only [↓vM lM, ↓mcI_of t0, if_neg hT, up2_e, up_eq, up_up, ↓mcI_of t, if_neg c, ↓mcI_of e1, if_pos cf, e_X12_findCause_117, i_one]
        refine ⟨J', K', a1, ?_⟩
        rw [st]
        rcases a2 with ⟨v, v1, v2, v3, v4, v5⟩ | ⟨v1, v2⟩
        · refine Or.inl ⟨v, by omega, v2, v3, fun u h1 h2 => ?_, v5⟩
          by_cases eu : u = y
          · rw [eu]; exact fun p => nf p.2.2
          · exact v4 u (by omega) h2
        · refine Or.inr ⟨fun u h1 h2 => ?_, v2⟩
          by_cases eu : u = y
          · rw [eu]; exact fun p => nf p.2.2
          · exact v1 u (by omega) h2
      · have f1 : E (Int32.ofNat x) (Int32.ofNat y) = 1 := by
          rcases f01 with p | p
          · exact absurd p cf
          · exact p
        refine ⟨J1, K1, e2, Or.inl ⟨y, Nat.le_refl _, w46, ⟨hT, c, f1⟩, fun u h1 h2 => by omega, ?_, by rw [e3]; exact j32', by rw [e3]; exact j33'⟩⟩
        rw [e_X12_findCause_73, if_neg (n48 (by omega))]
        simp only [↓vM lM, ↓mcI_of t0, if_neg hT, up2_e, up_eq, up_up, ↓mcI_of t, if_neg c, ↓mcI_of e1, if_neg cf, mb1]
/-- a search's answer -/
def aw (k : Int32) (b : Int32) (J : Nat → Nat → Int32) : Int32 := if b = 0 then -2 else if k = 0 then J 219 32 else J 219 33
theorem fr_3 {e : Nat} {off kd : Int32} (q : ErR e off G I J K h nr n E) : ∀ k x, x + k = 48 → ∀ Jx Kx, QuR J Jx K Kx → ∃ b J' K', (b = 0 ∨ b = 1) ∧ QuR J J' K K' ∧ f_X12_findCause (e + 7) 63 [.ref 219, .int off, .int (Int32.ofNat x), mU] [] (G, Jx, Kx) = some (.inl (some (.int b)), (G, J', K')) ∧ LeP (fun x y => ¬ thg I h n nr x = 0 ∧ ¬ thg I h n nr y = 0 ∧ E (Int32.ofNat x) (Int32.ofNat y) = 1) kd x (aw kd b J') := by
  intro k
  induction k with
  | zero =>
    intro x hx Jx Kx qr
    have e48 : x = 48 := by omega
    refine ⟨0, Jx, Kx, Or.inl rfl, qr, ?_, Or.inr ⟨rfl, fun u v h1 h2 h3 => by omega⟩⟩
    rw [e48, e_X12_findCause_63, if_pos (by decide), e_X12_findCause_129, mb0]
  | succ k ih =>
    intro x hx Jx Kx qr
    have lM := q.1
    have nxt : ∀ J1 K1, QuR J J1 K K1 → (∀ v, x < v → v ≤ 46 → ¬ (¬ thg I h n nr x = 0 ∧ ¬ thg I h n nr v = 0 ∧ E (Int32.ofNat x) (Int32.ofNat v) = 1)) → f_X12_findCause (e + 7) 73 [.ref 219, .int off, .int (Int32.ofNat x), .int (Int32.ofNat (x + 1))] [] (G, Jx, Kx) = f_X12_findCause (e + 7) 123 [.ref 219, .int off, .int (Int32.ofNat x), mU] [] (G, J1, K1) → ∃ b J' K', (b = 0 ∨ b = 1) ∧ QuR J J' K K' ∧ f_X12_findCause (e + 7) 63 [.ref 219, .int off, .int (Int32.ofNat x), mU] [] (G, Jx, Kx) = some (.inl (some (.int b)), (G, J', K')) ∧ LeP (fun x y => ¬ thg I h n nr x = 0 ∧ ¬ thg I h n nr y = 0 ∧ E (Int32.ofNat x) (Int32.ofNat y) = 1) kd x (aw kd b J') := by
      intro J1 K1 q1 no st
      obtain ⟨b, J', K', b0, b1, b2, b3⟩ := ih (x + 1) (by omega) J1 K1 q1
      refine ⟨b, J', K', b0, b1, ?_, ?_⟩
      · rw [e_X12_findCause_63, if_neg (n48 (by omega)), i_one, st, e_X12_findCause_123, i_one]
        exact b2
      · rcases b3 with ⟨u, v, c1, c2, c3, c4, c5, c6, c7⟩ | ⟨c1, c2⟩
        · refine Or.inl ⟨u, v, by omega, c2, c3, c4, c5, fun u' h1 h2 v' h3 h4 => ?_, c7⟩
          by_cases eu : u' = x
          · rw [eu]; exact no v' (by omega) h4
          · exact c6 u' (by omega) h2 v' h3 h4
        · refine Or.inr ⟨c1, fun u' v' h1 h2 h3 => ?_⟩
          by_cases eu : u' = x
          · rw [eu]; exact no v' (by omega) h3
          · exact c2 u' v' (by omega) h2 h3
    by_cases c : thg I h n nr x = 0
    · refine nxt Jx Kx qr (fun v _ _ p => p.1 c) ?_
      rw [e_X12_findCause_73]
      by_cases c47 : x = 47
      · rw [if_pos (by rw [c47]; decide)]
      · have t0 := er_t q qr (w := x) (by omega)
        rw [if_neg (n48 (by omega))]
        simp only [↓vM lM, ↓mcI_of t0, if_pos c]
    · have w46 : x ≤ 46 := by
        by_cases e47 : x = 47
        · exact absurd (by rw [e47]; exact thg_47 q.2.1.2.1) c
        · omega
      obtain ⟨J1, K1, q1, r1⟩ := fr_2 q w46 c (47 - x) (x + 1) (by omega) (by omega) Jx Kx qr
      rcases r1 with ⟨v, v1, v2, v3, v4, v5, v6, v7⟩ | ⟨v1, v2⟩
      · refine ⟨1, J1, K1, Or.inr rfl, q1, ?_, Or.inl ⟨x, v, Nat.le_refl _, by omega, v2, v3, fun u h1 h2 => v4 u (by omega) h2, fun u h1 h2 => by omega, ?_⟩⟩
        · rw [e_X12_findCause_63, if_neg (n48 (by omega)), i_one]
          exact v5
        · unfold aw
          rw [if_neg (by decide), v6, v7]
      · exact nxt J1 K1 q1 (fun v h1 h2 => v1 v (by omega) h2) v2
/-- the reference's search -/
theorem fr_c {e : Nat} {off kd : Int32} (q : ErR e off G I J K h nr n E) : ∃ b J' K', (b = 0 ∨ b = 1) ∧ QuR J J' K K' ∧ mcal mT (e + 8) 249 [.ref 219, .int off] (G, J, K) = some (.inl (some (.int b)), (G, J', K')) ∧ Fnd (E (-1) (-1) = 1) (fun w => ¬ thg I h n nr w = 0 ∧ E (Int32.ofNat w) (-1) = 1) (fun x y => ¬ thg I h n nr x = 0 ∧ ¬ thg I h n nr y = 0 ∧ E (Int32.ofNat x) (Int32.ofNat y) = 1) kd (aw kd b J') := by
  have lM := q.1
  have qu := QuR_up (v := -1) (j := 33) (QuR_up (v := -1) (j := 32) (QuR_i (J := J) (K := K)) (Or.inl rfl)) (Or.inr rfl)
  rw [up_eq, up_up] at qu
  have j33' : va_up J 219 (va_up (va_up (J 219) 32 (-1)) 33 (-1)) 219 33 = -1 := by rw [up_eq, up_eq]
  have j32' : va_up J 219 (va_up (va_up (J 219) 32 (-1)) 33 (-1)) 219 32 = -1 := by rw [up_eq, up_ne (by decide), up_eq]
  obtain ⟨f01, ex⟩ := q.2.2 (-1) (-1) (Or.inl rfl) (Or.inl rfl)
  obtain ⟨J1, K1, e1, e2, e3⟩ := ex _ _ qu
  by_cases cf : E (-1) (-1) = 0
  · have nf : ¬ E (-1) (-1) = 1 := by rw [cf]; decide
    have st : mcal mT (e + 8) 249 [.ref 219, .int off] (G, J, K) = f_X12_findCause (e + 7) 24 [.ref 219, .int off, .int (Int32.ofNat 0), mU] [] (G, J1, K1) := by
      rw [q_X12_findCause_, e_X12_findCause_0]
      simp only [↓vM lM, up2_e, up_eq, up_up, ↓mcI_of e1, if_pos cf, e_X12_findCause_22]
      rfl
    obtain ⟨J2, K2, q2, r2⟩ := fr_1 q 48 0 (by decide) J1 K1 e2 (by rw [e3]; exact j33')
    rcases r2 with ⟨v, v1, v2, v3, v4, v5, v6, v7⟩ | ⟨v1, v2⟩
    · refine ⟨1, J2, K2, Or.inr rfl, q2, by rw [st]; exact v5, Or.inr ⟨nf, Or.inl ⟨v, v2, v3, fun u hu => v4 u (by omega) hu, ?_⟩⟩⟩
      unfold aw
      rw [if_neg (by decide), v6, v7]
    · obtain ⟨b, J3, K3, b0, b1, b2, b3⟩ := fr_3 (kd := kd) q 48 0 (by decide) J2 K2 q2
      refine ⟨b, J3, K3, b0, b1, ?_, Or.inr ⟨nf, Or.inr ⟨fun w hw => v1 w (by omega) hw, b3⟩⟩⟩
      rw [st, v2, e_X12_findCause_61]
      exact b2
  · have f1 : E (-1) (-1) = 1 := by
      rcases f01 with p | p
      · exact absurd p cf
      · exact p
    refine ⟨1, J1, K1, Or.inr rfl, e2, ?_, Or.inl ⟨f1, ?_⟩⟩
    · rw [q_X12_findCause_, e_X12_findCause_0]
      simp only [↓vM lM, up2_e, up_eq, up_up, ↓mcI_of e1, if_neg cf, mb1]
    · unfold aw
      rw [if_neg (by decide), e3, e3, j32', j33', ite_self]
end
