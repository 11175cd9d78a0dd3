/-! the search for a cause -/
/-- a heap of the class between trials -/
def GH (h hs bl bs cl cs kc : Nat) (mk : Nat → Nat) (G : mG) (I : Nat → Nat → Int32) (L : Nat → Nat → Int64) (Gx : mG) (Ix : Nat → Nat → Int32) (Lx : Nat → Nat → Int64) : Prop := LyR Gx h hs bl bs cl cs kc mk ∧ Gx.1 = G.1 ∧ Gx.2.1 = G.2.1 ∧ gN Gx 0 = gN G 0 ∧ QuC I Ix L Lx
/-- the least from y to 46 with P -/
def Lea (P : Nat → Prop) (y : Nat) (r : Int32) : Prop := (∃ w, y ≤ w ∧ w ≤ 46 ∧ r = Int32.ofNat w ∧ P w ∧ ∀ v, y ≤ v → v < w → ¬ P v) ∨ (r = -1 ∧ ∀ v, y ≤ v → v ≤ 46 → ¬ P v)
section
variable {G G2 : mG} {I J : Nat → Nat → Int32} {L K : Nat → Nat → Int64} {h hs bl bs cl cs nr n nh M kc lc : Nat} {rm pi mk : Nat → Nat}
theorem GH_s {Gx : mG} {Ix I' : Nat → Nat → Int32} {Lx L' : Nat → Nat → Int64} (a : GH h hs bl bs cl cs kc mk G I L Gx Ix Lx) (b : QuC Ix I' Lx L') : GH h hs bl bs cl cs kc mk G I L (gS Gx 156 0 (some h)) I' L' := by
  obtain ⟨a1, a2, a3, a4, a5⟩ := a
  exact ⟨(LyR_T a1 h).1, a2, a3, a4, QuC_t a5 b⟩
theorem ca_E (d e : Nat) (off : Int32) (q : LyR G h hs bl bs cl cs kc mk) (lM : LayM G2 219) (hb : 103 ≤ h ∧ h + 14 ≤ 132) (hB : BsR I J L K h nr n nh M rm pi) (hr2 : ∀ r, r < nr → I (h + 2) r = J 220 (8 + r) ∧ irng (J 220 (8 + r)) 0 4000) (hl : LgR I lc nr) (j28 : J 219 28 = Int32.ofNat lc) (j31 : J 231 = I 231) (j32 : J 232 = I 232) (j33 : J 233 = I 233) : ∃ E : Int32 → Int32 → Int32, ∀ x1 x2, OkT I h n nr x1 → OkT I h n nr x2 → (E x1 x2 = 0 ∨ E x1 x2 = 1) ∧ (∀ Gx Ix Lx, GH h hs bl bs cl cs kc mk G I L Gx Ix Lx → ∃ G' I' L', mcal mT (d + 7) 135 [.ref 100, .int (jmin x1 x2), .int (jmax x1 x2), .int off] (Gx, Ix, Lx) = some (.inl (some (.int (E x1 x2))), (G', I', L')) ∧ GH h hs bl bs cl cs kc mk G I L G' I' L') ∧ (∀ Jx Kx, QuR J Jx K Kx → ∃ J' K', mcal mT (e + 7) 247 [.ref 219, .int x1, .int x2, .int off] (G2, Jx, Kx) = some (.inl (some (.int (E x1 x2))), (G2, J', K')) ∧ QuR J J' K K' ∧ ∀ k, J' 219 k = Jx 219 k) := by
  have key : ∀ x1 x2, OkT I h n nr x1 → OkT I h n nr x2 → ∃ b : Int32, (b = 0 ∨ b = 1) ∧ (∃ J' K', mcal mT (e + 7) 247 [.ref 219, .int x1, .int x2, .int off] (G2, J, K) = some (.inl (some (.int b)), (G2, J', K'))) ∧ (∀ Gx Ix Lx, GH h hs bl bs cl cs kc mk G I L Gx Ix Lx → ∃ G' I' L', mcal mT (d + 7) 135 [.ref 100, .int (jmin x1 x2), .int (jmax x1 x2), .int off] (Gx, Ix, Lx) = some (.inl (some (.int b)), (G', I', L')) ∧ GH h hs bl bs cl cs kc mk G I L G' I' L') ∧ (∀ Jx Kx, QuR J Jx K Kx → ∃ J' K', mcal mT (e + 7) 247 [.ref 219, .int x1, .int x2, .int off] (G2, Jx, Kx) = some (.inl (some (.int b)), (G2, J', K')) ∧ QuR J J' K K' ∧ ∀ k, J' 219 k = Jx 219 k) := by
    intro x1 x2 o1 o2
    obtain ⟨b, I0, L0, J0, K0, a1, a2, -, -, a5, -⟩ := ex_pair d e (G2 := G2) x1 x2 off q lM hb hB hr2 hl j28 j31 j32 j33 o1 o2
    refine ⟨b, a5, ⟨J0, K0, a2⟩, fun Gx Ix Lx gh => ?_, fun Jx Kx qr => ?_⟩
    · obtain ⟨g1, -, -, -, g5⟩ := id gh
      have fr : ∀ a, ¬ (171 ≤ a ∧ a < 195) → Ix a = I a := g5.1
      have ok : ∀ x, OkT I h n nr x → OkT Ix h n nr x := by
        intro x hx
        rcases hx with p | ⟨w, w1, w2, w3⟩
        · exact Or.inl p
        · refine Or.inr ⟨w, w1, w2, ?_⟩
          have : ∀ k, tap Ix h n k = tap I h n k := fun k => by unfold tap; rw [fr (h + 12) (by omega)]
          unfold thg at w3 ⊢
          rw [this, this]
          exact w3
      obtain ⟨b', I', L', J2, K2, c1, c2, c3, -⟩ := ex_pair d e (G2 := G2) x1 x2 off g1 lM hb (BsR_i hB hb g5) (by rw [fr (h + 2) (by omega)]; exact hr2) (LgR_c hl (by rw [fr 100 (by decide)]) (by rw [fr 219 (by decide)]) (fr 218 (by decide)) (fr 231 (by decide)) (fr 232 (by decide)) (fr 233 (by decide))) j28 (by rw [fr 231 (by decide)]; exact j31) (by rw [fr 232 (by decide)]; exact j32) (by rw [fr 233 (by decide)]; exact j33) (ok x1 o1) (ok x2 o2)
      obtain ⟨rfl, -⟩ := some_i a2 c2
      exact ⟨_, I', L', c1, GH_s gh c3⟩
    · obtain ⟨r1, r2, r3, r4, r5⟩ := id qr
      obtain ⟨b', I2, L2, J', K', c1, c2, -, c4, -, c6⟩ := ex_pair d e (G2 := G2) x1 x2 off q lM hb (BsR_j hB qr) (by rw [r1 220 (by decide) (by decide) (by decide) (by decide) (by decide)]; exact hr2) hl (by rw [r2 28 (by decide) (by decide) (by decide) (by decide) (by decide)]; exact j28) (by rw [r1 231 (by decide) (by decide) (by decide) (by decide) (by decide)]; exact j31) (by rw [r1 232 (by decide) (by decide) (by decide) (by decide) (by decide)]; exact j32) (by rw [r1 233 (by decide) (by decide) (by decide) (by decide) (by decide)]; exact j33) o1 o2
      obtain ⟨rfl, -⟩ := some_i a1 c1
      exact ⟨J', K', c2, QuR_t qr c4, c6⟩
  refine ⟨fun x1 x2 => match mcal mT (e + 7) 247 [.ref 219, .int x1, .int x2, .int off] (G2, J, K) with | some (.inl (some (.int b)), _) => b | _ => 0, fun x1 x2 o1 o2 => ?_⟩
  obtain ⟨b, b1, ⟨J0, K0, b2⟩, b3, b4⟩ := key x1 x2 o1 o2
  dsimp only
  rw [b2]
  exact ⟨b1, b3, b4⟩
/-- the class's search for a partner -/
theorem fp_c (d : Nat) (a off : Int32) {F : Nat → Int32} {y0 : Nat} (hb : 103 ≤ h ∧ h + 14 ≤ 132) (s1 : I h 1 = Int32.ofNat nr) (s3 : nr ≤ 8) (s4 : I h 10 = Int32.ofNat n) (s6 : n ≤ 8) (hE : ∀ y, y0 ≤ y → y ≤ 46 → ¬ thg I h n nr y = 0 → (F y = 0 ∨ F y = 1) ∧ ∀ Gx Ix Lx, GH h hs bl bs cl cs kc mk G I L Gx Ix Lx → ∃ G' I' L', mcal mT (d + 7) 135 [.ref 100, .int a, .int (Int32.ofNat y), .int off] (Gx, Ix, Lx) = some (.inl (some (.int (F y))), (G', I', L')) ∧ GH h hs bl bs cl cs kc mk G I L G' I' L') : ∀ k y, y + k = 47 → y0 ≤ y → ∀ Gx Ix Lx, GH h hs bl bs cl cs kc mk G I L Gx Ix Lx → ∃ r G' I' L', f_X11_firstPartner (d + 7) 5 [.ref 100, .int a, mU, .int off, .int (Int32.ofNat y)] [] (Gx, Ix, Lx) = some (.inl (some (.int r)), (G', I', L')) ∧ GH h hs bl bs cl cs kc mk G I L G' I' L' ∧ Lea (fun y => ¬ thg I h n nr y = 0 ∧ F y = 1) y r := by
  intro k
  induction k with
  | zero =>
    intro y hy h0 Gx Ix Lx gh
    have e : y = 47 := by omega
    refine ⟨-1, Gx, Ix, Lx, ?_, gh, Or.inr ⟨rfl, fun v h1 h2 => by omega⟩⟩
    rw [e, e_X11_firstPartner_5, if_pos (by decide), e_X11_firstPartner_47]
  | succ k ih =>
    intro y hy h0 Gx Ix Lx gh
    obtain ⟨ly, -, -, -, qc⟩ := id gh
    obtain ⟨lB, -, lP, -, ⟨lH1, lH2⟩, -⟩ := id ly
    have hh := ly.2.2.2.2.2.2.2.2.2.2.2.2.2.2.1
    have lH : LayH Gx h := by
      rcases hh with ⟨a, -⟩ | ⟨a, -⟩
      · rw [a]; exact lH1
      · rw [a]; exact lH2
    have fr : ∀ x, h ≤ x → x < h + 14 → Ix x = I x := fun x h1 h2 => qc.1 x (by omega)
    have tg : thg Ix h n nr y = thg I h n nr y := by
      have : ∀ k, tap Ix h n k = tap I h n k := fun k => by unfold tap; rw [fr (h + 12) (by omega) (by omega)]
      unfold thg
      rw [this, this]
    have t := c_hasThing (d + 5) (G := Gx) (I := Ix) (L := Lx) (n := n) (r := nr) (w := y) lH (by rw [fr h (by omega) (by omega)]; exact s4) s6 (by rw [fr h (by omega) (by omega)]; exact s1) s3 (by omega)
    rw [tg] at t
    have c46 : ¬ (46 : Int32) < Int32.ofNat y := fun p => by have := (i_lt (a := 46) (by decide) (by omega)).mp p; omega
    by_cases c : thg I h n nr y = 0
    · obtain ⟨r, G', I', L', a1, a2, a3⟩ := ih (y + 1) (by omega) (by omega) Gx Ix Lx gh
      refine ⟨r, G', I', L', ?_, a2, ?_⟩
      · rw [e_X11_firstPartner_5, if_neg c46]
        simp only [↓vB lB, ↓vP lP, ↓vH lH, ↓mcI_of t, if_pos c, e_X11_firstPartner_41, i_one]
        exact a1
      · rcases a3 with ⟨w, w1, w2, w3, w4, w5⟩ | ⟨w1, w2⟩
        · refine Or.inl ⟨w, by omega, w2, w3, w4, fun v h1 h2 => ?_⟩
          by_cases e : v = y
          · rw [e]; exact fun p => p.1 c
          · exact w5 v (by omega) h2
        · refine Or.inr ⟨w1, fun v h1 h2 => ?_⟩
          by_cases e : v = y
          · rw [e]; exact fun p => p.1 c
          · exact w2 v (by omega) h2
    · obtain ⟨f01, ex⟩ := hE y h0 (by omega) c
      obtain ⟨G1, I1, L1, e1, e2⟩ := ex Gx Ix Lx gh
      by_cases cf : F y = 0
      · obtain ⟨r, G', I', L', a1, a2, a3⟩ := ih (y + 1) (by omega) (by omega) G1 I1 L1 e2
        refine ⟨r, G', I', L', ?_, a2, ?_⟩
        · rw [e_X11_firstPartner_5, if_neg c46]
          simp only [↓vB lB, ↓vP lP, ↓vH lH, ↓mcI_of t, if_neg c, ↓mcI_of e1, if_pos cf, e_X11_firstPartner_41, i_one]
          exact a1
        · have nf : ¬ F y = 1 := by rw [cf]; decide
          rcases a3 with ⟨w, w1, w2, w3, w4, w5⟩ | ⟨w1, w2⟩
          · refine Or.inl ⟨w, by omega, w2, w3, w4, fun v h1 h2 => ?_⟩
            by_cases e : v = y
            · rw [e]; exact fun p => nf p.2
            · exact w5 v (by omega) h2
          · refine Or.inr ⟨w1, fun v h1 h2 => ?_⟩
            by_cases e : v = y
            · rw [e]; exact fun p => nf p.2
            · exact w2 v (by omega) h2
      · refine ⟨Int32.ofNat y, G1, I1, L1, ?_, e2, Or.inl ⟨y, Nat.le_refl _, by omega, rfl, ⟨c, ?_⟩, fun v h1 h2 => by omega⟩⟩
        · rw [e_X11_firstPartner_5, if_neg c46]
          simp only [↓vB lB, ↓vP lP, ↓vH lH, ↓mcI_of t, if_neg c, ↓mcI_of e1, if_neg cf]
        · rcases f01 with p | p
          · exact absurd p cf
          · exact p
end
