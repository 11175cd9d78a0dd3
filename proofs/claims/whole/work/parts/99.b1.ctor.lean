/-! constructors: marks -/
def Sam (G G' : mG) (s w : Nat) : Prop := ∀ a, s ≤ a → a < s + w → gK G' a = gK G a ∧ gN G' a = gN G a ∧ gR G' a = gR G a
theorem Sam_t {G G' G2 : mG} {s w : Nat} (p : Sam G G' s w) (q : Sam G' G2 s w) : Sam G G2 s w := fun a h1 h2 => ⟨(q a h1 h2).1.trans (p a h1 h2).1, (q a h1 h2).2.1.trans (p a h1 h2).2.1, (q a h1 h2).2.2.trans (p a h1 h2).2.2⟩
theorem Sam_S {G : mG} {s w a k : Nat} {v : Option Nat} (h : a < s ∨ s + w ≤ a) : Sam G (gS G a k v) s w := fun b h1 h2 => ⟨rfl, rfl, by rw [rS, up_ne (by omega)]⟩
theorem Sam_A {G : mG} {s w t n m : Nat} (h : s + w ≤ G.1) : Sam G (gA G t n m) s w := fun b h1 h2 => ⟨by rw [kA, up_ne (by omega)], by rw [nA, up_ne (by omega)], by rw [rA, up_ne (by omega)]⟩
theorem Sam_N {x w sl s v : Nat} {G G' : mG} {I I' : Nat → Nat → Int32} {L L' : Nat → Nat → Int64} (p : Nwo x w sl G G' I I' L L') (h : s + v ≤ x) : Sam G G' s v := fun b h1 h2 => ⟨(p.2.2.1 b (by omega)).1, (p.2.2.1 b (by omega)).2.1, (p.2.2.1 b (by omega)).2.2.1⟩
theorem LayH_m {G G' : mG} {h : Nat} (g : Sam G G' h 14) (q : LayH G h) : LayH G' h := by
  have gk : ∀ a, h ≤ a → a < h + 14 → gK G' a = gK G a := fun a h1 h2 => (g a h1 h2).1
  have gn : ∀ a, h ≤ a → a < h + 14 → gN G' a = gN G a := fun a h1 h2 => (g a h1 h2).2.1
  have gr : ∀ a, h ≤ a → a < h + 14 → gR G' a = gR G a := fun a h1 h2 => (g a h1 h2).2.2
  unfold LayH at q ⊢
  simp (disch := omega) only [gk, gn, gr]
  exact q
theorem LayS_m {G G' : mG} {s : Nat} (g : Sam G G' s 7) (q : LayS G s) : LayS G' s := by
  have gk : ∀ a, s ≤ a → a < s + 7 → gK G' a = gK G a := fun a h1 h2 => (g a h1 h2).1
  have gn : ∀ a, s ≤ a → a < s + 7 → gN G' a = gN G a := fun a h1 h2 => (g a h1 h2).2.1
  have gr : ∀ a, s ≤ a → a < s + 7 → gR G' a = gR G a := fun a h1 h2 => (g a h1 h2).2.2
  unfold LayS at q ⊢
  simp (disch := omega) only [gk, gn, gr]
  exact q
theorem LayT_m {G G' : mG} {t : Nat} (g : Sam G G' t 14) (q : LayT G t) : LayT G' t := by
  have gk : ∀ a, t ≤ a → a < t + 14 → gK G' a = gK G a := fun a h1 h2 => (g a h1 h2).1
  have gn : ∀ a, t ≤ a → a < t + 14 → gN G' a = gN G a := fun a h1 h2 => (g a h1 h2).2.1
  have gr : ∀ a, t ≤ a → a < t + 14 → gR G' a = gR G a := fun a h1 h2 => (g a h1 h2).2.2
  unfold LayT at q ⊢
  simp (disch := omega) only [gk, gn, gr]
  exact q
theorem LayU_m {G G' : mG} {u : Nat} (g : Sam G G' u 3) (q : LayU G u) : LayU G' u := by
  have gk : ∀ a, u ≤ a → a < u + 3 → gK G' a = gK G a := fun a h1 h2 => (g a h1 h2).1
  have gn : ∀ a, u ≤ a → a < u + 3 → gN G' a = gN G a := fun a h1 h2 => (g a h1 h2).2.1
  have gr : ∀ a, u ≤ a → a < u + 3 → gR G' a = gR G a := fun a h1 h2 => (g a h1 h2).2.2
  unfold LayU at q ⊢
  simp (disch := omega) only [gk, gn, gr]
  exact q
theorem LayD_m {G G' : mG} {e : Nat} (g : Sam G G' e 3) (q : LayD G e) : LayD G' e := by
  have gk : ∀ a, e ≤ a → a < e + 3 → gK G' a = gK G a := fun a h1 h2 => (g a h1 h2).1
  have gn : ∀ a, e ≤ a → a < e + 3 → gN G' a = gN G a := fun a h1 h2 => (g a h1 h2).2.1
  have gr : ∀ a, e ≤ a → a < e + 3 → gR G' a = gR G a := fun a h1 h2 => (g a h1 h2).2.2
  unfold LayD at q ⊢
  simp (disch := omega) only [gk, gn, gr]
  exact q
theorem LayX_m {G G' : mG} {x : Nat} (g : Sam G G' x 2) (q : LayX G x) : LayX G' x := by
  have gk : ∀ a, x ≤ a → a < x + 2 → gK G' a = gK G a := fun a h1 h2 => (g a h1 h2).1
  have gn : ∀ a, x ≤ a → a < x + 2 → gN G' a = gN G a := fun a h1 h2 => (g a h1 h2).2.1
  have gr : ∀ a, x ≤ a → a < x + 2 → gR G' a = gR G a := fun a h1 h2 => (g a h1 h2).2.2
  unfold LayX at q ⊢
  simp (disch := omega) only [gk, gn, gr]
  exact q
theorem LayC_m {G G' : mG} {c : Nat} (g : Sam G G' c 3) (q : LayC G c) : LayC G' c := by
  have gk : ∀ a, c ≤ a → a < c + 3 → gK G' a = gK G a := fun a h1 h2 => (g a h1 h2).1
  have gn : ∀ a, c ≤ a → a < c + 3 → gN G' a = gN G a := fun a h1 h2 => (g a h1 h2).2.1
  have gr : ∀ a, c ≤ a → a < c + 3 → gR G' a = gR G a := fun a h1 h2 => (g a h1 h2).2.2
  unfold LayC at q ⊢
  simp (disch := omega) only [gk, gn, gr]
  exact q
theorem LayM_m {G G' : mG} {m : Nat} (g : Sam G G' m 32) (q : LayM G m) : LayM G' m := by
  have gk : ∀ a, m ≤ a → a < m + 32 → gK G' a = gK G a := fun a h1 h2 => (g a h1 h2).1
  have gn : ∀ a, m ≤ a → a < m + 32 → gN G' a = gN G a := fun a h1 h2 => (g a h1 h2).2.1
  have gr : ∀ a, m ≤ a → a < m + 32 → gR G' a = gR G a := fun a h1 h2 => (g a h1 h2).2.2
  unfold LayM at q ⊢
  simp (disch := omega) only [gk, gn, gr]
  exact q
theorem n_K (d : Nat) {G : mG} {I : Nat → Nat → Int32} {L : Nat → Nat → Int64} {x : Nat} (hk : gK G x = 6) (hx : G.1 = x + 1) : ∃ G' I' L', mcal mT (d + 2) 51 [.ref x] (G, I, L) = some (.inl none, (G', I', L')) ∧ LayK G' x ∧ G'.1 = x + 25 ∧ G'.2.1 = G.2.1 + 2946 ∧ ∀ a, a < x → gK G' a = gK G a ∧ gN G' a = gN G a ∧ gR G' a = gR G a ∧ I' a = I a ∧ L' a = L a := by
  obtain ⟨G2, I2, L2, e2, l2, p2, -⟩ := n_S d (G := gA G 8 0 11) (I := va_up I G.1 (fun _ => 0)) (L := va_up L G.1 (fun _ => 0)) (x := x + 1) (by rw [kA, hx, up_eq]) (by rw [A1, hx])
  have k2 : gK G2 x = 6 := by rw [(p2.2.2.1 x (by omega)).1, kA, up_ne (by omega)]; exact hk
  have g2 : G2.1 = x + 8 := p2.1
  obtain ⟨G4, I4, L4, e4, l4, p4, -⟩ := n_T d (G := gA (gS G2 x 0 (some (x + 1))) 9 0 19) (I := va_up I2 G2.1 (fun _ => 0)) (L := va_up L2 G2.1 (fun _ => 0)) (x := x + 8) (by rw [kA, S1, g2, up_eq]) (by rw [A1, S1, g2])
  have k4 : gK G4 x = 6 := by rw [(p4.2.2.1 x (by omega)).1, kA, S1, up_ne (by omega), kS]; exact k2
  have g4 : G4.1 = x + 22 := p4.1
  obtain ⟨G6, I6, L6, e6, l6, p6, -⟩ := n_D d (G := gA (gS G4 x 1 (some (x + 8))) 4 0 4) (I := va_up I4 G4.1 (fun _ => 0)) (L := va_up L4 G4.1 (fun _ => 0)) (x := x + 22) (by rw [kA, S1, g4, up_eq]) (by rw [A1, S1, g4])
  have k6 : gK G6 x = 6 := by rw [(p6.2.2.1 x (by omega)).1, kA, S1, up_ne (by omega), kS]; exact k4
  refine ⟨gS G6 x 2 (some (x + 22)), I6, L6, ?_, ?_, ?_, ?_, ?_⟩
  · rw [q_X5_init_, e_X5_init_0]
    unfold malo hA
    rw [hx] at e2
    have a1 : gK (gA G 8 0 11) (x + 1) = 8 := by rw [kA, hx, up_eq]
    have a2 : gK (gA (gS G2 x 0 (some (x + 1))) 9 0 19) (x + 8) = 9 := by rw [kA, S1, g2, up_eq]
    have a3 : gK (gA (gS G4 x 1 (some (x + 8))) 4 0 4) (x + 22) = 4 := by rw [kA, S1, g4, up_eq]
    rw [g2] at e4
    rw [g4] at e6
    simp only [hx, gk_t a1, ↓mcV_of e2, gk_t k2, S1, g2, gk_t a2, ↓mcV_of e4, gk_t k4, g4, gk_t a3, ↓mcV_of e6, gk_t k6]
  · refine ⟨by rw [kS]; exact k6, ?_, ?_, ?_, ?_, ?_, ?_⟩
    · rw [rS, up_eq, up_ne (by decide), (p6.2.2.1 x (by omega)).2.2.1, rA, S1, up_ne (by omega), rS, up_eq, up_ne (by decide), (p4.2.2.1 x (by omega)).2.2.1, rA, S1, up_ne (by omega), rS, up_eq, up_eq]
    · rw [rS, up_eq, up_ne (by decide), (p6.2.2.1 x (by omega)).2.2.1, rA, S1, up_ne (by omega), rS, up_eq, up_eq]
    · rw [rS, up_eq, up_eq]
    · exact LayS_m (Sam_t (Sam_t (Sam_t (Sam_S (by omega)) (Sam_A (by rw [S1]; omega))) (Sam_N p4 (by omega))) (Sam_t (Sam_t (Sam_t (Sam_S (by omega)) (Sam_A (by rw [S1]; omega))) (Sam_N p6 (by omega))) (Sam_S (by omega)))) l2
    · exact LayT_m (Sam_t (Sam_t (Sam_t (Sam_S (by omega)) (Sam_A (by rw [S1]; omega))) (Sam_N p6 (by omega))) (Sam_S (by omega))) l4
    · exact LayD_m (Sam_S (by omega)) l6
  · rw [S1, p6.1]
  · have b2 : G2.2.1 = G.2.1 + 11 + 68 := p2.2.1
    have b4 : G4.2.1 = G2.2.1 + 19 + 100 := p4.2.1
    have b6 : G6.2.1 = G4.2.1 + 4 + 2744 := p6.2.1
    show G6.2.1 = _
    omega
  · intro a ha
    obtain ⟨c1, c2, c3, c4, c5⟩ := p2.2.2.1 a (by omega)
    obtain ⟨d1, d2, d3, d4, d5⟩ := p4.2.2.1 a (by omega)
    obtain ⟨f1, f2, f3, f4, f5⟩ := p6.2.2.1 a (by omega)
    refine ⟨?_, ?_, ?_, ?_, ?_⟩
    · rw [kS, f1, kA, S1, up_ne (by omega), kS, d1, kA, S1, up_ne (by omega), kS, c1, kA, up_ne (by omega)]
    · rw [nS, f2, nA, S1, up_ne (by omega), nS, d2, nA, S1, up_ne (by omega), nS, c2, nA, up_ne (by omega)]
    · rw [rS, up_ne (by omega), f3, rA, S1, up_ne (by omega), rS, up_ne (by omega), d3, rA, S1, up_ne (by omega), rS, up_ne (by omega), c3, rA, up_ne (by omega)]
    · rw [f4, up_ne (by omega), d4, up_ne (by omega), c4, up_ne (by omega)]
    · rw [f5, up_ne (by omega), d5, up_ne (by omega), c5, up_ne (by omega)]
