/-! constructors: rows that an object makes for itself -/
def alF (x : Nat) : List (Nat × Nat × Nat) → mH → mH
  | [], h => h
  | (k, t, n) :: r, h => alF x r (gS (gA h.1 t n n) x k (some h.1.1), va_up h.2.1 h.1.1 (fun _ => 0), va_up h.2.2 h.1.1 (fun _ => 0))
def slo : List (Nat × Nat × Nat) → Nat
  | [] => 0
  | (_, _, n) :: r => n + slo r
theorem kA {G : mG} {t n m : Nat} : gK (gA G t n m) = va_up (gK G) G.1 t := rfl
theorem nA {G : mG} {t n m : Nat} : gN (gA G t n m) = va_up (gN G) G.1 n := rfl
theorem rA {G : mG} {t n m : Nat} : gR (gA G t n m) = va_up (gR G) G.1 (fun _ => none) := rfl
theorem kS {G : mG} {a k : Nat} {v : Option Nat} : gK (gS G a k v) = gK G := rfl
theorem nS {G : mG} {a k : Nat} {v : Option Nat} : gN (gS G a k v) = gN G := rfl
theorem rS {G : mG} {a k : Nat} {v : Option Nat} : gR (gS G a k v) = va_up (gR G) a (va_up (gR G a) k v) := rfl
theorem A1 {G : mG} {t n m : Nat} : (gA G t n m).1 = G.1 + 1 := rfl
theorem S1 {G : mG} {a k : Nat} {v : Option Nat} : (gS G a k v).1 = G.1 := rfl
theorem gk_A {G : mG} {t n m x k : Nat} {X : Option mO} (h : x ≠ G.1) : gk (gA G t n m) x k X = gk G x k X := by
  unfold gk
  rw [kA, up_ne h]
theorem gk_S {G : mG} {a j x k : Nat} {v : Option Nat} {X : Option mO} : gk (gS G a j v) x k X = gk G x k X := rfl
theorem alF_p (x : Nat) (l : List (Nat × Nat × Nat)) : ∀ h : mH, x < h.1.1 → (alF x l h).1.1 = h.1.1 + l.length ∧ (alF x l h).1.2.1 = h.1.2.1 + slo l ∧ (∀ a, a < h.1.1 → gK (alF x l h).1 a = gK h.1 a ∧ gN (alF x l h).1 a = gN h.1 a ∧ (alF x l h).2.1 a = h.2.1 a ∧ (alF x l h).2.2 a = h.2.2 a) ∧ (∀ a, a ≠ x → a < h.1.1 → gR (alF x l h).1 a = gR h.1 a) ∧ (∀ a, h.1.1 ≤ a → a < h.1.1 + l.length → ((alF x l h).2.1 a = fun _ => 0) ∧ ((alF x l h).2.2 a = fun _ => 0)) := by
  induction l with
  | nil => intro h hx; exact ⟨rfl, rfl, fun _ _ => ⟨rfl, rfl, rfl, rfl⟩, fun _ _ _ => rfl, fun a h1 h2 => by have : a < h.1.1 + 0 := h2; omega⟩
  | cons q l ih =>
    intro h hx
    obtain ⟨k, t, n⟩ := q
    obtain ⟨p1, p2, p3, p4, p5⟩ := ih (gS (gA h.1 t n n) x k (some h.1.1), va_up h.2.1 h.1.1 (fun _ => 0), va_up h.2.2 h.1.1 (fun _ => 0)) (by show x < h.1.1 + 1; omega)
    have e1 : (gS (gA h.1 t n n) x k (some h.1.1)).1 = h.1.1 + 1 := rfl
    have e2 : (gS (gA h.1 t n n) x k (some h.1.1)).2.1 = h.1.2.1 + n := rfl
    simp only [e1, e2] at p1 p2 p3 p4 p5
    unfold alF slo
    refine ⟨by rw [p1, List.length_cons]; omega, by rw [p2]; omega, fun a ha => ?_, fun a h1 h2 => ?_, fun a h1 h2 => ?_⟩
    · obtain ⟨b1, b2, b3, b4⟩ := p3 a (by omega)
      refine ⟨?_, ?_, ?_, ?_⟩
      · rw [b1, kS, kA, up_ne (by omega)]
      · rw [b2, nS, nA, up_ne (by omega)]
      · rw [b3, up_ne (by omega)]
      · rw [b4, up_ne (by omega)]
    · rw [p4 a h1 (by omega), rS, up_ne h1, rA, up_ne (by omega)]
    · rw [List.length_cons] at h2
      by_cases c : a = h.1.1
      · obtain ⟨-, -, b3, b4⟩ := p3 a (by omega)
        rw [b3, b4, c, up_eq, up_eq]
        exact ⟨rfl, rfl⟩
      · exact p5 a (by omega) (by omega)
/-- an object and its rows, w cells from x on -/
def Nwo (x w sl : Nat) (G G' : mG) (I I' : Nat → Nat → Int32) (L L' : Nat → Nat → Int64) : Prop := G'.1 = x + w ∧ G'.2.1 = G.2.1 + sl ∧ (∀ a, a < x → gK G' a = gK G a ∧ gN G' a = gN G a ∧ gR G' a = gR G a ∧ I' a = I a ∧ L' a = L a) ∧ (gK G' x = gK G x ∧ L' x = L x) ∧ (∀ a, x < a → a < x + w → (I' a = fun _ => 0) ∧ (L' a = fun _ => 0))
theorem alF_n {x : Nat} {l : List (Nat × Nat × Nat)} {G G' : mG} {I I' : Nat → Nat → Int32} {L L' : Nat → Nat → Int64} (e : alF x l (G, I, L) = (G', I', L')) (hx : G.1 = x + 1) : Nwo x (l.length + 1) (slo l) G G' I I' L L' ∧ I' x = I x := by
  obtain ⟨p1, p2, p3, p4, p5⟩ := alF_p x l (G, I, L) (by show x < G.1; omega)
  rw [e] at p1 p2 p3 p4 p5
  simp only [hx] at p1 p2 p3 p4 p5
  refine ⟨⟨by rw [p1]; omega, p2, fun a ha => ?_, ⟨(p3 x (by omega)).1, (p3 x (by omega)).2.2.2⟩, fun a h1 h2 => p5 a (by omega) (by omega)⟩, (p3 x (by omega)).2.2.1⟩
  obtain ⟨b1, b2, b3, b4⟩ := p3 a (by omega)
  exact ⟨b1, b2, p4 a (by omega) (by omega), b3, b4⟩
def iniF (x kind : Nat) : List (Nat × Nat × Int32) → (mH → Option mO) → mH → Option mO
  | [], fin, h => fin h
  | (k, t, c) :: r, fin, h => if c < 0 ∨ 100000 < Int32.toNatClampNeg c then none else malo h t (Int32.toNatClampNeg c) (Int32.toNatClampNeg c) (fun b h2 => gk h2.1 x kind (iniF x kind r fin (gS h2.1 x k (some b), h2.2.1, h2.2.2)))
def iok : List (Nat × Nat × Int32) → Bool
  | [] => true
  | (_, _, c) :: r => decide (¬ (c < 0 ∨ 100000 < Int32.toNatClampNeg c)) && iok r
theorem iniF_e (x kind : Nat) (fin : mH → Option mO) (l : List (Nat × Nat × Int32)) : ∀ h : mH, iok l = true → gK h.1 x = kind → x < h.1.1 → iniF x kind l fin h = fin (alF x (l.map fun q => (q.1, q.2.1, Int32.toNatClampNeg q.2.2)) h) := by
  induction l with
  | nil => intro h _ _ _; rfl
  | cons q l ih =>
    intro h ho hk hx
    obtain ⟨k, t, c⟩ := q
    unfold iok at ho
    rw [Bool.and_eq_true, decide_eq_true_eq] at ho
    unfold iniF
    rw [if_neg ho.1]
    show gk (gA h.1 t c.toNatClampNeg c.toNatClampNeg) x kind _ = _
    have e : gK (gA h.1 t c.toNatClampNeg c.toNatClampNeg) x = kind := by rw [kA, up_ne (by omega)]; exact hk
    rw [gk_t e]
    exact ih _ ho.2 e (by show x < h.1.1 + 1; omega)
theorem n_X (d : Nat) {G : mG} {I : Nat → Nat → Int32} {L : Nat → Nat → Int64} {x : Nat} (hk : gK G x = 11) (hx : G.1 = x + 1) : ∃ G' I' L', mcal mT (d + 1) 84 [.ref x] (G, I, L) = some (.inl none, (G', I', L')) ∧ LayX G' x ∧ Nwo x 2 500 G G' I I' L L' ∧ I' x = va_up (I x) 7 (-1) := by
  generalize e : alF x [(0, 20, 500)] (G, I, L) = r
  obtain ⟨G1, I1, L1⟩ := r
  obtain ⟨p, pi⟩ := alF_n e hx
  refine ⟨G1, up2 (I1) x 7 (-1), L1, ?_, ?_, ?_, ?_⟩
  · have key : mcal mT (d + 1) 84 [.ref x] (G, I, L) = some (.inl none, (fun h : mH => (h.1, up2 (h.2.1) x 7 (-1), h.2.2)) (alF x [(0, 20, 500)] (G, I, L))) := by
      rw [q_X10_init_, e_X10_init_0]
      refine (iniF_e x 11 (fun h : mH => gk h.1 x 11 (some (.inl none, (h.1, up2 (h.2.1) x 7 (-1), h.2.2)))) [(0, 20, 500)] (G, I, L) (by decide) hk (by show x < G.1; omega)).trans ?_
      obtain ⟨-, -, p3, -⟩ := alF_p x [(0, 20, 500)] (G, I, L) (by show x < G.1; omega)
      have kx : gK (alF x [(0, 20, 500)] (G, I, L)).1 x = 11 := by rw [(p3 x (by show x < G.1; omega)).1]; exact hk
      show gk (alF x [(0, 20, 500)] (G, I, L)).1 x 11 (some (.inl none, ((alF x [(0, 20, 500)] (G, I, L)).1, up2 ((alF x [(0, 20, 500)] (G, I, L)).2.1) x 7 (-1), (alF x [(0, 20, 500)] (G, I, L)).2.2))) = _
      rw [gk_t kx]
    rw [key, e]
  · have eG : G1 = (alF x [(0, 20, 500)] (G, I, L)).1 := by rw [e]
    rw [eG]
    unfold LayX
    simp (disch := omega) only [alF, kS, kA, nS, nA, rS, rA, A1, S1, hx, up_ne, up_eq, up_up, hk, Nat.add_assoc, Nat.reduceAdd, true_and, and_true, and_self]
  · obtain ⟨a1, a2, a3, ⟨a4, a5⟩, a6⟩ := p
    refine ⟨a1, a2, fun a ha => ?_, ⟨a4, a5⟩, fun a h1 h2 => ?_⟩
    · obtain ⟨b1, b2, b3, b4, b5⟩ := a3 a ha
      refine ⟨b1, b2, b3, ?_, b5⟩
      simp (disch := omega) only [up2_e, up_ne]
      exact b4
    · refine ⟨?_, (a6 a h1 h2).2⟩
      simp (disch := omega) only [up2_e, up_ne]
      exact (a6 a h1 h2).1
  · simp only [up2_e, up_eq, pi]
theorem n_H (d : Nat) {G : mG} {I : Nat → Nat → Int32} {L : Nat → Nat → Int64} {x : Nat} (hk : gK G x = 5) (hx : G.1 = x + 1) : ∃ G' I' L', mcal mT (d + 1) 32 [.ref x] (G, I, L) = some (.inl none, (G', I', L')) ∧ LayH G' x ∧ Nwo x 14 160 G G' I I' L L' ∧ I' x = va_up (va_up (va_up (I x) 16 (100)) 17 (9999)) 18 (600) := by
  generalize e : alF x [(2, 20, 8), (3, 20, 8), (4, 20, 64), (5, 20, 8), (6, 20, 8), (7, 20, 8), (8, 20, 8), (9, 20, 8), (11, 20, 8), (12, 20, 8), (13, 20, 8), (14, 20, 8), (15, 20, 8)] (G, I, L) = r
  obtain ⟨G1, I1, L1⟩ := r
  obtain ⟨p, pi⟩ := alF_n e hx
  refine ⟨G1, up2 (up2 (up2 (I1) x 16 (100)) x 17 (9999)) x 18 (600), L1, ?_, ?_, ?_, ?_⟩
  · have key : mcal mT (d + 1) 32 [.ref x] (G, I, L) = some (.inl none, (fun h : mH => (h.1, up2 (up2 (up2 (h.2.1) x 16 (100)) x 17 (9999)) x 18 (600), h.2.2)) (alF x [(2, 20, 8), (3, 20, 8), (4, 20, 64), (5, 20, 8), (6, 20, 8), (7, 20, 8), (8, 20, 8), (9, 20, 8), (11, 20, 8), (12, 20, 8), (13, 20, 8), (14, 20, 8), (15, 20, 8)] (G, I, L))) := by
      rw [q_X4_init_, e_X4_init_0]
      refine (iniF_e x 5 (fun h : mH => gk h.1 x 5 (gk h.1 x 5 (gk h.1 x 5 (some (.inl none, (h.1, up2 (up2 (up2 (h.2.1) x 16 (100)) x 17 (9999)) x 18 (600), h.2.2)))))) [(2, 20, 8), (3, 20, 8), (4, 20, 64), (5, 20, 8), (6, 20, 8), (7, 20, 8), (8, 20, 8), (9, 20, 8), (11, 20, 8), (12, 20, 8), (13, 20, 8), (14, 20, 8), (15, 20, 8)] (G, I, L) (by decide) hk (by show x < G.1; omega)).trans ?_
      obtain ⟨-, -, p3, -⟩ := alF_p x [(2, 20, 8), (3, 20, 8), (4, 20, 64), (5, 20, 8), (6, 20, 8), (7, 20, 8), (8, 20, 8), (9, 20, 8), (11, 20, 8), (12, 20, 8), (13, 20, 8), (14, 20, 8), (15, 20, 8)] (G, I, L) (by show x < G.1; omega)
      have kx : gK (alF x [(2, 20, 8), (3, 20, 8), (4, 20, 64), (5, 20, 8), (6, 20, 8), (7, 20, 8), (8, 20, 8), (9, 20, 8), (11, 20, 8), (12, 20, 8), (13, 20, 8), (14, 20, 8), (15, 20, 8)] (G, I, L)).1 x = 5 := by rw [(p3 x (by show x < G.1; omega)).1]; exact hk
      show gk (alF x [(2, 20, 8), (3, 20, 8), (4, 20, 64), (5, 20, 8), (6, 20, 8), (7, 20, 8), (8, 20, 8), (9, 20, 8), (11, 20, 8), (12, 20, 8), (13, 20, 8), (14, 20, 8), (15, 20, 8)] (G, I, L)).1 x 5 (gk (alF x [(2, 20, 8), (3, 20, 8), (4, 20, 64), (5, 20, 8), (6, 20, 8), (7, 20, 8), (8, 20, 8), (9, 20, 8), (11, 20, 8), (12, 20, 8), (13, 20, 8), (14, 20, 8), (15, 20, 8)] (G, I, L)).1 x 5 (gk (alF x [(2, 20, 8), (3, 20, 8), (4, 20, 64), (5, 20, 8), (6, 20, 8), (7, 20, 8), (8, 20, 8), (9, 20, 8), (11, 20, 8), (12, 20, 8), (13, 20, 8), (14, 20, 8), (15, 20, 8)] (G, I, L)).1 x 5 (some (.inl none, ((alF x [(2, 20, 8), (3, 20, 8), (4, 20, 64), (5, 20, 8), (6, 20, 8), (7, 20, 8), (8, 20, 8), (9, 20, 8), (11, 20, 8), (12, 20, 8), (13, 20, 8), (14, 20, 8), (15, 20, 8)] (G, I, L)).1, up2 (up2 (up2 ((alF x [(2, 20, 8), (3, 20, 8), (4, 20, 64), (5, 20, 8), (6, 20, 8), (7, 20, 8), (8, 20, 8), (9, 20, 8), (11, 20, 8), (12, 20, 8), (13, 20, 8), (14, 20, 8), (15, 20, 8)] (G, I, L)).2.1) x 16 (100)) x 17 (9999)) x 18 (600), (alF x [(2, 20, 8), (3, 20, 8), (4, 20, 64), (5, 20, 8), (6, 20, 8), (7, 20, 8), (8, 20, 8), (9, 20, 8), (11, 20, 8), (12, 20, 8), (13, 20, 8), (14, 20, 8), (15, 20, 8)] (G, I, L)).2.2))))) = _
      rw [gk_t kx, gk_t kx, gk_t kx]
    rw [key, e]
  · have eG : G1 = (alF x [(2, 20, 8), (3, 20, 8), (4, 20, 64), (5, 20, 8), (6, 20, 8), (7, 20, 8), (8, 20, 8), (9, 20, 8), (11, 20, 8), (12, 20, 8), (13, 20, 8), (14, 20, 8), (15, 20, 8)] (G, I, L)).1 := by rw [e]
    rw [eG]
    unfold LayH
    simp (disch := omega) only [alF, kS, kA, nS, nA, rS, rA, A1, S1, hx, up_ne, up_eq, up_up, hk, Nat.add_assoc, Nat.reduceAdd, true_and, and_true, and_self]
  · obtain ⟨a1, a2, a3, ⟨a4, a5⟩, a6⟩ := p
    refine ⟨a1, a2, fun a ha => ?_, ⟨a4, a5⟩, fun a h1 h2 => ?_⟩
    · obtain ⟨b1, b2, b3, b4, b5⟩ := a3 a ha
      refine ⟨b1, b2, b3, ?_, b5⟩
      simp (disch := omega) only [up2_e, up_ne]
      exact b4
    · refine ⟨?_, (a6 a h1 h2).2⟩
      simp (disch := omega) only [up2_e, up_ne]
      exact (a6 a h1 h2).1
  · simp only [up2_e, up_eq, pi]
theorem n_S (d : Nat) {G : mG} {I : Nat → Nat → Int32} {L : Nat → Nat → Int64} {x : Nat} (hk : gK G x = 8) (hx : G.1 = x + 1) : ∃ G' I' L', mcal mT (d + 1) 74 [.ref x] (G, I, L) = some (.inl none, (G', I', L')) ∧ LayS G' x ∧ Nwo x 7 68 G G' I I' L L' ∧ I' x = va_up (I x) 10 (100) := by
  generalize e : alF x [(0, 20, 8), (1, 20, 24), (2, 20, 24), (7, 20, 4), (8, 20, 4), (9, 20, 4)] (G, I, L) = r
  obtain ⟨G1, I1, L1⟩ := r
  obtain ⟨p, pi⟩ := alF_n e hx
  refine ⟨G1, up2 (I1) x 10 (100), L1, ?_, ?_, ?_, ?_⟩
  · have key : mcal mT (d + 1) 74 [.ref x] (G, I, L) = some (.inl none, (fun h : mH => (h.1, up2 (h.2.1) x 10 (100), h.2.2)) (alF x [(0, 20, 8), (1, 20, 24), (2, 20, 24), (7, 20, 4), (8, 20, 4), (9, 20, 4)] (G, I, L))) := by
      rw [q_X7_init_, e_X7_init_0]
      refine (iniF_e x 8 (fun h : mH => gk h.1 x 8 (some (.inl none, (h.1, up2 (h.2.1) x 10 (100), h.2.2)))) [(0, 20, 8), (1, 20, 24), (2, 20, 24), (7, 20, 4), (8, 20, 4), (9, 20, 4)] (G, I, L) (by decide) hk (by show x < G.1; omega)).trans ?_
      obtain ⟨-, -, p3, -⟩ := alF_p x [(0, 20, 8), (1, 20, 24), (2, 20, 24), (7, 20, 4), (8, 20, 4), (9, 20, 4)] (G, I, L) (by show x < G.1; omega)
      have kx : gK (alF x [(0, 20, 8), (1, 20, 24), (2, 20, 24), (7, 20, 4), (8, 20, 4), (9, 20, 4)] (G, I, L)).1 x = 8 := by rw [(p3 x (by show x < G.1; omega)).1]; exact hk
      show gk (alF x [(0, 20, 8), (1, 20, 24), (2, 20, 24), (7, 20, 4), (8, 20, 4), (9, 20, 4)] (G, I, L)).1 x 8 (some (.inl none, ((alF x [(0, 20, 8), (1, 20, 24), (2, 20, 24), (7, 20, 4), (8, 20, 4), (9, 20, 4)] (G, I, L)).1, up2 ((alF x [(0, 20, 8), (1, 20, 24), (2, 20, 24), (7, 20, 4), (8, 20, 4), (9, 20, 4)] (G, I, L)).2.1) x 10 (100), (alF x [(0, 20, 8), (1, 20, 24), (2, 20, 24), (7, 20, 4), (8, 20, 4), (9, 20, 4)] (G, I, L)).2.2))) = _
      rw [gk_t kx]
    rw [key, e]
  · have eG : G1 = (alF x [(0, 20, 8), (1, 20, 24), (2, 20, 24), (7, 20, 4), (8, 20, 4), (9, 20, 4)] (G, I, L)).1 := by rw [e]
    rw [eG]
    unfold LayS
    simp (disch := omega) only [alF, kS, kA, nS, nA, rS, rA, A1, S1, hx, up_ne, up_eq, up_up, hk, Nat.add_assoc, Nat.reduceAdd, true_and, and_true, and_self]
  · obtain ⟨a1, a2, a3, ⟨a4, a5⟩, a6⟩ := p
    refine ⟨a1, a2, fun a ha => ?_, ⟨a4, a5⟩, fun a h1 h2 => ?_⟩
    · obtain ⟨b1, b2, b3, b4, b5⟩ := a3 a ha
      refine ⟨b1, b2, b3, ?_, b5⟩
      simp (disch := omega) only [up2_e, up_ne]
      exact b4
    · refine ⟨?_, (a6 a h1 h2).2⟩
      simp (disch := omega) only [up2_e, up_ne]
      exact (a6 a h1 h2).1
  · simp only [up2_e, up_eq, pi]
theorem n_T (d : Nat) {G : mG} {I : Nat → Nat → Int32} {L : Nat → Nat → Int64} {x : Nat} (hk : gK G x = 9) (hx : G.1 = x + 1) : ∃ G' I' L', mcal mT (d + 1) 79 [.ref x] (G, I, L) = some (.inl none, (G', I', L')) ∧ LayT G' x ∧ Nwo x 14 100 G G' I I' L L' ∧ I' x = I x := by
  generalize e : alF x [(6, 20, 8), (7, 20, 8), (8, 20, 8), (9, 20, 8), (10, 20, 8), (11, 20, 8), (12, 20, 8), (13, 20, 8), (14, 21, 8), (15, 20, 8), (16, 20, 8), (17, 20, 8), (18, 20, 4)] (G, I, L) = r
  obtain ⟨G1, I1, L1⟩ := r
  obtain ⟨p, pi⟩ := alF_n e hx
  refine ⟨G1, I1, L1, ?_, ?_, ?_, ?_⟩
  · have key : mcal mT (d + 1) 79 [.ref x] (G, I, L) = some (.inl none, (fun h : mH => (h.1, h.2.1, h.2.2)) (alF x [(6, 20, 8), (7, 20, 8), (8, 20, 8), (9, 20, 8), (10, 20, 8), (11, 20, 8), (12, 20, 8), (13, 20, 8), (14, 21, 8), (15, 20, 8), (16, 20, 8), (17, 20, 8), (18, 20, 4)] (G, I, L))) := by
      rw [q_X8_init_, e_X8_init_0]
      refine (iniF_e x 9 (fun h : mH => some (.inl none, h)) [(6, 20, 8), (7, 20, 8), (8, 20, 8), (9, 20, 8), (10, 20, 8), (11, 20, 8), (12, 20, 8), (13, 20, 8), (14, 21, 8), (15, 20, 8), (16, 20, 8), (17, 20, 8), (18, 20, 4)] (G, I, L) (by decide) hk (by show x < G.1; omega)).trans ?_
      rfl
    rw [key, e]
  · have eG : G1 = (alF x [(6, 20, 8), (7, 20, 8), (8, 20, 8), (9, 20, 8), (10, 20, 8), (11, 20, 8), (12, 20, 8), (13, 20, 8), (14, 21, 8), (15, 20, 8), (16, 20, 8), (17, 20, 8), (18, 20, 4)] (G, I, L)).1 := by rw [e]
    rw [eG]
    unfold LayT
    simp (disch := omega) only [alF, kS, kA, nS, nA, rS, rA, A1, S1, hx, up_ne, up_eq, up_up, hk, Nat.add_assoc, Nat.reduceAdd, true_and, and_true, and_self]
  · exact p
  · exact pi
theorem n_U (d : Nat) {G : mG} {I : Nat → Nat → Int32} {L : Nat → Nat → Int64} {x : Nat} (hk : gK G x = 10) (hx : G.1 = x + 1) : ∃ G' I' L', mcal mT (d + 1) 82 [.ref x] (G, I, L) = some (.inl none, (G', I', L')) ∧ LayU G' x ∧ Nwo x 3 16 G G' I I' L L' ∧ I' x = I x := by
  generalize e : alF x [(1, 20, 8), (2, 20, 8)] (G, I, L) = r
  obtain ⟨G1, I1, L1⟩ := r
  obtain ⟨p, pi⟩ := alF_n e hx
  refine ⟨G1, I1, L1, ?_, ?_, ?_, ?_⟩
  · have key : mcal mT (d + 1) 82 [.ref x] (G, I, L) = some (.inl none, (fun h : mH => (h.1, h.2.1, h.2.2)) (alF x [(1, 20, 8), (2, 20, 8)] (G, I, L))) := by
      rw [q_X9_init_, e_X9_init_0]
      refine (iniF_e x 10 (fun h : mH => some (.inl none, h)) [(1, 20, 8), (2, 20, 8)] (G, I, L) (by decide) hk (by show x < G.1; omega)).trans ?_
      rfl
    rw [key, e]
  · have eG : G1 = (alF x [(1, 20, 8), (2, 20, 8)] (G, I, L)).1 := by rw [e]
    rw [eG]
    unfold LayU
    simp (disch := omega) only [alF, kS, kA, nS, nA, rS, rA, A1, S1, hx, up_ne, up_eq, up_up, hk, Nat.add_assoc, Nat.reduceAdd, true_and, and_true, and_self]
  · exact p
  · exact pi
theorem n_D (d : Nat) {G : mG} {I : Nat → Nat → Int32} {L : Nat → Nat → Int64} {x : Nat} (hk : gK G x = 4) (hx : G.1 = x + 1) : ∃ G' I' L', mcal mT (d + 1) 24 [.ref x] (G, I, L) = some (.inl none, (G', I', L')) ∧ LayD G' x ∧ Nwo x 3 2744 G G' I I' L L' ∧ I' x = I x := by
  generalize e : alF x [(2, 20, 2688), (3, 20, 56)] (G, I, L) = r
  obtain ⟨G1, I1, L1⟩ := r
  obtain ⟨p, pi⟩ := alF_n e hx
  refine ⟨G1, I1, L1, ?_, ?_, ?_, ?_⟩
  · have key : mcal mT (d + 1) 24 [.ref x] (G, I, L) = some (.inl none, (fun h : mH => (h.1, h.2.1, h.2.2)) (alF x [(2, 20, 2688), (3, 20, 56)] (G, I, L))) := by
      rw [q_X3_init_, e_X3_init_0]
      refine (iniF_e x 4 (fun h : mH => some (.inl none, h)) [(2, 20, 2688), (3, 20, 56)] (G, I, L) (by decide) hk (by show x < G.1; omega)).trans ?_
      rfl
    rw [key, e]
  · have eG : G1 = (alF x [(2, 20, 2688), (3, 20, 56)] (G, I, L)).1 := by rw [e]
    rw [eG]
    unfold LayD
    simp (disch := omega) only [alF, kS, kA, nS, nA, rS, rA, A1, S1, hx, up_ne, up_eq, up_up, hk, Nat.add_assoc, Nat.reduceAdd, true_and, and_true, and_self]
  · exact p
  · exact pi
theorem n_C (d : Nat) {G : mG} {I : Nat → Nat → Int32} {L : Nat → Nat → Int64} {x : Nat} (hk : gK G x = 3) (hx : G.1 = x + 1) : ∃ G' I' L', mcal mT (d + 1) 19 [.ref x] (G, I, L) = some (.inl none, (G', I', L')) ∧ LayC G' x ∧ Nwo x 3 215 G G' I I' L L' ∧ I' x = I x := by
  generalize e : alF x [(0, 20, 200), (2, 20, 15)] (G, I, L) = r
  obtain ⟨G1, I1, L1⟩ := r
  obtain ⟨p, pi⟩ := alF_n e hx
  refine ⟨G1, I1, L1, ?_, ?_, ?_, ?_⟩
  · have key : mcal mT (d + 1) 19 [.ref x] (G, I, L) = some (.inl none, (fun h : mH => (h.1, h.2.1, h.2.2)) (alF x [(0, 20, 200), (2, 20, 15)] (G, I, L))) := by
      rw [q_X2_init_, e_X2_init_0]
      refine (iniF_e x 3 (fun h : mH => some (.inl none, h)) [(0, 20, 200), (2, 20, 15)] (G, I, L) (by decide) hk (by show x < G.1; omega)).trans ?_
      rfl
    rw [key, e]
  · have eG : G1 = (alF x [(0, 20, 200), (2, 20, 15)] (G, I, L)).1 := by rw [e]
    rw [eG]
    unfold LayC
    simp (disch := omega) only [alF, kS, kA, nS, nA, rS, rA, A1, S1, hx, up_ne, up_eq, up_up, hk, Nat.add_assoc, Nat.reduceAdd, true_and, and_true, and_self]
  · exact p
  · exact pi
