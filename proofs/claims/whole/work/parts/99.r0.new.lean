/-! objects made of objects -/
def Gro (y w sl : Nat) (G G' : mG) (I I' : Nat → Nat → Int32) (D : Nat → Nat → Int32) : Prop := G'.1 = y + w ∧ G'.2.1 = G.2.1 + sl ∧ (∀ a, a < y → gK G' a = gK G a ∧ gN G' a = gN G a ∧ gR G' a = gR G a ∧ I' a = I a) ∧ (∀ a, a < w → I' (y + a) = D a)
def Cum (x kx b sl : Nat) (G G' : mG) (I I' : Nat → Nat → Int32) (R : Nat → Option Nat) (D : Nat → Nat → Int32) : Prop := Gro x b sl G G' I I' D ∧ gK G' x = kx ∧ gR G' x = R ∧ 0 < b
def ct (b : Nat) (D D' : Nat → Nat → Int32) : Nat → Nat → Int32 := fun a => if a < b then D a else D' (a - b)
def d1 (R : Nat → Int32) : Nat → Nat → Int32 := fun a => if a = 0 then R else fun _ => 0
section
variable {G G1 G2 : mG} {I I1 I2 : Nat → Nat → Int32} {L L1 L2 : Nat → Nat → Int64} {x y b w sl sl' kx t m n k s v : Nat} {R : Nat → Option Nat} {D D' : Nat → Nat → Int32} {S : Nat → Int32}
theorem Gro_N (hy : G.1 = y) (hw : 0 < w) (p : Nwo y w sl (gA G t 0 m) G2 (va_up I G.1 (fun _ => 0)) I2 (va_up L G.1 (fun _ => 0)) L2) (r : I2 y = S) : Gro y w (m + sl) G G2 I I2 (d1 S) := by
  obtain ⟨p1, p2, p3, p4, p5⟩ := p
  refine ⟨p1, by rw [p2]; show G.2.1 + m + sl = _; omega, fun a ha => ?_, fun a ha => ?_⟩
  · obtain ⟨b1, b2, b3, b4, b5⟩ := p3 a ha
    refine ⟨?_, ?_, ?_, ?_⟩
    · rw [b1, kA, up_ne (by omega)]
    · rw [b2, nA, up_ne (by omega)]
    · rw [b3, rA, up_ne (by omega)]
    · rw [b4, up_ne (by omega)]
  · unfold d1
    by_cases a0 : a = 0
    · rw [if_pos a0, a0]; exact r
    · rw [if_neg a0]; exact (p5 (y + a) (by omega) (by omega)).1
theorem Gro_A (hy : G.1 = y) : Gro y 1 n G (gA G t n n) I (va_up I G.1 (fun _ => 0)) (d1 (fun _ => 0)) := by
  refine ⟨by rw [A1, hy], rfl, fun a ha => ⟨by rw [kA, up_ne (by omega)], by rw [nA, up_ne (by omega)], by rw [rA, up_ne (by omega)], by rw [up_ne (by omega)]⟩, fun a ha => ?_⟩
  rw [show y + a = G.1 by omega, up_eq]
  unfold d1
  rw [if_pos (by omega)]
theorem Cum_0 (hx : G.1 = x) : Cum x kx 1 m G (gA G kx 0 m) I (va_up I G.1 (fun _ => 0)) (fun _ => none) (d1 (fun _ => 0)) := by
  refine ⟨⟨by rw [A1, hx], rfl, fun a ha => ⟨by rw [kA, up_ne (by omega)], by rw [nA, up_ne (by omega)], by rw [rA, up_ne (by omega)], by rw [up_ne (by omega)]⟩, fun a ha => ?_⟩, by rw [kA, hx, up_eq], by rw [rA, hx, up_eq], by decide⟩
  rw [show x + a = G.1 by omega, up_eq]
  unfold d1
  rw [if_pos (by omega)]
theorem Cum_s (k : Nat) (c : Cum x kx b sl G G1 I I1 R D) (g : Gro (x + b) w sl' G1 G2 I1 I2 D') : Cum x kx (b + w) (sl + sl') G (gS G2 x k (some (x + b))) I I2 (va_up R k (some (x + b))) (ct b D D') := by
  obtain ⟨⟨c1, c2, c3, c4⟩, c5, c6, c7⟩ := c
  obtain ⟨g1, g2, g3, g4⟩ := g
  refine ⟨⟨by rw [S1, g1]; omega, by show G2.2.1 = _; omega, fun a ha => ?_, fun a ha => ?_⟩, by rw [kS, (g3 x (by omega)).1]; exact c5, by rw [rS, up_eq, (g3 x (by omega)).2.2.1, c6], by omega⟩
  · obtain ⟨b1, b2, b3, b4⟩ := c3 a ha
    obtain ⟨e1, e2, e3, e4⟩ := g3 a (by omega)
    exact ⟨by rw [kS, e1, b1], by rw [nS, e2, b2], by rw [rS, up_ne (by omega), e3, b3], by rw [e4, b4]⟩
  · unfold ct
    by_cases ab : a < b
    · rw [if_pos ab, (g3 (x + a) (by omega)).2.2.2]; exact c4 a ab
    · rw [if_neg ab, ← g4 (a - b) (by omega), show x + b + (a - b) = x + a by omega]
theorem Cum_1 (c : Cum x kx b sl G G1 I I1 R D) : G1.1 = x + b := c.1.1
theorem Cum_k (c : Cum x kx b sl G G1 I I1 R D) (g : Gro (x + b) w sl' G1 G2 I1 I2 D') : gK G2 x = kx := by
  have := c.2.2.2
  rw [(g.2.2.1 x (by omega)).1]
  exact c.2.1
theorem Sam_G (g : Gro y w sl G G2 I I2 D) (h : s + v ≤ y) : Sam G G2 s v := fun a h1 h2 => ⟨(g.2.2.1 a (by omega)).1, (g.2.2.1 a (by omega)).2.1, (g.2.2.1 a (by omega)).2.2.1⟩
/-- a stage keeps what lies between -/
theorem Sam_c (g : Gro y w sl G G2 I I2 D) (h : s + v ≤ y) (hx : x < s) {q : Option Nat} : Sam G (gS G2 x k q) s v := Sam_t (Sam_G g h) (Sam_S (by omega))
theorem malo_o {c d : Nat} (hG : G.1 = y) (e : mcal mT d c [.ref y] (gA G t 0 m, va_up I G.1 (fun _ => 0), va_up L G.1 (fun _ => 0)) = some (.inl none, (G2, I2, L2))) (hk : gK G2 x = kx) (f : Nat → mH → Option mO) (g : String → mH → Option mO) : malo (G, I, L) t 0 m (fun b h2 => gk h2.1 b t (mcV (mcal mT d c [.ref b] h2) (fun h3 => gk h3.1 x kx (f b h3)) g)) = f y (G2, I2, L2) := by
  have k1 : gK (gA G t 0 m) y = t := by rw [kA, hG, up_eq]
  unfold malo hA
  show gk (gA G t 0 m) G.1 t (mcV (mcal mT d c [.ref G.1] (gA G t 0 m, va_up I G.1 (fun _ => 0), va_up L G.1 (fun _ => 0))) (fun h3 => gk h3.1 x kx (f G.1 h3)) g) = _
  rw [show G.1 = y from hG] at e ⊢
  rw [gk_t k1, mcV_of e, gk_t hk]
theorem malo_a {c : Int32} (hG : G.1 = y) (hc : ¬ (c < 0 ∨ 100000 < Int32.toNatClampNeg c)) (hn : Int32.toNatClampNeg c = n) (hk : gK G x = kx) (hx : x < y) (f : Nat → mH → Option mO) : (if c < 0 ∨ 100000 < Int32.toNatClampNeg c then none else malo (G, I, L) t (Int32.toNatClampNeg c) (Int32.toNatClampNeg c) (fun b h2 => gk h2.1 x kx (f b h2))) = f y (gA G t n n, va_up I G.1 (fun _ => 0), va_up L G.1 (fun _ => 0)) := by
  rw [if_neg hc, hn]
  unfold malo hA
  show gk (gA G t n n) x kx (f G.1 _) = _
  rw [gk_t (by rw [kA, up_ne (by omega)]; exact hk), hG]
end
