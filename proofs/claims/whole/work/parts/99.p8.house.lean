/-! a house read: what holds when all has begun anew -/
theorem stB_t {I : Nat → Nat → Int32} {t h n k : Nat} (q : h + 14 ≤ t) (hk : k < 6) : stB I t h n t k = 0 := by
  unfold stB stO stA
  simp (disch := omega) only [fil_ne, up_ne, cpr_ne, up2_e, up_eq, up_up]
  by_cases k5 : k = 5
  · rw [k5, up_eq]
  rw [up_ne k5]
  by_cases k4 : k = 4
  · rw [k4, up_eq]
  rw [up_ne k4]
  by_cases k3 : k = 3
  · rw [k3, up_eq]
  rw [up_ne k3]
  by_cases k2 : k = 2
  · rw [k2, up_eq]
  rw [up_ne k2]
  by_cases k1 : k = 1
  · rw [k1, up_eq]
  rw [up_ne k1, show k = 0 by omega, up_eq]
section
variable {I F : Nat → Nat → Int32} {L : Nat → Nat → Int64} {S T U V W X : Nat → Int32} {P Q R : Nat → Int64} {x nr n c : Nat}
theorem hrn (hH : HrI nr n c (hrw I x) S) : ∀ k, k < n → I (x + 9) k = Int32.ofNat (S (120 + k)).toNatClampNeg ∧ S (120 + k) = Int32.ofNat (S (120 + k)).toNatClampNeg ∧ (S (120 + k)).toNatClampNeg < nr ∧ I (x + 10) k = Int32.ofNat (S (128 + k)).toNatClampNeg ∧ S (128 + k) = Int32.ofNat (S (128 + k)).toNatClampNeg ∧ (S (128 + k)).toNatClampNeg < 4 := by
  obtain ⟨⟨-, -, -, -, -, r8, -, -, n8⟩, -, -, -, -, -, g, -⟩ := hH
  intro k hk
  obtain ⟨⟨p, p1, p2, p3⟩, ⟨o, o1, o2, o3⟩, -⟩ := g k hk
  rw [p3, o3, i_nat (by omega), i_nat (by omega)]
  exact ⟨p2, rfl, p1, o2, rfl, o1⟩
/-- the house -/
theorem An_ho (hH : HrI nr n c (hrw I x) S) (h0 : 0 < nr) (hF : ∀ y, x ≤ y → y < x + 14 → F y = I y) (f20 : F 220 = pre 166 S T) : HoR F x nr n (fun k => (S (120 + k)).toNatClampNeg) (fun k => (S (128 + k)).toNatClampNeg) := by
  have hn := hrn hH
  obtain ⟨⟨a1, a2, a3, a4, a5, a6, a7, a8, a9⟩, ⟨b1, b2, b3, b4, b5, b6⟩, c1, d, e, f, g, z⟩ := hH
  have s : ∀ j, j < 166 → F 220 j = S j := fun j hj => by rw [f20, pre_lt hj]
  have hr : ∀ i, i < 14 → F (x + i) = hrw I x i := fun i hi => hF (x + i) (by omega) (by omega)
  have hr0 : F x = hrw I x 0 := hr 0 (by decide)
  refine Or.inr ⟨h0, ⟨⟨?_, ?_, a6, ?_, ?_, a9⟩, ?_, ?_, ?_, ?_, ?_, ?_, ?_, ?_⟩, ?_, ?_, ?_, ?_, ?_⟩
  · rw [hr0]; exact a4
  · show F 220 163 = _
    rw [s 163 (by decide)]; exact a5
  · rw [hr0]; exact a7
  · show F 220 164 = _
    rw [s 164 (by decide)]; exact a8
  · intro r hr'
    show F (x + 1) r = F 220 r ∧ irng (F 220 r) 1 99
    rw [hr 1 (by decide), s r (by omega)]
    exact ⟨(c1 r hr').1, (c1 r hr').2.1⟩
  · intro r hr'
    show F (x + 4) r = F 220 (16 + r) ∧ F (x + 5) r = F 220 (24 + r)
    rw [hr 4 (by decide), hr 5 (by decide), s _ (by omega), s _ (by omega)]
    exact d r (by omega)
  · intro r hr' h1 h2
    show snn F x (Int32.ofNat hr') r = rsu (F 220) hr' r
    unfold snn rsu
    rw [hr 6 (by decide), hr 7 (by decide), hr 8 (by decide), s _ (by omega), s _ (by omega), s _ (by omega)]
    rcases e r (by omega) with ⟨e1, e2⟩ | ⟨e1, e2, e3⟩
    · rw [e1, e2]
      simp only [ite_self]
    · rw [e1, e2, e3]
  · intro a b ha hb
    show F (x + 3) (a * 8 + b) = F 220 (56 + 8 * a + b) ∧ F 220 (56 + 8 * a + b) = F 220 (56 + 8 * b + a) ∧ irng (F 220 (56 + 8 * a + b)) 0 99
    rw [hr 3 (by decide), s _ (by omega), s _ (by omega)]
    exact f a b (by omega) (by omega)
  · intro k hk
    show F (x + 9) k = _ ∧ F 220 (120 + k) = _ ∧ _
    obtain ⟨n1, n2, n3, -⟩ := hn k hk
    rw [hr 9 (by decide), s _ (by omega)]
    exact ⟨n1, n2, n3⟩
  · intro k hk
    show F (x + 10) k = _ ∧ F 220 (128 + k) = _ ∧ _
    obtain ⟨-, -, -, n1, n2, n3⟩ := hn k hk
    rw [hr 10 (by decide), s _ (by omega)]
    exact ⟨n1, n2, n3⟩
  · intro k hk
    show F (x + 11) k = F 220 (136 + k) ∧ irng (F 220 (136 + k)) 1 99 ∧ F (x + 12) k = F 220 (144 + k) ∧ F (x + 13) k = F 220 (152 + k)
    obtain ⟨-, -, ⟨g1, g2⟩, ⟨g3, -⟩, g5⟩ := g k hk
    rw [hr 11 (by decide), hr 12 (by decide), hr 13 (by decide), s _ (by omega), s _ (by omega), s _ (by omega)]
    exact ⟨g1, g2, g3, g5⟩
  · show F x 17 = F 220 161 ∧ irng (F 220 161) 1 99999 ∧ F x 18 = F 220 162 ∧ irng (F 220 162) 200 900
    rw [hr0, s 161 (by decide), s 162 (by decide)]
    exact ⟨b3, b4, b5, b6⟩
  · rw [hr0, s 165 (by decide), a2]; exact a1
  · rw [hr0, s 160 (by decide)]; exact b1
  · rw [s 160 (by decide)]; exact b2
  · intro r hr'
    rw [hr 2 (by decide), s _ (by omega)]
    exact ⟨(c1 r hr').2.2.1, (c1 r hr').2.2.2⟩
  · intro k hk
    rw [s _ (by omega)]
    exact (g k hk).2.2.2.1.2
/-- the settings -/
theorem An_se (hH : HrI nr n c (hrw I x) S) (hx : x + 14 ≤ 132) (hF : ∀ y, 132 ≤ y → y < 136 → F y = ban I x n y) (f23 : F 223 = rbg (pre 166 S T) (va_up (isg 24 8 (fun _ => 16) (pre 173 (fun _ => 0) U)) 167 (S 160)) n) : SeR F 132 (F 223) n 0 := by
  obtain ⟨⟨-, -, -, -, -, -, -, -, n8⟩, ⟨b1, b2, -⟩, -⟩ := hH
  obtain ⟨w1, w2, w3⟩ := rw0 (H := pre 166 S T) (S := U) (v := S 160) (n := n)
  obtain ⟨s1, s2, s3, s4⟩ := seB_r (I := I) (s := 132) (v := I x 16)
  have g1 : F (132 + 1) = pre 8 (fun _ => 16) (I (132 + 1)) := by rw [hF _ (by decide) (by decide), ban_s (by decide), s1]
  have g2 : F (132 + 2) = pre 24 (fun _ => 0) (I (132 + 2)) := by rw [hF _ (by decide) (by decide), ban_s (by decide), s2]
  have g3 : F (132 + 3) = pre 24 (fun _ => 0) (I (132 + 3)) := by rw [hF _ (by decide) (by decide), ban_s (by decide), s3]
  have g4 : F 132 = va_up (va_up (va_up (va_up (va_up (I 132) 3 0) 4 0) 5 0) 6 0) 10 (I x 16) := by rw [hF _ (by decide) (by decide), ban_s (by decide), s4]
  have bx : I x 16 = S 160 := b1
  refine ⟨fun k hk => ?_, ⟨?_, ?_⟩, fun hr h2 => ?_, fun hr h2 => ⟨?_, ?_⟩, ⟨?_, ?_, ?_, ?_⟩, ⟨?_, ?_, by decide⟩, fun k hk => absurd hk (Nat.not_lt_zero _)⟩
  · rw [g1, pre_lt (by omega), f23, w1 k (by omega)]
    exact ⟨rfl, by unfold irng; decide⟩
  · rw [g4, up_eq, f23, w2]; exact bx
  · rw [f23, w2]; exact b2
  · rw [g2, pre_lt h2, f23, w3 _ (by omega)]
  · rw [g3, pre_lt h2, f23, w3 _ (by omega)]
  · rw [f23, w3 _ (by omega)]; exact Or.inl rfl
  · rw [g4, f23, w3 _ (by omega)]; simp (disch := decide) only [up_ne, up_eq]
  · rw [g4, f23, w3 _ (by omega)]; simp (disch := decide) only [up_ne, up_eq]
  · rw [g4, f23, w3 _ (by omega)]; simp (disch := decide) only [up_ne, up_eq]
  · rw [f23, w3 _ (by omega)]; unfold irng; decide
  · rw [g4]; simp (disch := decide) only [up_ne, up_eq]; rfl
  · rw [f23, w3 _ (by omega)]; rfl
/-- the state -/
theorem An_st (hH : HrI nr n c (hrw I x) S) (hx : x + 14 ≤ 132) (hF : ∀ y, 139 ≤ y → y < 153 → F y = ban I x n y) (f20 : F 220 = pre 166 S T) (f23 : F 223 = rbg (pre 166 S T) (va_up (isg 24 8 (fun _ => 16) (pre 173 (fun _ => 0) U)) 167 (S 160)) n) (l1 : L 148 = pre 8 (fun _ => 0) P) (l2 : L 225 = pre 8 (fun _ => 0) (pre 16 (fun _ => 0) Q)) : StR F L 139 (F 220) (F 223) (L 225) nr n 0 := by
  obtain ⟨⟨-, -, -, -, -, r8, -, -, n8⟩, -, c1, -, -, -, g, -⟩ := hH
  obtain ⟨-, -, w3⟩ := rw0 (H := pre 166 S T) (S := U) (v := S 160) (n := n)
  obtain ⟨s1, s2, s3, s4, s5, s6, s7, s8, s10, s11, s12, s13⟩ := stB_r (I := seB I 132 (I x 16)) (t := 139) (h := x) (n := n) (by omega)
  have fb : ∀ y, 139 ≤ y → y < 153 → F y = stB (seB I 132 (I x 16)) 139 x n y := fun y h1 h2 => by rw [hF y h1 h2, ban_t ⟨h1, h2⟩]
  have t0 : ∀ k, k < 6 → F 139 k = 0 := fun k hk => by rw [fb 139 (by decide) (by decide), stB_t (by omega) hk]
  have b0 : ∀ k, k < 8 → btv 0 k = 0 := by decide
  have ob : ∀ y, y < 132 → seB I 132 (I x 16) y = I y := fun y hy => seB_o (by omega)
  have tp : ∀ k, tap (seB I 132 (I x 16)) x n k = tap I x n k := fun k => by unfold tap; rw [ob (x + 12) (by omega)]
  refine ⟨⟨?_, ?_⟩, fun r hr => ?_, ⟨?_, fun r hr => ?_⟩, ⟨?_, fun p hp => ?_⟩, ⟨?_, ?_, ?_, ?_⟩, fun r hr => ⟨?_, ?_, ?_, ?_, ?_⟩, fun k hk => ?_, fun k hk => ?_, fun p hp => ?_⟩
  · rw [t0 0 (by decide)]; rfl
  · rw [f23, w3 _ (by omega)]; rfl
  · obtain ⟨-, -, c3, c4⟩ := c1 r hr
    have c3' : I (x + 2) r = S (8 + r) := c3
    rw [fb _ (by decide) (by decide), s1, pre_lt (by omega), ob _ (by omega), f23, rbg_r (by omega), pre_lt (by omega)]
    refine ⟨c3', ?_⟩
    unfold irng at c4 ⊢
    omega
  · rw [t0 1 (by decide)]; unfold irng; decide
  · rw [t0 1 (by decide), b0 r hr, f23, rbg_a hr]
  · rw [t0 2 (by decide)]; unfold irng; decide
  · rw [t0 2 (by decide), b0 p (by omega), f23, rbg_p hp]
  · rw [t0 3 (by decide), f23, w3 _ (by omega)]
  · rw [t0 4 (by decide), f23, w3 _ (by omega)]
  · exact Or.inl (t0 4 (by decide))
  · rw [t0 5 (by decide), f23, w3 _ (by omega)]
  · rw [fb _ (by decide) (by decide), s2, pre_lt (by omega), f23, w3 _ (by omega)]
  · rw [fb _ (by decide) (by decide), s3, pre_lt (by omega), f23, w3 _ (by omega)]
  · rw [fb _ (by decide) (by decide), s4, pre_lt (by omega), f23, w3 _ (by omega)]
  · rw [fb _ (by decide) (by decide), s5, pre_lt (by omega), f23, w3 _ (by omega)]
  · rw [fb _ (by decide) (by decide), s6, pre_lt (by omega), f23, w3 _ (by omega)]
  · have g4 : I (x + 12) k = S (144 + k) := (g k hk).2.2.2.1.1
    have e7 : F (139 + 7) k = if S (144 + k) = 0 then 16 else 0 := by
      rw [fb _ (by decide) (by decide), s7, pre_lt (by omega)]
      show (if tap (seB I 132 (I x 16)) x n k = 0 then 16 else 0) = _
      rw [tp]
      unfold tap
      rw [if_pos hk, g4]
      by_cases z : S (144 + k) = 0
      · rw [if_pos z, if_pos z, if_pos rfl]
      · rw [if_neg z, if_neg z, if_neg (by decide)]
    have e8 : F 223 (8 + k) = if S (144 + k) = 0 then 16 else 0 := by
      rw [f23, rbg_o (by omega), if_pos hk, pre_lt (by omega)]
    rw [e7, e8, f20, pre_lt (by omega)]
    refine ⟨rfl, ?_, fun z => if_pos z, ?_, ?_, ?_⟩
    · by_cases z : S (144 + k) = 0
      · rw [if_pos z]; unfold irng; decide
      · rw [if_neg z]; unfold irng; decide
    · rw [fb _ (by decide) (by decide), s8, pre_lt (by omega), f23, w3 _ (by omega)]
    · rw [fb _ (by decide) (by decide), s10, pre_lt (by omega), f23, w3 _ (by omega)]
    · rw [fb _ (by decide) (by decide), s11, pre_lt (by omega), f23, w3 _ (by omega)]
  · rw [fb _ (by decide) (by decide), s12, pre_lt (by omega), l2, pre_ge (by omega), pre_lt (by omega), pre_lt (by omega)]
    show _ ∧ _ ∧ L 148 k = _ ∧ L 148 k &&& _ = L 148 k
    rw [l1, pre_lt (by omega)]
    exact ⟨rfl, by unfold irng; decide, rfl, by decide⟩
  · rw [fb _ (by decide) (by decide), s13, pre_lt hp, f23, w3 _ (by omega)]
/-- the taps -/
theorem An_ta (hH : HrI nr n c (hrw I x) S) (hx : x + 14 ≤ 132) (hF : ∀ y, 153 ≤ y → y < 156 → F y = ban I x n y) (f20 : F 220 = pre 166 S T) : TaR F 153 (F 220) n (fun k => (S (120 + k)).toNatClampNeg) := by
  have hn := hrn hH
  obtain ⟨⟨-, -, -, -, -, r8, -, -, n8⟩, -, -, -, -, -, g, -⟩ := hH
  obtain ⟨u1, u2, u3⟩ := tpB_r (I := stB (seB I 132 (I x 16)) 139 x n) (u := 153) (h := x) (by omega)
  have fb : ∀ y, 153 ≤ y → y < 156 → F y = tpB (stB (seB I 132 (I x 16)) 139 x n) 153 x y := fun y h1 h2 => by rw [hF y h1 h2, ban_u ⟨h1, h2⟩]
  have ob : ∀ y, y < 132 → stB (seB I 132 (I x 16)) 139 x n y = I y := fun y hy => by rw [stB_fr (by omega), seB_o (by omega)]
  refine ⟨by rw [fb _ (by decide) (by decide)]; exact u3, fun k hk => ?_⟩
  rw [fb _ (by decide) (by decide), fb _ (by decide) (by decide), u1, u2, pre_lt (by omega), pre_lt (by omega), ob _ (by omega), ob _ (by omega), f20, pre_lt (by omega)]
  exact ⟨(hn k hk).1, (g k hk).2.2.2.2⟩
/-- the diary -/
theorem An_di (r8 : nr ≤ 8) (hF : F 195 = ban I x n 195) (f29 : F 229 = pre 56 (iclr 10000) V) : DiR F 195 (F 228) (F 229) 0 0 nr 0 := by
  obtain ⟨b1, b2, -⟩ := ban_x (I := I) (x := x) (n := n)
  refine ⟨⟨by rw [hF, b1]; rfl, by decide, by rw [hF, b2]; rfl, by decide⟩, fun b j hb => absurd hb (Nat.not_lt_zero _), fun z => absurd rfl z, fun _ j hj => by rw [f29, pre_lt (by omega)]⟩
/-- errors and gauges -/
theorem An_eg (h5 : F 215 = ban I x n 215) (h7 : F 217 = ban I x n 217) (f30 : F 230 = pre 8 (fun _ => 0) W) (f40 : F 240 = pre 40 (fun _ => -1) X) : EgR F := by
  obtain ⟨-, -, b3, b4, -⟩ := ban_x (I := I) (x := x) (n := n)
  refine ⟨fun k hk => ?_, fun k hk => ?_⟩
  · rw [h5, b3, f30, pre_lt hk, pre_lt hk]
    exact ⟨rfl, by unfold irng; decide⟩
  · rw [h7, b4, f40, pre_lt hk, pre_lt hk]
    exact ⟨rfl, by unfold irng; decide⟩
end
