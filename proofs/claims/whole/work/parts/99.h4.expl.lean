/-! explains against isExplained -/
section
variable {G G2 : mG} {I J : Nat → Nat → Int32} {L K : Nat → Nat → Int64} {h hs bl bs cl cs nr n nh M kc lc : Nat} {rm pi mk : Nat → Nat}
theorem tBg_fr {a : Nat} (ha : ¬ (171 ≤ a ∧ a < 195)) : tBg I h n a = I a := by
  unfold tBg
  rw [tpB_fr (by omega), stB_fr (by omega), cpS_fr (by omega)]
theorem tBg_r (hh : h + 14 ≤ 132) : (∀ k, k < 8 → tBg I h n 179 k = I (h + 2) k) ∧ (∀ k, k < 8 → tBg I h n 185 k = if tap I h n k = 0 then 16 else 0) ∧ tBg I h n 178 0 = 0 ∧ tBg I h n 178 1 = 0 ∧ tBg I h n 178 2 = 0 ∧ tBg I h n 192 0 = 0 ∧ (∀ k, k < 8 → tBg I h n 193 k = I (h + 9) k) ∧ (∀ k, k < 8 → tBg I h n 194 k = I (h + 13) k) := by
  obtain ⟨r1, -, -, -, -, -, r7, -⟩ := stB_r (I := cpS I 171 132) (t := 178) (h := h) (n := n) (by omega)
  obtain ⟨f0, f1, f2, -⟩ := stB_f (I := cpS I 171 132) (t := 178) (h := h) (n := n)
  obtain ⟨u1, u2, u3⟩ := tpB_r (I := stB (cpS I 171 132) 178 h n) (u := 192) (h := h) (by omega)
  have hx : ∀ a, a < 171 → stB (cpS I 171 132) 178 h n a = I a := fun a ha => by rw [stB_fr (by omega), cpS_fr (by omega)]
  have tp : ∀ k, tap (cpS I 171 132) h n k = tap I h n k := fun k => by unfold tap; rw [cpS_fr (by omega)]
  have lo : ∀ a, a < 192 → tBg I h n a = stB (cpS I 171 132) 178 h n a := fun a ha => by unfold tBg; rw [tpB_fr (by omega)]
  refine ⟨fun k hk => ?_, fun k hk => ?_, ?_, ?_, ?_, u3, fun k hk => ?_, fun k hk => ?_⟩
  · rw [lo 179 (by decide), show stB (cpS I 171 132) 178 h n 179 = _ from r1, pre_lt hk, cpS_fr (by omega)]
  · rw [lo 185 (by decide), show stB (cpS I 171 132) 178 h n 185 = _ from r7, pre_lt hk, tp]
  · rw [lo 178 (by decide)]; exact f0
  · rw [lo 178 (by decide)]; exact f1
  · rw [lo 178 (by decide)]; exact f2
  · show tpB (stB (cpS I 171 132) 178 h n) 192 h (192 + 1) k = _
    rw [u1, pre_lt hk, hx _ (by omega)]
  · show tpB (stB (cpS I 171 132) 178 h n) 192 h (192 + 2) k = _
    rw [u2, pre_lt hk, hx _ (by omega)]
theorem tBg_s {a : Nat} (h1 : 171 ≤ a) (h2 : a < 178) : tBg I h n a = cpS I 171 132 a := by
  unfold tBg
  rw [tpB_fr (by omega), stB_fr (by omega)]
theorem tBg_w (hh : h + 14 ≤ 132) (hn8 : n ≤ 8) (h6 : ∀ k, k < n → I (h + 9) k = Int32.ofNat (rm k)) : WR (tBg I h n) h n (-1) (-1) rm (fun k => k) := by
  obtain ⟨-, r2, -, r4, r5, r6, r7, -⟩ := tBg_r (I := I) (n := n) hh
  have tp : ∀ k, tap (tBg I h n) h n k = tap I h n k := fun k => by unfold tap; rw [tBg_fr (by omega)]
  have b0 : ∀ k, k < 8 → btv 0 k = 0 := by decide
  refine ⟨fun k hk => ?_, fun p hp => ?_, fun r hr => ?_, fun k hk => ?_, fun k hk => ⟨by rw [r7 k (by omega)]; exact h6 k hk, hk⟩⟩
  · rw [r2 k (by omega), tp, rw_nn (by omega), if_pos rfl]
  · rw [r5, rw_nn (by omega), b0 p (by omega)]
  · rw [r4, rw_nn (by omega), b0 r hr]
  · rw [r6, rw_nn (by omega), rw_nn (by omega), if_pos rfl, b0 k hk]
/-- the class's trial with things wrong -/
theorem wr_c (d : Nat) (x1 x2 off : Int32) (q : LyR G h hs bl bs cl cs kc mk) (hb : 103 ≤ h ∧ h + 14 ≤ 132) (s1 : I h 1 = Int32.ofNat nr) (s3 : nr ≤ 8) (s4 : I h 10 = Int32.ofNat n) (s6 : n ≤ 8) (h6 : ∀ k, k < n → I (h + 9) k = Int32.ofNat (rm k)) (o1 : OkT I h n nr x1) (o2 : OkT I h n nr x2) : ∃ I4 sg, f_X11_explains (d + 6) 0 [.ref 100, .int (jmin x1 x2), .int (jmax x1 x2), .int off, mU, mU] [] (G, I, L) = f_X11_explains (d + 6) 25 [.ref 100, mU, mU, .int off, mU, mU] [] (gS G 156 0 (some h), I4, fil L 187 8 0) ∧ WR I4 h n x1 x2 rm sg ∧ (∀ k, k < n → rsb x1 x2 (Int32.ofNat k) = Int32.ofNat (sg k)) ∧ FrW (tBg I h n) I4 := by
  obtain ⟨q2, p2⟩ := LyR_T q h
  have hh := q.2.2.2.2.2.2.2.2.2.2.2.2.2.2.1
  obtain ⟨lB2, -, -, -, ⟨lH1, lH2⟩, -, ⟨-, lT2⟩, ⟨-, lU2⟩, -⟩ := id q2
  have lH : LayH (gS G 156 0 (some h)) h := by
    rcases hh with ⟨a, -⟩ | ⟨a, -⟩
    · rw [a] at lH1 ⊢; exact lH1
    · rw [a] at lH2 ⊢; exact lH2
  have lB := q.1
  have tb := c_tryBeg (d + 3) (I := I) (L := L) q s4 s6
  have w0 := tBg_w (n := n) hb.2 s6 h6
  have fb : ∀ a, h ≤ a → a < h + 14 → tBg I h n a = I a := fun a h1 h2 => tBg_fr (by omega)
  have t1 : tBg I h n h 1 = Int32.ofNat nr := by rw [fb h (by omega) (by omega)]; exact s1
  have t4 : tBg I h n h 10 = Int32.ofNat n := by rw [fb h (by omega) (by omega)]; exact s4
  have tg : ∀ w, thg (tBg I h n) h n nr w = thg I h n nr w := by
    intro w
    have : ∀ k, tap (tBg I h n) h n k = tap I h n k := fun k => by unfold tap; rw [fb (h + 12) (by omega) (by omega)]
    unfold thg
    rw [this, this]
  have ok : ∀ x, OkT I h n nr x → OkT (tBg I h n) h n nr x := by
    intro x hx
    rcases hx with e | ⟨w, w1, w2, w3⟩
    · exact Or.inl e
    · exact Or.inr ⟨w, w1, w2, by rw [tg]; exact w3⟩
  have two : ∀ a b : Int32, OkT I h n nr a → OkT I h n nr b → a < b → ∃ I4 sg, f_X11_explains (d + 6) 0 [.ref 100, .int a, .int b, .int off, mU, mU] [] (G, I, L) = f_X11_explains (d + 6) 25 [.ref 100, mU, mU, .int off, mU, mU] [] (gS G 156 0 (some h), I4, fil L 187 8 0) ∧ WR I4 h n a b rm sg ∧ (∀ k, k < n → rex (rex (Int32.ofNat k) b) a = Int32.ofNat (sg k)) ∧ FrW (tBg I h n) I4 := by
    intro a b ha hb' hab
    obtain ⟨I1, I4, sg, m1, m2, m3, m4, m5⟩ := wr_two (d + 2) (L := fil L 187 8 0) p2 lH lT2 lU2 hb.2 t1 s3 t4 s6 w0 (ok a ha) (ok b hb') hab
    refine ⟨I4, sg, ?_, m3, m4, m5⟩
    have ne : ¬ b = a := fun p => by rw [p] at hab; exact Int32.lt_irrefl hab
    rw [e_X11_explains_0]
    simp only [↓vB lB, ↓mcV_of tb, ↓vB lB2, ↓vP p2, ↓mcV_of m1, if_neg ne, ↓mcV_of m2]
  by_cases c : x2 ≤ x1
  · obtain ⟨e1, e2⟩ := jm_hi c
    rw [e1, e2]
    by_cases c2 : x2 = x1
    · obtain ⟨I1, sg, m1, m2, m3, m4⟩ := wr_one (d + 2) (L := fil L 187 8 0) p2 lH lT2 lU2 hb.2 t1 s3 t4 s6 w0 (ok x1 o1)
      refine ⟨I1, sg, ?_, by rw [c2]; exact WR_d s6 m2, fun k hk => ?_, m4⟩
      · rw [c2, e_X11_explains_0]
        simp only [↓vB lB, ↓mcV_of tb, ↓vB lB2, ↓vP p2, ↓mcV_of m1, if_true]
      · unfold rsb
        rw [if_pos c, if_pos c2]
        exact m3 k hk
    · obtain ⟨I4, sg, m1, m2, m3, m4⟩ := two x2 x1 o2 o1 (Int32.lt_of_le_of_ne c c2)
      refine ⟨I4, sg, m1, WR_y s6 m2, fun k hk => ?_, m4⟩
      unfold rsb
      rw [if_pos c, if_neg c2]
      exact m3 k hk
  · obtain ⟨e1, e2⟩ := jm_lo c
    rw [e1, e2]
    have lt := Int32.not_le.mp c
    obtain ⟨I4, sg, m1, m2, m3, m4⟩ := two x1 x2 o1 o2 lt
    refine ⟨I4, sg, m1, m2, fun k hk => ?_, m4⟩
    unfold rsb
    rw [if_neg c, if_neg (fun p => by rw [p] at lt; exact Int32.lt_irrefl lt)]
    exact m3 k hk
end
