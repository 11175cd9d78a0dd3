/-! a trial from the beginning -/
theorem jm_lo {x y : Int32} (h : ¬ y ≤ x) : jmin x y = x ∧ jmax x y = y := by
  rw [Int32.le_iff_toInt_le] at h
  constructor
  · apply i_inj; rw [jmin_t]; omega
  · apply i_inj; rw [jmax_t]; omega
theorem jm_hi {x y : Int32} (h : y ≤ x) : jmin x y = y ∧ jmax x y = x := by
  rw [Int32.le_iff_toInt_le] at h
  constructor
  · apply i_inj; rw [jmin_t]; omega
  · apply i_inj; rw [jmax_t]; omega
theorem rex_w : ∀ w, w ≤ 47 → ∀ k, k < 8 → rex (Int32.ofNat k) (Int32.ofNat w) = Int32.ofNat (sw w k) := by decide +kernel
theorem rex_n (k : Int32) : rex k (-1) = k := by
  unfold rex
  rw [if_neg (by decide)]
theorem rw_nn {c : Nat} (hc : c < 2147483648) : rwr (-1) (-1) (Int32.ofNat c) = 0 := by
  unfold rwr
  have : ¬ (-1 : Int32) = Int32.ofNat c := fun p => nm1 hc p.symm
  rw [if_neg this, if_neg this]
theorem rw_d {x : Int32} {c : Nat} (hc : c < 2147483648) : rwr x x (Int32.ofNat c) = rwr (-1) x (Int32.ofNat c) := by
  unfold rwr
  have : ¬ (-1 : Int32) = Int32.ofNat c := fun p => nm1 hc p.symm
  rw [if_neg this]
  by_cases p : x = Int32.ofNat c
  · rw [if_pos p, if_pos p]
  · rw [if_neg p, if_neg p]
def OkT (I : Nat → Nat → Int32) (h n nr : Nat) (x : Int32) : Prop := x = -1 ∨ ∃ w, w ≤ 47 ∧ x = Int32.ofNat w ∧ ¬ thg I h n nr w = 0
def FrW (I I' : Nat → Nat → Int32) : Prop := (∀ x, x ≠ 185 → x ≠ 192 → x ≠ 178 → x ≠ 193 → I' x = I x) ∧ ∀ k, k ≠ 1 → k ≠ 2 → I' 178 k = I 178 k
theorem FrW_t {I I' I'' : Nat → Nat → Int32} (a : FrW I I') (b : FrW I' I'') : FrW I I'' := ⟨fun x h1 h2 h3 h4 => (b.1 x h1 h2 h3 h4).trans (a.1 x h1 h2 h3 h4), fun k h1 h2 => (b.2 k h1 h2).trans (a.2 k h1 h2)⟩
theorem mkW_f {I : Nat → Nat → Int32} {w : Nat} : FrW I (mkW I w) := by
  refine ⟨fun x h1 h2 h3 h4 => mkW_fr h1 h2 h3 h4, fun k h1 h2 => ?_⟩
  unfold mkW
  by_cases c0 : w / 10 = 0
  · rw [if_pos c0, up2_e, up_ne (by decide), up2_e, up_ne (by decide)]
  rw [if_neg c0]
  by_cases c1 : w / 10 = 1
  · rw [if_pos c1, up2_e, up_ne (by decide), up2_e, up_ne (by decide)]
  rw [if_neg c1]
  by_cases c2 : w / 10 = 2
  · rw [if_pos c2, up2_e, up_eq, up_ne h2]
  rw [if_neg c2]
  by_cases c3 : w / 10 = 3
  · rw [if_pos c3, up2_e, up_eq, up_ne h1]
  rw [if_neg c3, up2_e, up_ne (by decide), up2_e, up_ne (by decide)]
section
variable {I I' : Nat → Nat → Int32} {h n nr : Nat} {a b x : Int32} {rm sg : Nat → Nat}
theorem WR_y (hn8 : n ≤ 8) (q : WR I h n a b rm sg) : WR I h n b a rm sg := by
  unfold WR at q ⊢
  obtain ⟨q1, q2, q3, q4, q5⟩ := q
  refine ⟨fun k hk => ?_, fun k hk => ?_, fun k hk => ?_, fun k hk => ?_, q5⟩
  · rw [rw_c]; exact q1 k hk
  · rw [rw_c]; exact q2 k hk
  · rw [rw_c]; exact q3 k hk
  · rw [rw_c, rw_c (c := Int32.ofNat (10 * 1 + k))]; exact q4 k hk
theorem WR_d (hn8 : n ≤ 8) (q : WR I h n (-1) x rm sg) : WR I h n x x rm sg := by
  obtain ⟨q1, q2, q3, q4, q5⟩ := q
  refine ⟨fun k hk => ?_, fun k hk => ?_, fun k hk => ?_, fun k hk => ?_, q5⟩
  · rw [rw_d (by omega)]; exact q1 k hk
  · rw [rw_d (by omega)]; exact q2 k hk
  · rw [rw_d (by omega)]; exact q3 k hk
  · rw [rw_d (by omega), rw_d (by omega)]; exact q4 k hk
theorem thg_c (hh : h + 14 ≤ 132) (f : FrW I I') (w : Nat) : thg I' h n nr w = thg I h n nr w := by
  have : ∀ k, tap I' h n k = tap I h n k := fun k => by unfold tap; rw [f.1 (h + 12) (by omega) (by omega) (by omega) (by omega)]
  unfold thg
  rw [this, this]
theorem OkT_c (hh : h + 14 ≤ 132) (f : FrW I I') (q : OkT I h n nr x) : OkT I' h n nr x := by
  rcases q with q | ⟨w, w1, w2, w3⟩
  · exact Or.inl q
  · exact Or.inr ⟨w, w1, w2, by rw [thg_c hh f]; exact w3⟩
variable {G : mG} {L : Nat → Nat → Int64}
/-- one thing made wrong -/
theorem wr_one (d : Nat) (lP : LayP G 156 h 171 178 192) (lH : LayH G h) (lT : LayT G 178) (lU : LayU G 192) (hh : h + 14 ≤ 132) (s1 : I h 1 = Int32.ofNat nr) (s3 : nr ≤ 8) (s4 : I h 10 = Int32.ofNat n) (s6 : n ≤ 8) (q : WR I h n (-1) (-1) rm (fun k => k)) (hx : OkT I h n nr x) : ∃ I' sg, mcal mT (d + 4) 70 [.ref 156, .int x] (G, I, L) = some (.inl none, (G, I', L)) ∧ WR I' h n (-1) x rm sg ∧ (∀ k, k < n → rex (Int32.ofNat k) x = Int32.ofNat (sg k)) ∧ FrW I I' := by
  rcases hx with rfl | ⟨w, w1, rfl, w3⟩
  · exact ⟨I, fun k => k, c_mkN (d + 2) lP lH, q, fun k _ => rex_n _, ⟨fun _ _ _ _ _ => rfl, fun _ _ _ => rfl⟩⟩
  · refine ⟨mkW I w, sw w, c_mkW d lP lH lT lU s1 s3 s4 s6 w1 w3, ?_, fun k hk => rex_w w w1 k (by omega), mkW_f⟩
    exact WR_s (nr := nr) hh s6 s3 q w1 w3 (by
      rw [Int32.lt_iff_toInt_lt, i_of (by omega)]
      have : (-1 : Int32).toInt = -1 := by decide
      omega)
theorem wr_two (d : Nat) (lP : LayP G 156 h 171 178 192) (lH : LayH G h) (lT : LayT G 178) (lU : LayU G 192) (hh : h + 14 ≤ 132) (s1 : I h 1 = Int32.ofNat nr) (s3 : nr ≤ 8) (s4 : I h 10 = Int32.ofNat n) (s6 : n ≤ 8) (q : WR I h n (-1) (-1) rm (fun k => k)) (ha : OkT I h n nr a) (hb : OkT I h n nr b) (hab : a < b) : ∃ I1 I' sg, mcal mT (d + 4) 70 [.ref 156, .int a] (G, I, L) = some (.inl none, (G, I1, L)) ∧ mcal mT (d + 4) 70 [.ref 156, .int b] (G, I1, L) = some (.inl none, (G, I', L)) ∧ WR I' h n a b rm sg ∧ (∀ k, k < n → rex (rex (Int32.ofNat k) b) a = Int32.ofNat (sg k)) ∧ FrW I I' := by
  obtain ⟨I1, sg, p1, p2, p3, p4⟩ := wr_one d (L := L) lP lH lT lU hh s1 s3 s4 s6 q ha
  have p2' := WR_y s6 p2
  have m1 : (-1 : Int32).toInt = -1 := by decide
  rcases OkT_c hh p4 hb with rfl | ⟨w, w1, rfl, w3⟩
  · exfalso
    rw [Int32.lt_iff_toInt_lt, m1] at hab
    rcases ha with rfl | ⟨w, w1, rfl, -⟩
    · rw [m1] at hab; omega
    · rw [i_of (by omega)] at hab; omega
  · have hf : ∀ x, h ≤ x → x < h + 14 → I1 x = I x := fun x h1 h2 => p4.1 x (by omega) (by omega) (by omega) (by omega)
    have q2 := WR_s (nr := nr) hh s6 s3 p2' w1 w3 hab
    refine ⟨I1, mkW I1 w, fun k => sg (sw w k), p1, c_mkW d lP lH lT lU (by rw [hf h (by omega) (by omega)]; exact s1) s3 (by rw [hf h (by omega) (by omega)]; exact s4) s6 w1 w3, q2, fun k hk => ?_, FrW_t p4 mkW_f⟩
    rw [rex_w w w1 k (by omega)]
    refine p3 (sw w k) ?_
    rcases thg_lt w1 w3 with ⟨c, t⟩ | ⟨c, t⟩ | ⟨c, t⟩ | ⟨c, t⟩ | ⟨c, t⟩
    · unfold sw; rw [if_neg (by omega)]; exact hk
    · unfold sw; rw [if_neg (by omega)]; exact hk
    · unfold sw; rw [if_neg (by omega)]; exact hk
    · unfold sw; rw [if_neg (by omega)]; exact hk
    · unfold sw
      rw [if_pos (by omega)]
      split
      · omega
      · split <;> omega
end
section
variable {I J : Nat → Nat → Int32} {h nr n nh : Nat} {rm pi sg : Nat → Nat}
theorem bg_cor (hH : HsR I J h 219 nr n rm pi) (hS : SeR I 171 (J 223) n nh) (hW : WR I h n (J 219 15) (J 219 16) rm sg) (hsg : ∀ k, k < n → rsb (J 219 15) (J 219 16) (Int32.ofNat k) = Int32.ofNat (sg k)) (t0 : I 178 0 = 0) (m0 : J 223 71 = 0) (ht : ∀ r, r < nr → I 179 r = J 223 r ∧ irng (J 223 r) (-9999) 9999) (ho : ∀ k, k < n → ¬ J 220 (144 + k) = 0 → J 223 (8 + k) = 0) (hp : ∀ p, p < 4 → J 223 (40 + p) = 0) (ha : ∀ r, r < 8 → J 223 (32 + r) = 0) (j18 : J 219 18 = -1) (j20 : J 219 20 = 0) (j21 : J 219 21 = 0) (hg : ∀ k, k < n → I 194 k = J 220 (152 + k)) : CoR I J 171 178 192 219 nr n nh nh sg (fun k => rm (sg k)) 0 := by
  have hn8 := hH.1.2.2.2.2.2
  have hnr8 := hH.1.2.2.1
  obtain ⟨w1, w2, w3, w4, w5⟩ := hW
  have h6 := hH.2.2.2.2.2.1
  have h8 := hH.2.2.2.2.2.2.2.1
  have z01 : ¬ (0 : Int32) = 1 := by decide
  have e0 : ∀ k, (10 : Int32) * 0 + Int32.ofNat k = Int32.ofNat (10 * 0 + k) := fun k => cdc 0 k
  have e1 : ∀ k, (10 : Int32) * 1 + Int32.ofNat k = Int32.ofNat (10 * 1 + k) := fun k => cdc 1 k
  have e2 : ∀ k, (10 : Int32) * 2 + Int32.ofNat k = Int32.ofNat (10 * 2 + k) := fun k => cdc 2 k
  have e3 : ∀ k, (10 : Int32) * 3 + Int32.ofNat k = Int32.ofNat (10 * 3 + k) := fun k => cdc 3 k
  have tz : ∀ k, k < n → (tap I h n k = 0 ↔ J 220 (144 + k) = 0) := by
    intro k hk
    have e : I (h + 12) k = J 220 (144 + k) := (h8 k hk).2.2.1
    unfold tap
    rw [if_pos hk, e]
    by_cases c : J 220 (144 + k) = 0
    · rw [if_pos c]; exact ⟨fun _ => c, fun _ => rfl⟩
    · rw [if_neg c]; exact ⟨fun p => absurd p (by decide), fun p => absurd p c⟩
  refine ⟨⟨t0, m0⟩, ht, fun k hk => ?_, hS.1, hS.2.1, hS.2.2.2.1, fun p hp' => ?_, fun r hr => ?_, fun hr h24 => ?_, ⟨hS.2.2.2.2.2.1.1, hS.2.2.2.2.2.1.2.2, hS.2.2.2.2.2.1.2.1, hS.2.2.2.2.2.1.2.2, fun x => by rw [j21]; exact off_e hS x⟩, fun k hk => ?_, fun k hk hz => ?_, fun k hk => ?_⟩
  · have v : I 185 k = rov (J 219 15) (J 219 16) (J 220) (J 223) k := by
      rw [w1 k hk]
      unfold rov
      rw [e1, e0]
      by_cases c : J 220 (144 + k) = 0
      · rw [if_pos ((tz k hk).mpr c), if_pos c]
      · rw [if_neg (fun p => c ((tz k hk).mp p)), if_neg c, ho k hk c, ite_self]
    refine ⟨v, ?_⟩
    show irng (I 185 k) 0 16
    rw [w1 k hk]
    unfold irng
    split
    · decide
    · split <;> decide
  · show btv (I 178 2) p = 0 ↔ ¬ J 223 (40 + p) = 1 ∧ _
    rw [w2 p hp', hp p hp', e2]
    exact ⟨fun q => ⟨z01, q⟩, fun q => q.2⟩
  · show btv (I 178 1) r = 0 ↔ raj _ _ (J 223) r = 0
    rw [w3 r (by omega)]
    unfold raj
    rw [ha r (by omega), if_neg z01, e3]
    rcases rw_01 (a := J 219 15) (b := J 219 16) (c := Int32.ofNat (10 * 3 + r)) with q | q
    · rw [q, if_pos rfl]
    · rw [q, if_neg (by decide)]
  · unfold rou
    rw [j20, if_pos rfl]
    exact hS.2.2.1 hr h24
  · obtain ⟨v1, v2⟩ := w5 k hk
    exact ⟨v1, (h6 _ v2).2.2, hsg k hk, by omega, (h6 _ v2).2.1⟩
  · show btv (I 192 0) k = 0 ↔ _
    rw [w4 k (by omega), e0, e1]
    by_cases c : rwr (J 219 15) (J 219 16) (Int32.ofNat (10 * 0 + k)) = 0
    · rw [if_pos c]; exact ⟨fun p => ⟨c, p⟩, fun p => p.2⟩
    · rw [if_neg c]; exact ⟨fun p => absurd p (by decide), fun p => absurd p.1 c⟩
  · show I 194 k = J 220 (152 + k) + _
    rw [hg k hk, j18, if_neg (show ¬ (-1 : Int32) = Int32.ofNat k from fun p => nm1 (by omega) p.symm), Int32.add_zero]
end
