/-! things made wrong -/
def sw (w k : Nat) : Nat := if 40 ≤ w then (if k = w - 40 then k + 1 else if k = w - 39 then k - 1 else k) else k
def mkW (I : Nat → Nat → Int32) (w : Nat) : Nat → Nat → Int32 := if w / 10 = 0 then up2 (up2 I 185 (w % 10) 0) 192 0 (wbt (I 192 0) (Int32.ofNat (w % 10)) 1) else if w / 10 = 1 then up2 (up2 I 185 (w % 10) 16) 192 0 (wbt (I 192 0) (Int32.ofNat (w % 10)) 1) else if w / 10 = 2 then up2 I 178 2 (wbt (I 178 2) (Int32.ofNat (w % 10)) 1) else if w / 10 = 3 then up2 I 178 1 (wbt (I 178 1) (Int32.ofNat (w % 10)) 1) else up2 (up2 I 193 (w % 10) (I 193 (w % 10 + 1))) 193 (w % 10 + 1) (I 193 (w % 10))
theorem tap_lt {I : Nat → Nat → Int32} {h n k : Nat} (q : ¬ tap I h n k = 0) : k < n := by
  by_cases c : k < n
  · exact c
  · unfold tap at q
    rw [if_neg c] at q
    exact absurd rfl q
theorem thg_lt {I : Nat → Nat → Int32} {h n nr w : Nat} (hw : w ≤ 47) (q : ¬ thg I h n nr w = 0) : (w / 10 = 0 ∧ ¬ tap I h n (w % 10) = 0) ∨ (w / 10 = 1 ∧ ¬ tap I h n (w % 10) = 0) ∨ (w / 10 = 2 ∧ w % 10 < 4) ∨ (w / 10 = 3 ∧ w % 10 < nr) ∨ (w / 10 = 4 ∧ w % 10 + 1 < n) := by
  unfold thg at q
  by_cases c0 : w / 10 = 0
  · rw [if_pos c0] at q; exact Or.inl ⟨c0, q⟩
  rw [if_neg c0] at q
  by_cases c1 : w / 10 = 1
  · rw [if_pos c1] at q; exact Or.inr (Or.inl ⟨c1, q⟩)
  rw [if_neg c1] at q
  by_cases c2 : w / 10 = 2
  · rw [if_pos c2] at q
    by_cases c : 4 ≤ w % 10
    · rw [if_pos c] at q; exact absurd rfl q
    · exact Or.inr (Or.inr (Or.inl ⟨c2, by omega⟩))
  rw [if_neg c2] at q
  by_cases c3 : w / 10 = 3
  · rw [if_pos c3] at q
    by_cases c : nr ≤ w % 10
    · rw [if_pos c] at q; exact absurd rfl q
    · exact Or.inr (Or.inr (Or.inr (Or.inl ⟨c3, by omega⟩)))
  rw [if_neg c3, if_pos (show w / 10 = 4 by omega)] at q
  by_cases c : tap I h n (w % 10) = 0
  · rw [if_pos c] at q; exact absurd rfl q
  rw [if_neg c] at q
  by_cases c' : tap I h n (w % 10 + 1) = 0
  · rw [if_pos c'] at q; exact absurd rfl q
  exact Or.inr (Or.inr (Or.inr (Or.inr ⟨by omega, tap_lt c'⟩)))
section
variable {G : mG} {I : Nat → Nat → Int32} {L : Nat → Nat → Int64} {h n nr w : Nat}
theorem c_mkW (d : Nat) (lP : LayP G 156 h 171 178 192) (lH : LayH G h) (lT : LayT G 178) (lU : LayU G 192) (s1 : I h 1 = Int32.ofNat nr) (s3 : nr ≤ 8) (s4 : I h 10 = Int32.ofNat n) (s6 : n ≤ 8) (hw : w ≤ 47) (q : ¬ thg I h n nr w = 0) : mcal mT (d + 4) 70 [.ref 156, .int (Int32.ofNat w)] (G, I, L) = some (.inl none, (G, mkW I w, L)) := by
  have hq : w / 10 < 2147483648 := by omega
  have ht := c_hasThing (d + 1) (G := G) (I := I) (L := L) (w := w) lH s4 s6 s1 s3 (by omega)
  have eD : Int32.ofNat w / 10 = Int32.ofNat (w / 10) := i_div (b := 10) (by omega) (by decide)
  have eR : Int32.ofNat w - Int32.ofNat (w / 10) * 10 = Int32.ofNat (w % 10) := by
    have := i_rem (a := w) (b := 10) (by omega) (by decide)
    rw [i_div (by omega) (by decide)] at this
    exact this
  have q0 : (Int32.ofNat (w / 10) = 0) = (w / 10 = 0) := propext (i_eq (b := 0) hq (by decide))
  have q1 : (Int32.ofNat (w / 10) = 1) = (w / 10 = 1) := propext (i_eq (b := 1) hq (by decide))
  have q2 : (Int32.ofNat (w / 10) = 2) = (w / 10 = 2) := propext (i_eq (b := 2) hq (by decide))
  have q3 : (Int32.ofNat (w / 10) = 3) = (w / 10 = 3) := propext (i_eq (b := 3) hq (by decide))
  have z10 : ¬ (10 : Nat) = 0 := by decide
  rw [q_X6_makeWrong_, e_X6_makeWrong_0]
  simp only [↓vP lP, ↓vH lH, ↓mcI_of ht, if_neg q, e_X6_makeWrong_12, if_neg z10, eD, eR, q0, q1, q2, q3]
  unfold mkW
  have s8 := fun k (hk : k < n) => (show k < 8 by omega)
  rcases thg_lt hw q with ⟨c, t⟩ | ⟨c, t⟩ | ⟨c, t⟩ | ⟨c, t⟩ | ⟨c, t⟩
  · have hk := s8 _ (tap_lt t)
    rw [if_pos c, if_pos c, e_X6_makeWrong_52]
    simp only [↓vP lP, ↓mcV_of (c_holdTap (d + 1) (G := G) (I := I) (L := L) 0 lP lT lU (by decide) hk), e_X6_makeWrong_120]
  · have hk := s8 _ (tap_lt t)
    rw [if_neg (by omega), if_pos c, if_neg (by omega), if_pos c, e_X6_makeWrong_61]
    simp only [↓vP lP, ↓mcV_of (c_holdTap (d + 1) (G := G) (I := I) (L := L) 16 lP lT lU (by decide) hk), e_X6_makeWrong_120]
  · rw [if_neg (by omega), if_neg (by omega), if_pos c, if_neg (by omega), if_neg (by omega), if_pos c, e_X6_makeWrong_71]
    simp only [↓vP lP, ↓vT lT, c_withBit, mcI_v, e_X6_makeWrong_120]
  · rw [if_neg (by omega), if_neg (by omega), if_neg (by omega), if_pos c, if_neg (by omega), if_neg (by omega), if_neg (by omega), if_pos c, e_X6_makeWrong_93]
    simp only [↓vP lP, ↓vT lT, c_withBit, mcI_v, e_X6_makeWrong_120]
  · rw [if_neg (by omega), if_neg (by omega), if_neg (by omega), if_neg (by omega), if_neg (by omega), if_neg (by omega), if_neg (by omega), if_neg (by omega), e_X6_makeWrong_115]
    simp only [↓vP lP, ↓mcV_of (c_exchangeSight (d + 2) (G := G) (I := I) (L := L) lP lU (show w % 10 + 1 < 8 by omega)), e_X6_makeWrong_120]
theorem c_mkN (d : Nat) (lP : LayP G 156 h 171 178 192) (lH : LayH G h) : mcal mT (d + 2) 70 [.ref 156, .int (-1)] (G, I, L) = some (.inl none, (G, I, L)) := by
  have ht : mcal mT (d + 1) 49 [.ref h, .int (-1)] (G, I, L) = some (.inl (some (.int 0)), (G, I, L)) := by
    rw [q_X4_hasThing_, e_X4_hasThing_0, if_neg (by decide), mb0]
  rw [q_X6_makeWrong_, e_X6_makeWrong_0]
  simp only [↓vP lP, ↓vH lH, ↓mcI_of ht, if_true]
end
theorem mkW_fr {I : Nat → Nat → Int32} {w a : Nat} (h1 : a ≠ 185) (h2 : a ≠ 192) (h3 : a ≠ 178) (h4 : a ≠ 193) : mkW I w a = I a := by
  unfold mkW
  by_cases c0 : w / 10 = 0
  · rw [if_pos c0, up2_e, up_ne h2, up2_e, up_ne h1]
  rw [if_neg c0]
  by_cases c1 : w / 10 = 1
  · rw [if_pos c1, up2_e, up_ne h2, up2_e, up_ne h1]
  rw [if_neg c1]
  by_cases c2 : w / 10 = 2
  · rw [if_pos c2, up2_e, up_ne h3]
  rw [if_neg c2]
  by_cases c3 : w / 10 = 3
  · rw [if_pos c3, up2_e, up_ne h3]
  rw [if_neg c3, up2_e, up_ne h4, up2_e, up_ne h4]
/-- codes -/
theorem cdc (c k : Nat) : Int32.ofNat 10 * Int32.ofNat c + Int32.ofNat k = Int32.ofNat (10 * c + k) := by rw [i_mul, i_add]
theorem rw_eq {a : Int32} {w : Nat} : rwr a (Int32.ofNat w) (Int32.ofNat w) = 1 := by
  unfold rwr
  by_cases c : a = Int32.ofNat w
  · rw [if_pos c]
  · rw [if_neg c, if_pos rfl]
theorem rw_ne {a : Int32} {w c : Nat} (hw : w < 2147483648) (hc : c < 2147483648) (h : w ≠ c) : rwr a (Int32.ofNat w) (Int32.ofNat c) = rwr a (-1) (Int32.ofNat c) := by
  unfold rwr
  rw [if_neg (fun p => h ((i_eq hw hc).mp p)), if_neg (show ¬ (-1 : Int32) = Int32.ofNat c from fun p => nm1 hc p.symm)]
theorem rw_01 {a b c : Int32} : rwr a b c = 0 ∨ rwr a b c = 1 := by
  unfold rwr
  by_cases p : a = c
  · rw [if_pos p]; exact Or.inr rfl
  rw [if_neg p]
  by_cases q : b = c
  · rw [if_pos q]; exact Or.inr rfl
  rw [if_neg q]; exact Or.inl rfl
theorem rw_c {a b c : Int32} : rwr a b c = rwr b a c := by
  unfold rwr
  by_cases p : a = c
  · by_cases q : b = c
    · rw [if_pos p, if_pos q]
    · rw [if_pos p, if_neg q, if_pos p]
  · by_cases q : b = c
    · rw [if_neg p, if_pos q, if_pos q]
    · rw [if_neg p, if_neg q, if_neg q, if_neg p]
def WR (I : Nat → Nat → Int32) (h n : Nat) (a b : Int32) (rm sg : Nat → Nat) : Prop :=
  (∀ k, k < n → I 185 k = if tap I h n k = 0 then 16 else if rwr a b (Int32.ofNat (10 * 1 + k)) = 0 then 0 else 16) ∧
  (∀ p, p < 4 → btv (I 178 2) p = rwr a b (Int32.ofNat (10 * 2 + p))) ∧
  (∀ r, r < 8 → btv (I 178 1) r = rwr a b (Int32.ofNat (10 * 3 + r))) ∧
  (∀ k, k < 8 → btv (I 192 0) k = if rwr a b (Int32.ofNat (10 * 0 + k)) = 0 then rwr a b (Int32.ofNat (10 * 1 + k)) else 1) ∧
  (∀ k, k < n → I 193 k = Int32.ofNat (rm (sg k)) ∧ sg k < n)
theorem WR_s {I : Nat → Nat → Int32} {h n nr w : Nat} {a : Int32} {rm sg : Nat → Nat} (hh : h + 14 ≤ 132) (hn8 : n ≤ 8) (hr8 : nr ≤ 8) (q : WR I h n a (-1) rm sg) (hw : w ≤ 47) (ht : ¬ thg I h n nr w = 0) (ha : a < Int32.ofNat w) : WR (mkW I w) h n a (Int32.ofNat w) rm (fun k => sg (sw w k)) := by
  obtain ⟨q1, q2, q3, q4, q5⟩ := q
  have tp : ∀ k, tap (mkW I w) h n k = tap I h n k := fun k => by unfold tap; rw [mkW_fr (by omega) (by omega) (by omega) (by omega)]
  have r1 : ∀ c, c < 100 → w ≠ c → rwr a (Int32.ofNat w) (Int32.ofNat c) = rwr a (-1) (Int32.ofNat c) := fun c h1 h2 => rw_ne (by omega) (by omega) h2
  have z01 : ¬ (1 : Int32) = 0 := by decide
  have s40 : w / 10 ≠ 4 → ∀ k, sw w k = k := fun c k => by unfold sw; rw [if_neg (by omega)]
  unfold WR
  rcases thg_lt hw ht with ⟨c, t⟩ | ⟨c, t⟩ | ⟨c, t⟩ | ⟨c, t⟩ | ⟨c, t⟩
  · have hk := tap_lt t
    have e : mkW I w = up2 (up2 I 185 (w % 10) 0) 192 0 (wbt (I 192 0) (Int32.ofNat (w % 10)) 1) := if_pos c
    have eo : ∀ x, x ≠ 185 → x ≠ 192 → mkW I w x = I x := fun x h1 h2 => by rw [e, up2_e, up_ne h2, up2_e, up_ne h1]
    refine ⟨fun k hk' => ?_, fun p hp => ?_, fun r hr => ?_, fun k hk' => ?_, fun k hk' => ?_⟩
    · rw [tp, r1 _ (by omega) (by omega), e, up2_e, up_ne (by decide), up2_e, up_eq]
      by_cases d : k = w % 10
      · rw [d, up_eq, if_neg t]
        have na : ¬ a = Int32.ofNat (10 * 1 + w % 10) := by
          intro p
          rw [p] at ha
          have := (i_lt (by omega) (by omega)).mp ha
          omega
        unfold rwr
        rw [if_neg na, if_neg (show ¬ (-1 : Int32) = Int32.ofNat (10 * 1 + w % 10) from fun p => nm1 (by omega) p.symm), if_pos rfl]
      · rw [up_ne d]; exact q1 k hk'
    · rw [eo 178 (by decide) (by decide), r1 _ (by omega) (by omega)]; exact q2 p hp
    · rw [eo 178 (by decide) (by decide), r1 _ (by omega) (by omega)]; exact q3 r hr
    · rw [e, up2_e, up_eq, up_eq, wbt_v (by omega) hk']
      by_cases d : k = w % 10
      · rw [if_pos d, if_neg z01, d, show 10 * 0 + w % 10 = w by omega, rw_eq, if_neg z01]
      · rw [if_neg d, r1 _ (by omega) (by omega), r1 _ (by omega) (by omega)]; exact q4 k hk'
    · dsimp only
      rw [eo 193 (by decide) (by decide), s40 (by omega)]; exact q5 k hk'
  · have hk := tap_lt t
    have e : mkW I w = up2 (up2 I 185 (w % 10) 16) 192 0 (wbt (I 192 0) (Int32.ofNat (w % 10)) 1) := (if_neg (by omega)).trans (if_pos c)
    have eo : ∀ x, x ≠ 185 → x ≠ 192 → mkW I w x = I x := fun x h1 h2 => by rw [e, up2_e, up_ne h2, up2_e, up_ne h1]
    refine ⟨fun k hk' => ?_, fun p hp => ?_, fun r hr => ?_, fun k hk' => ?_, fun k hk' => ?_⟩
    · rw [tp, e, up2_e, up_ne (by decide), up2_e, up_eq]
      by_cases d : k = w % 10
      · rw [d, up_eq, if_neg t, show 10 * 1 + w % 10 = w by omega, rw_eq, if_neg z01]
      · rw [up_ne d, r1 _ (by omega) (by omega)]; exact q1 k hk'
    · rw [eo 178 (by decide) (by decide), r1 _ (by omega) (by omega)]; exact q2 p hp
    · rw [eo 178 (by decide) (by decide), r1 _ (by omega) (by omega)]; exact q3 r hr
    · rw [e, up2_e, up_eq, up_eq, wbt_v (by omega) hk']
      by_cases d : k = w % 10
      · rw [if_pos d, if_neg z01, d, show 10 * 1 + w % 10 = w by omega, rw_eq]
        rw [ite_self]
      · rw [if_neg d, r1 _ (by omega) (by omega), r1 _ (by omega) (by omega)]; exact q4 k hk'
    · dsimp only
      rw [eo 193 (by decide) (by decide), s40 (by omega)]; exact q5 k hk'
  · have e : mkW I w = up2 I 178 2 (wbt (I 178 2) (Int32.ofNat (w % 10)) 1) := (if_neg (by omega)).trans ((if_neg (by omega)).trans (if_pos c))
    have eo : ∀ x, x ≠ 178 → mkW I w x = I x := fun x h1 => by rw [e, up2_e, up_ne h1]
    refine ⟨fun k hk' => ?_, fun p hp => ?_, fun r hr => ?_, fun k hk' => ?_, fun k hk' => ?_⟩
    · rw [tp, eo 185 (by decide), r1 _ (by omega) (by omega)]; exact q1 k hk'
    · rw [e, up2_e, up_eq, up_eq, wbt_v (by omega) (by omega)]
      by_cases d : p = w % 10
      · rw [if_pos d, if_neg z01, d, show 10 * 2 + w % 10 = w by omega, rw_eq]
      · rw [if_neg d, r1 _ (by omega) (by omega)]; exact q2 p hp
    · rw [e, up2_e, up_eq, up_ne (by decide), r1 _ (by omega) (by omega)]; exact q3 r hr
    · rw [eo 192 (by decide), r1 _ (by omega) (by omega), r1 _ (by omega) (by omega)]; exact q4 k hk'
    · dsimp only
      rw [eo 193 (by decide), s40 (by omega)]; exact q5 k hk'
  · have e : mkW I w = up2 I 178 1 (wbt (I 178 1) (Int32.ofNat (w % 10)) 1) := (if_neg (by omega)).trans ((if_neg (by omega)).trans ((if_neg (by omega)).trans (if_pos c)))
    have eo : ∀ x, x ≠ 178 → mkW I w x = I x := fun x h1 => by rw [e, up2_e, up_ne h1]
    refine ⟨fun k hk' => ?_, fun p hp => ?_, fun r hr => ?_, fun k hk' => ?_, fun k hk' => ?_⟩
    · rw [tp, eo 185 (by decide), r1 _ (by omega) (by omega)]; exact q1 k hk'
    · rw [e, up2_e, up_eq, up_ne (by decide), r1 _ (by omega) (by omega)]; exact q2 p hp
    · rw [e, up2_e, up_eq, up_eq, wbt_v (by omega) hr]
      by_cases d : r = w % 10
      · rw [if_pos d, if_neg z01, d, show 10 * 3 + w % 10 = w by omega, rw_eq]
      · rw [if_neg d, r1 _ (by omega) (by omega)]; exact q3 r hr
    · rw [eo 192 (by decide), r1 _ (by omega) (by omega), r1 _ (by omega) (by omega)]; exact q4 k hk'
    · dsimp only
      rw [eo 193 (by decide), s40 (by omega)]; exact q5 k hk'
  · have e : mkW I w = up2 (up2 I 193 (w % 10) (I 193 (w % 10 + 1))) 193 (w % 10 + 1) (I 193 (w % 10)) := (if_neg (by omega)).trans ((if_neg (by omega)).trans ((if_neg (by omega)).trans (if_neg (by omega))))
    have eo : ∀ x, x ≠ 193 → mkW I w x = I x := fun x h1 => by rw [e, up2_e, up_ne h1, up2_e, up_ne h1]
    refine ⟨fun k hk' => ?_, fun p hp => ?_, fun r hr => ?_, fun k hk' => ?_, fun k hk' => ?_⟩
    · rw [tp, eo 185 (by decide), r1 _ (by omega) (by omega)]; exact q1 k hk'
    · rw [eo 178 (by decide), r1 _ (by omega) (by omega)]; exact q2 p hp
    · rw [eo 178 (by decide), r1 _ (by omega) (by omega)]; exact q3 r hr
    · rw [eo 192 (by decide), r1 _ (by omega) (by omega), r1 _ (by omega) (by omega)]; exact q4 k hk'
    · dsimp only
      rw [e, up2_e, up_eq, up2_e, up_eq]
      unfold sw
      rw [if_pos (show 40 ≤ w by omega)]
      by_cases d1 : k = w % 10
      · rw [d1, up_ne (by omega), up_eq, if_pos (show w % 10 = w - 40 by omega)]
        exact q5 (w % 10 + 1) t
      · by_cases d2 : k = w % 10 + 1
        · rw [d2, up_eq, if_neg (show ¬ w % 10 + 1 = w - 40 by omega), if_pos (show w % 10 + 1 = w - 39 by omega), Nat.add_sub_cancel]
          exact q5 (w % 10) (by omega)
        · rw [up_ne d2, up_ne d1, if_neg (by omega), if_neg (by omega)]
          exact q5 k hk'
