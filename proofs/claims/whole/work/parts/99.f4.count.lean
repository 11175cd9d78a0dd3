/-! calls: things, count -/
def acs (F : Nat → Int32) : Nat → Int32
  | 0 => 0
  | k + 1 => acs F k + F k
theorem acs_c {F F' : Nat → Int32} {n : Nat} (h : ∀ k, k < n → F k = F' k) : acs F n = acs F' n := by
  induction n with
  | zero => rfl
  | succ n ih => show acs F n + F n = acs F' n + F' n; rw [ih fun k hk => h k (by omega), h n (by omega)]
section
variable {G : mG} {I J : Nat → Nat → Int32} {L K : Nat → Nat → Int64} {h n nr : Nat}
theorem r_isTap (d : Nat) {k : Nat} (lM : LayM G 219) (hn : J 220 164 = Int32.ofNat n) (hn8 : n ≤ 8) (ht : ∀ k, k < n → I (h + 12) k = J 220 (144 + k) ∧ irng (J 220 (144 + k)) 0 3) (hk : k < 2147483648) : mcal mT (d + 2) 245 [.ref 219, .int (Int32.ofNat k)] (G, J, K) = some (.inl (some (.int (tap I h n k))), (G, J, K)) := by
  have z1 : ¬ (1 : Int32) = 0 := by decide
  have h0 : ¬ Int32.ofNat k < 0 := i_neg hk
  have e := i_sub1 (n := n) (x := Int32.ofNat k) (by omega) h0
  by_cases c : k < n
  · have w : ¬ (Int32.ofNat k < 0 ∨ Int32.ofNat n - 1 < Int32.ofNat k) := by
      rintro (p | p)
      · exact h0 p
      · exact e.mp p ((i_lt hk (by omega)).mpr c)
    obtain ⟨t1, t2⟩ := ht k c
    have tz : J 220 (144 + k) ≤ 0 ↔ J 220 (144 + k) = 0 := by
      have := t2.1
      constructor
      · intro p
        apply i_inj
        rw [Int32.le_iff_toInt_le] at p
        have e0 : (0 : Int32).toInt = 0 := by decide
        omega
      · intro p; rw [p]; decide
    unfold tap
    rw [if_pos c, t1]
    by_cases c2 : J 220 (144 + k) = 0
    · simp (disch := omega) only [q_X12_isTap_, e_X12_isTap_0, ↓vM lM, ↓mcI_of (r_radiators d lM), hn, r_within, mcI_v, wi_1 w, if_neg z1, ixA, if_pos (tz.mpr c2), e_X12_isTap_31, e_X12_isTap_32, mb0, if_pos c2]
    · simp (disch := omega) only [q_X12_isTap_, e_X12_isTap_0, ↓vM lM, ↓mcI_of (r_radiators d lM), hn, r_within, mcI_v, wi_1 w, if_neg z1, ixA, if_neg (fun p => c2 (tz.mp p)), e_X12_isTap_32, mb1, if_neg c2]
  · have w : Int32.ofNat k < 0 ∨ Int32.ofNat n - 1 < Int32.ofNat k := Or.inr (e.mpr (fun p => c ((i_lt hk (by omega)).mp p)))
    unfold tap
    rw [if_neg c]
    simp (disch := omega) only [q_X12_isTap_, e_X12_isTap_0, ↓vM lM, ↓mcI_of (r_radiators d lM), hn, r_within, mcI_v, wi_0 w, if_true, e_X12_isTap_31, e_X12_isTap_32, mb0]
theorem r_isThing (d : Nat) {w : Nat} (lM : LayM G 219) (hn : J 220 164 = Int32.ofNat n) (hn8 : n ≤ 8) (hnr : J 220 163 = Int32.ofNat nr) (hnr8 : nr ≤ 8) (ht : ∀ k, k < n → I (h + 12) k = J 220 (144 + k) ∧ irng (J 220 (144 + k)) 0 3) (hw : w ≤ 47) : mcal mT (d + 3) 246 [.ref 219, .int (Int32.ofNat w)] (G, J, K) = some (.inl (some (.int (thg I h n nr w))), (G, J, K)) := by
  have hq : w / 10 < 2147483648 := by omega
  have h0 : ¬ Int32.ofNat w < 0 := i_neg (by omega)
  have h47 : Int32.ofNat w ≤ 47 := (i_le (b := 47) (by omega) (by decide)).mpr hw
  have eD : Int32.ofNat w / 10 = Int32.ofNat (w / 10) := i_div (b := 10) (by omega) (by decide)
  have eR : Int32.ofNat w - Int32.ofNat (w / 10) * 10 = Int32.ofNat (w % 10) := by
    have := i_rem (a := w) (b := 10) (by omega) (by decide)
    rw [i_div (by omega) (by decide)] at this
    exact this
  have q0 : (Int32.ofNat (w / 10) = 0) = (w / 10 = 0) := propext (i_eq (b := 0) hq (by decide))
  have q1 : (Int32.ofNat (w / 10) = 1) = (w / 10 = 1) := propext (i_eq (b := 1) hq (by decide))
  have q2 : (Int32.ofNat (w / 10) = 2) = (w / 10 = 2) := propext (i_eq (b := 2) hq (by decide))
  have q3 : (Int32.ofNat (w / 10) = 3) = (w / 10 = 3) := propext (i_eq (b := 3) hq (by decide))
  have p4 : ((4 : Int32) ≤ Int32.ofNat (w % 10)) = (4 ≤ w % 10) := propext (i_le (a := 4) (by decide) (by omega))
  have pr : (Int32.ofNat nr ≤ Int32.ofNat (w % 10)) = (nr ≤ w % 10) := propext (i_le (by omega) (by omega))
  have t1 := r_isTap (I := I) (K := K) d (k := w % 10) lM hn hn8 ht (by omega)
  have t2 := r_isTap (I := I) (K := K) d (k := w % 10 + 1) lM hn hn8 ht (by omega)
  have z10 : ¬ (10 : Nat) = 0 := by decide
  simp only [q_X12_isThing_, e_X12_isThing_0, if_neg h0, if_pos h47, e_X12_isThing_12, if_neg z10, eD, eR, q0, q1, q2, q3, e_X12_isThing_52, e_X12_isThing_58, e_X12_isThing_67, e_X12_isThing_68, e_X12_isThing_69, e_X12_isThing_81, e_X12_isThing_82, e_X12_isThing_83, e_X12_isThing_105, e_X12_isThing_106, ↓vM lM, ↓mcI_of t1, tap_b, p4, ↓mcI_of (r_rooms (d + 1) lM), hnr, pr, i_one, ↓mcI_of t2, mb0, mb1]
  unfold thg
  by_cases d0 : w / 10 = 0
  · rw [if_pos d0, if_pos d0]
  rw [if_neg d0, if_neg d0]
  by_cases d1 : w / 10 = 1
  · rw [if_pos d1, if_pos d1]
  rw [if_neg d1, if_neg d1]
  by_cases d2 : w / 10 = 2
  · rw [if_pos d2, if_pos d2]; split <;> rfl
  rw [if_neg d2, if_neg d2]
  by_cases d3 : w / 10 = 3
  · rw [if_pos d3, if_pos d3]; split <;> rfl
  rw [if_neg d3, if_neg d3, if_pos (show w / 10 = 4 by omega)]
  split
  · rfl
  · split <;> rfl
end
section
variable {z h hs bl bs cl cs nr n nh M hN w lc mc kc ta : Nat} {rm pi mk : Nat → Nat} {G : mG} {I : Nat → Nat → Int32} {L : Nat → Nat → Int64}
theorem ho_tp (q : HoR I h nr n rm pi) : ∀ k, k < n → I (h + 12) k = I 220 (144 + k) ∧ irng (I 220 (144 + k)) 0 3 := by
  intro k hk
  rcases q with ⟨-, a, -⟩ | ⟨-, p, -, -, -, -, t⟩
  · omega
  · exact ⟨(p.2.2.2.2.2.2.2.1 k hk).2.2.1, t k hk⟩
theorem ca_things (d : Nat) (q : Rel z h hs bl bs cl cs nr n nh M hN w lc mc kc ta rm pi mk G I L) (g1 : G.1 ≤ 252 + z + 25 * kc) (g2 : G.2.1 ≤ 60000 + 6 * z + 4000 * kc) (hz : z + 1 ≤ 512) : Ste2 (d + 6) 133 251 [] (z + 1) G I L := by
  obtain ⟨lB, lX, lP, -, ⟨lH1, lH2⟩, ⟨lS, -⟩, ⟨lT, -⟩, ⟨lU, -⟩, lD, -, -, lM, ⟨o1, o2⟩, -, hh, -⟩ := id q.1
  have ho := q.2.1
  obtain ⟨s1, s2, s3, s4, s5, s6⟩ := ho_sz ho
  have lH : LayH G h := by
    rcases hh with ⟨a, -⟩ | ⟨a, -⟩
    · rw [a]; exact lH1
    · rw [a]; exact lH2
  have hb : 103 ≤ h ∧ h + 14 ≤ 132 := by omega
  obtain ⟨-, -, ⟨hF, hHN⟩, hS, ⟨hT, hMz⟩, hU, hD, hTp, hEg, hLg, -, -, -, -⟩ := id q
  have z1 : ¬ (1 : Int32) = 0 := by decide
  have I00 : (va_up I 219 (va_up (I 219) 0 0)) 219 0 = 0 := by rw [up_eq, up_eq]
  have I01 : (va_up I 219 (va_up (I 219) 0 0)) 220 = I 220 := up_ne (by decide)
  have ht := ho_tp ho
  have A := loopy (fun i (s : Int32) => f_X11_things (d + 5) 4 [.ref 100, .int s, .int i] [] (G, I, L)) (fun k => acs (fun w => if thg I h n nr w = 0 then 0 else 1) k) 47 0 rfl (by
    intro k hk
    try dsimp only
    rw [e_X11_things_4, if_neg (show ¬ (46 : Int32) < Int32.ofNat k from fun p => by have := (i_lt (a := 46) (by decide) (by omega)).mp p; omega)]
    have c := c_hasThing (d + 3) (G := G) (I := I) (L := L) (w := k) lH s4 s6 s1 s3 (by omega)
    simp only [↓vB lB, ↓vP lP, ↓vH lH, ↓mcI_of c]
    show _ = f_X11_things (d + 5) 4 [.ref 100, .int (acs (fun w => if thg I h n nr w = 0 then 0 else 1) k + (if thg I h n nr k = 0 then 0 else 1)), .int (Int32.ofNat (k + 1))] [] (G, I, L)
    by_cases c0 : thg I h n nr k = 0
    · rw [if_pos c0, if_pos c0, Int32.add_zero, e_X11_things_27, i_one]
    · rw [if_neg c0, if_neg c0, e_X11_things_27, i_one])
  have B := loopy (fun i (s : Int32) => f_X12_things (d + 5) 9 [.ref 219, .int s, .int i] [] (G, va_up I 219 (va_up (I 219) 0 0), L)) (fun k => acs (fun w => if thg I h n nr w = 0 then 0 else 1) k) 48 0 rfl (by
    intro k hk
    try dsimp only
    rw [e_X12_things_9, if_neg (show ¬ (48 : Int32) ≤ Int32.ofNat k from i_ng (a := 48) hk (by decide))]
    have c := r_isThing (d + 2) (G := G) (I := I) (J := va_up I 219 (va_up (I 219) 0 0)) (K := L) (h := h) (n := n) (nr := nr) (w := k) lM (by rw [I01]; exact s5) s6 (by rw [I01]; exact s2) s3 (by rw [I01]; exact ht) (by omega)
    simp only [↓vM lM, ↓mcI_of c]
    show _ = f_X12_things (d + 5) 9 [.ref 219, .int (acs (fun w => if thg I h n nr w = 0 then 0 else 1) k + (if thg I h n nr k = 0 then 0 else 1)), .int (Int32.ofNat (k + 1))] [] _
    by_cases c0 : thg I h n nr k = 0
    · rw [if_pos c0, if_pos c0, e_X12_things_28, e_X12_things_29, i_one]
    · rw [if_neg c0, if_neg c0, e_X12_things_29, i_one])
  try dsimp only at A B
  have l47 : thg I h n nr 47 = 0 := by
    have t8 : tap I h n 8 = 0 := by unfold tap; rw [if_neg (by omega)]
    unfold thg
    rw [if_neg (by decide), if_neg (by decide), if_neg (by decide), if_neg (by decide), if_pos (by decide)]
    show (if tap I h n 7 = 0 then (0 : Int32) else if tap I h n 8 = 0 then 0 else 1) = 0
    rw [t8]
    split <;> rfl
  have e48 : acs (fun w => if thg I h n nr w = 0 then (0 : Int32) else 1) 48 = acs (fun w => if thg I h n nr w = 0 then 0 else 1) 47 := by
    show acs (fun w => if thg I h n nr w = 0 then (0 : Int32) else 1) 47 + (if thg I h n nr 47 = 0 then 0 else 1) = _
    rw [if_pos l47, Int32.add_zero]
  refine Ste2_q q g1 g2 hz (v := acs (fun w => if thg I h n nr w = 0 then 0 else 1) 47) ?_ ?_
  · rw [q_X11_things_, e_X11_things_0]
    refine Eq.trans A ?_
    rw [e_X11_things_4, if_pos (by decide), e_X11_things_33]
  · rw [q_X12_things_, e_X12_things_0]
    simp only [↓vM lM, up2_e]
    refine Eq.trans B ?_
    rw [e_X12_things_9, if_pos (by decide), e_X12_things_37, e48]
end
