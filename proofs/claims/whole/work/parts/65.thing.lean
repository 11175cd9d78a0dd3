/-! whether a thing may be wrong -/
def thg (I : Nat → Nat → Int32) (h n r w : Nat) : Int32 := if w / 10 = 0 then tap I h n (w % 10) else if w / 10 = 1 then tap I h n (w % 10) else if w / 10 = 2 then (if 4 ≤ w % 10 then 0 else 1) else if w / 10 = 3 then (if r ≤ w % 10 then 0 else 1) else if w / 10 = 4 then (if tap I h n (w % 10) = 0 then 0 else if tap I h n (w % 10 + 1) = 0 then 0 else 1) else 0
theorem tap_b {I : Nat → Nat → Int32} {h n k : Nat} {X : Option mO} : mbool (tap I h n k) X = X := by
  unfold tap
  split
  · split
    · exact mb0
    · exact mb1
  · exact mb0
theorem c_hasThing (d : Nat) {G : mG} {I : Nat → Nat → Int32} {L : Nat → Nat → Int64} {h n r w : Nat} (hH : LayH G h) (hn : I h 10 = Int32.ofNat n) (hn8 : n ≤ 8) (hr1 : I h 1 = Int32.ofNat r) (hr8 : r ≤ 8) (hw : w < 2147483648) : mcal mT (d + 2) 49 [.ref h, .int (Int32.ofNat w)] (G, I, L) = some (.inl (some (.int (thg I h n r w))), (G, I, L)) := by
  have hq : w / 10 < 2147483648 := Nat.lt_of_le_of_lt (Nat.div_le_self w 10) hw
  have hm : w % 10 < 10 := Nat.mod_lt _ (by decide)
  have h0 : (0 : Int32) ≤ Int32.ofNat w := (i_le (a := 0) (by decide) hw).mpr (Nat.zero_le _)
  have eD : Int32.ofNat w / 10 = Int32.ofNat (w / 10) := i_div (b := 10) hw (by decide)
  have eR : Int32.ofNat w - Int32.ofNat (w / 10) * 10 = Int32.ofNat (w % 10) := by
    have := i_rem (a := w) (b := 10) hw (by decide)
    rw [i_div hw (by decide)] at this
    exact this
  have q0 : (Int32.ofNat (w / 10) = 0) = (w / 10 = 0) := propext (i_eq (b := 0) hq (by decide))
  have q1 : (Int32.ofNat (w / 10) = 1) = (w / 10 = 1) := propext (i_eq (b := 1) hq (by decide))
  have q2 : (Int32.ofNat (w / 10) = 2) = (w / 10 = 2) := propext (i_eq (b := 2) hq (by decide))
  have q3 : (Int32.ofNat (w / 10) = 3) = (w / 10 = 3) := propext (i_eq (b := 3) hq (by decide))
  have q4 : (Int32.ofNat (w / 10) = 4) = (w / 10 = 4) := propext (i_eq (b := 4) hq (by decide))
  have p4 : ((4 : Int32) ≤ Int32.ofNat (w % 10)) = (4 ≤ w % 10) := propext (i_le (a := 4) (by decide) (by omega))
  have pr : (Int32.ofNat r ≤ Int32.ofNat (w % 10)) = (r ≤ w % 10) := propext (i_le (by omega) (by omega))
  have t1 := fun L' => c_hasTap d (G := G) (I := I) (L := L') (k := w % 10) hH hn hn8 (by omega)
  have t2 := fun L' => c_hasTap d (G := G) (I := I) (L := L') (k := w % 10 + 1) hH hn hn8 (by omega)
  have z10 : ¬ (10 : Nat) = 0 := by decide
  simp only [q_X4_hasThing_, e_X4_hasThing_0, if_pos h0, e_X4_hasThing_6, if_neg z10, eD, eR, q0, q1, q2, q3, q4, e_X4_hasThing_48, e_X4_hasThing_54, e_X4_hasThing_63, e_X4_hasThing_64, e_X4_hasThing_65, e_X4_hasThing_77, e_X4_hasThing_78, e_X4_hasThing_79, e_X4_hasThing_101, e_X4_hasThing_102, e_X4_hasThing_103, ↓vH hH, t1, mcI_v, tap_b, p4, hr1, pr, i_one, t2, mb0, mb1]
  unfold thg
  repeat' split
  all_goals rfl
