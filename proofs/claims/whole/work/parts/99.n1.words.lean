/-! the words themselves -/
abbrev wd_snap : List Nat := [115, 110, 97, 112]
theorem lt_snap : lets wd_snap := by unfold lets; decide
abbrev wd_slow : List Nat := [115, 108, 111, 119]
theorem lt_slow : lets wd_slow := by unfold lets; decide
abbrev wd_draught : List Nat := [100, 114, 97, 117, 103, 104, 116]
theorem lt_draught : lets wd_draught := by unfold lets; decide
abbrev wd_room : List Nat := [114, 111, 111, 109]
theorem lt_room : lets wd_room := by unfold lets; decide
abbrev wd_wall : List Nat := [119, 97, 108, 108]
theorem lt_wall : lets wd_wall := by unfold lets; decide
abbrev wd_outer : List Nat := [111, 117, 116, 101, 114]
theorem lt_outer : lets wd_outer := by unfold lets; decide
abbrev wd_window : List Nat := [119, 105, 110, 100, 111, 119]
theorem lt_window : lets wd_window := by unfold lets; decide
abbrev wd_sun : List Nat := [115, 117, 110]
theorem lt_sun : lets wd_sun := by unfold lets; decide
abbrev wd_radiator : List Nat := [114, 97, 100, 105, 97, 116, 111, 114]
theorem lt_radiator : lets wd_radiator := by unfold lets; decide
abbrev wd_pump : List Nat := [112, 117, 109, 112]
theorem lt_pump : lets wd_pump := by unfold lets; decide
abbrev wd_boiler : List Nat := [98, 111, 105, 108, 101, 114]
theorem lt_boiler : lets wd_boiler := by unfold lets; decide
abbrev wd_meter : List Nat := [109, 101, 116, 101, 114]
theorem lt_meter : lets wd_meter := by unfold lets; decide
abbrev wd_size : List Nat := [115, 105, 122, 101]
theorem lt_size : lets wd_size := by unfold lets; decide
abbrev wd_all : List Nat := [97, 108, 108]
theorem lt_all : lets wd_all := by unfold lets; decide
abbrev wd_many : List Nat := [109, 97, 110, 121]
theorem lt_many : lets wd_many := by unfold lets; decide
abbrev wd_set : List Nat := [115, 101, 116]
theorem lt_set : lets wd_set := by unfold lets; decide
abbrev wd_or : List Nat := [111, 114]
theorem lt_or : lets wd_or := by unfold lets; decide
abbrev wd_and : List Nat := [97, 110, 100]
theorem lt_and : lets wd_and := by unfold lets; decide
abbrev wd_not : List Nat := [110, 111, 116]
theorem lt_not : lets wd_not := by unfold lets; decide
abbrev wd_under : List Nat := [117, 110, 100, 101, 114]
theorem lt_under : lets wd_under := by unfold lets; decide
abbrev wd_over : List Nat := [111, 118, 101, 114]
theorem lt_over : lets wd_over := by unfold lets; decide
abbrev wd_opened : List Nat := [111, 112, 101, 110, 101, 100]
theorem lt_opened : lets wd_opened := by unfold lets; decide
abbrev wd_got : List Nat := [103, 111, 116]
theorem lt_got : lets wd_got := by unfold lets; decide
section
variable {G : mG} {J : Nat → Nat → Int32} {K : Nat → Nat → Int64}
theorem o_snap (d : Nat) : mcal mT (d + 1) 185 [.ref 1] (G, J, K) = some (.inl (some (.long (Int64.ofNat (wsm wd_snap)))), (G, J, K)) := r_of d 1 (t := [115, 110, 97, 112]) (fun _ => rfl) rfl lt_snap (by decide)
theorem o_slow (d : Nat) : mcal mT (d + 1) 185 [.ref 2] (G, J, K) = some (.inl (some (.long (Int64.ofNat (wsm wd_slow)))), (G, J, K)) := r_of d 2 (t := [115, 108, 111, 119]) (fun _ => rfl) rfl lt_slow (by decide)
theorem o_draught (d : Nat) : mcal mT (d + 1) 185 [.ref 3] (G, J, K) = some (.inl (some (.long (Int64.ofNat (wsm wd_draught)))), (G, J, K)) := r_of d 3 (t := [100, 114, 97, 117, 103, 104, 116]) (fun _ => rfl) rfl lt_draught (by decide)
theorem o_room (d : Nat) : mcal mT (d + 1) 185 [.ref 4] (G, J, K) = some (.inl (some (.long (Int64.ofNat (wsm wd_room)))), (G, J, K)) := r_of d 4 (t := [114, 111, 111, 109]) (fun _ => rfl) rfl lt_room (by decide)
theorem o_wall (d : Nat) : mcal mT (d + 1) 185 [.ref 5] (G, J, K) = some (.inl (some (.long (Int64.ofNat (wsm wd_wall)))), (G, J, K)) := r_of d 5 (t := [119, 97, 108, 108]) (fun _ => rfl) rfl lt_wall (by decide)
theorem o_outer (d : Nat) : mcal mT (d + 1) 185 [.ref 6] (G, J, K) = some (.inl (some (.long (Int64.ofNat (wsm wd_outer)))), (G, J, K)) := r_of d 6 (t := [111, 117, 116, 101, 114]) (fun _ => rfl) rfl lt_outer (by decide)
theorem o_window (d : Nat) : mcal mT (d + 1) 185 [.ref 7] (G, J, K) = some (.inl (some (.long (Int64.ofNat (wsm wd_window)))), (G, J, K)) := r_of d 7 (t := [119, 105, 110, 100, 111, 119]) (fun _ => rfl) rfl lt_window (by decide)
theorem o_sun (d : Nat) : mcal mT (d + 1) 185 [.ref 8] (G, J, K) = some (.inl (some (.long (Int64.ofNat (wsm wd_sun)))), (G, J, K)) := r_of d 8 (t := [115, 117, 110]) (fun _ => rfl) rfl lt_sun (by decide)
theorem o_radiator (d : Nat) : mcal mT (d + 1) 185 [.ref 9] (G, J, K) = some (.inl (some (.long (Int64.ofNat (wsm wd_radiator)))), (G, J, K)) := r_of d 9 (t := [114, 97, 100, 105, 97, 116, 111, 114]) (fun _ => rfl) rfl lt_radiator (by decide)
theorem o_pump (d : Nat) : mcal mT (d + 1) 185 [.ref 10] (G, J, K) = some (.inl (some (.long (Int64.ofNat (wsm wd_pump)))), (G, J, K)) := r_of d 10 (t := [112, 117, 109, 112]) (fun _ => rfl) rfl lt_pump (by decide)
theorem o_boiler (d : Nat) : mcal mT (d + 1) 185 [.ref 11] (G, J, K) = some (.inl (some (.long (Int64.ofNat (wsm wd_boiler)))), (G, J, K)) := r_of d 11 (t := [98, 111, 105, 108, 101, 114]) (fun _ => rfl) rfl lt_boiler (by decide)
theorem o_meter (d : Nat) : mcal mT (d + 1) 185 [.ref 12] (G, J, K) = some (.inl (some (.long (Int64.ofNat (wsm wd_meter)))), (G, J, K)) := r_of d 12 (t := [109, 101, 116, 101, 114]) (fun _ => rfl) rfl lt_meter (by decide)
theorem o_size (d : Nat) : mcal mT (d + 1) 185 [.ref 13] (G, J, K) = some (.inl (some (.long (Int64.ofNat (wsm wd_size)))), (G, J, K)) := r_of d 13 (t := [115, 105, 122, 101]) (fun _ => rfl) rfl lt_size (by decide)
theorem o_all (d : Nat) : mcal mT (d + 1) 185 [.ref 14] (G, J, K) = some (.inl (some (.long (Int64.ofNat (wsm wd_all)))), (G, J, K)) := r_of d 14 (t := [97, 108, 108]) (fun _ => rfl) rfl lt_all (by decide)
theorem o_many (d : Nat) : mcal mT (d + 1) 185 [.ref 15] (G, J, K) = some (.inl (some (.long (Int64.ofNat (wsm wd_many)))), (G, J, K)) := r_of d 15 (t := [109, 97, 110, 121]) (fun _ => rfl) rfl lt_many (by decide)
theorem o_set (d : Nat) : mcal mT (d + 1) 185 [.ref 16] (G, J, K) = some (.inl (some (.long (Int64.ofNat (wsm wd_set)))), (G, J, K)) := r_of d 16 (t := [115, 101, 116]) (fun _ => rfl) rfl lt_set (by decide)
theorem o_or (d : Nat) : mcal mT (d + 1) 185 [.ref 17] (G, J, K) = some (.inl (some (.long (Int64.ofNat (wsm wd_or)))), (G, J, K)) := r_of d 17 (t := [111, 114]) (fun _ => rfl) rfl lt_or (by decide)
theorem o_and (d : Nat) : mcal mT (d + 1) 185 [.ref 18] (G, J, K) = some (.inl (some (.long (Int64.ofNat (wsm wd_and)))), (G, J, K)) := r_of d 18 (t := [97, 110, 100]) (fun _ => rfl) rfl lt_and (by decide)
theorem o_not (d : Nat) : mcal mT (d + 1) 185 [.ref 19] (G, J, K) = some (.inl (some (.long (Int64.ofNat (wsm wd_not)))), (G, J, K)) := r_of d 19 (t := [110, 111, 116]) (fun _ => rfl) rfl lt_not (by decide)
theorem o_under (d : Nat) : mcal mT (d + 1) 185 [.ref 20] (G, J, K) = some (.inl (some (.long (Int64.ofNat (wsm wd_under)))), (G, J, K)) := r_of d 20 (t := [117, 110, 100, 101, 114]) (fun _ => rfl) rfl lt_under (by decide)
theorem o_over (d : Nat) : mcal mT (d + 1) 185 [.ref 21] (G, J, K) = some (.inl (some (.long (Int64.ofNat (wsm wd_over)))), (G, J, K)) := r_of d 21 (t := [111, 118, 101, 114]) (fun _ => rfl) rfl lt_over (by decide)
theorem o_opened (d : Nat) : mcal mT (d + 1) 185 [.ref 22] (G, J, K) = some (.inl (some (.long (Int64.ofNat (wsm wd_opened)))), (G, J, K)) := r_of d 22 (t := [111, 112, 101, 110, 101, 100]) (fun _ => rfl) rfl lt_opened (by decide)
theorem o_got (d : Nat) : mcal mT (d + 1) 185 [.ref 23] (G, J, K) = some (.inl (some (.long (Int64.ofNat (wsm wd_got)))), (G, J, K)) := r_of d 23 (t := [103, 111, 116]) (fun _ => rfl) rfl lt_got (by decide)
end
section
variable {G : mG} {I : Nat → Nat → Int32} {L : Nat → Nat → Int64} {B : Nat → Nat} {e a : Nat}
theorem tw_24 (d : Nat) (lX : LayX G 101) (q : TxR B e a I) : ∃ I', mcal mT (d + 2) 95 [.ref 101, .ref 24] (G, I, L) = some (.inl (some (.int (if isw wd_meter B (skb B e a) (wde B e a) then Int32.ofNat 0 else if isw wd_size B (skb B e a) (wde B e a) then Int32.ofNat 1 else if isw wd_all B (skb B e a) (wde B e a) then Int32.ofNat 2 else if isw wd_many B (skb B e a) (wde B e a) then Int32.ofNat 3 else if isw wd_set B (skb B e a) (wde B e a) then Int32.ofNat 4 else -1))), (G, I', L)) ∧ TxO I I' ∧ TxR B e (wde B e a) I' ∧ I' 101 4 = Int32.ofNat (skb B e a) ∧ ∀ k, 5 ≤ k → I' 101 k = I 101 k := by
  obtain ⟨I', c1, c2, c3, c4, c5⟩ := tk_word d 24 (L := L) lX q
  have hp := (wde_b (B := B) q.2.2.1).1
  refine ⟨I', ?_, c2, c3, c4, c5⟩
  rw [c1]
  refine (c_seg d 24 0 (t := [109, 101, 116, 101, 114, 32, 115, 105, 122, 101, 32, 97, 108, 108, 32, 109, 97, 110, 121, 32, 115, 101, 116]) (w := wd_meter) (bs := 0) lX c3 c4 hp (fun _ => rfl) (by decide) (by decide) (by decide) (by decide)).trans ?_
  by_cases h0 : isw wd_meter B (skb B e a) (wde B e a)
  · rw [if_pos h0, if_pos h0]
  rw [if_neg h0, if_neg h0]
  refine (c_seg d 24 1 (t := [109, 101, 116, 101, 114, 32, 115, 105, 122, 101, 32, 97, 108, 108, 32, 109, 97, 110, 121, 32, 115, 101, 116]) (w := wd_size) (bs := 6) lX c3 c4 hp (fun _ => rfl) (by decide) (by decide) (by decide) (by decide)).trans ?_
  by_cases h1 : isw wd_size B (skb B e a) (wde B e a)
  · rw [if_pos h1, if_pos h1]
  rw [if_neg h1, if_neg h1]
  refine (c_seg d 24 2 (t := [109, 101, 116, 101, 114, 32, 115, 105, 122, 101, 32, 97, 108, 108, 32, 109, 97, 110, 121, 32, 115, 101, 116]) (w := wd_all) (bs := 11) lX c3 c4 hp (fun _ => rfl) (by decide) (by decide) (by decide) (by decide)).trans ?_
  by_cases h2 : isw wd_all B (skb B e a) (wde B e a)
  · rw [if_pos h2, if_pos h2]
  rw [if_neg h2, if_neg h2]
  refine (c_seg d 24 3 (t := [109, 101, 116, 101, 114, 32, 115, 105, 122, 101, 32, 97, 108, 108, 32, 109, 97, 110, 121, 32, 115, 101, 116]) (w := wd_many) (bs := 15) lX c3 c4 hp (fun _ => rfl) (by decide) (by decide) (by decide) (by decide)).trans ?_
  by_cases h3 : isw wd_many B (skb B e a) (wde B e a)
  · rw [if_pos h3, if_pos h3]
  rw [if_neg h3, if_neg h3]
  refine (c_seg d 24 4 (t := [109, 101, 116, 101, 114, 32, 115, 105, 122, 101, 32, 97, 108, 108, 32, 109, 97, 110, 121, 32, 115, 101, 116]) (w := wd_set) (bs := 20) lX c3 c4 hp (fun _ => rfl) (by decide) (by decide) (by decide) (by decide)).trans ?_
  by_cases h4 : isw wd_set B (skb B e a) (wde B e a)
  · rw [if_pos h4, if_pos h4]
  rw [if_neg h4, if_neg h4]
  exact c_segE d 24 5 24 (t := [109, 101, 116, 101, 114, 32, 115, 105, 122, 101, 32, 97, 108, 108, 32, 109, 97, 110, 121, 32, 115, 101, 116]) (fun _ => rfl) (by decide) (by decide)
theorem tw_25 (d : Nat) (lX : LayX G 101) (q : TxR B e a I) : ∃ I', mcal mT (d + 2) 95 [.ref 101, .ref 25] (G, I, L) = some (.inl (some (.int (if isw wd_or B (skb B e a) (wde B e a) then Int32.ofNat 0 else -1))), (G, I', L)) ∧ TxO I I' ∧ TxR B e (wde B e a) I' ∧ I' 101 4 = Int32.ofNat (skb B e a) ∧ ∀ k, 5 ≤ k → I' 101 k = I 101 k := by
  obtain ⟨I', c1, c2, c3, c4, c5⟩ := tk_word d 25 (L := L) lX q
  have hp := (wde_b (B := B) q.2.2.1).1
  refine ⟨I', ?_, c2, c3, c4, c5⟩
  rw [c1]
  refine (c_seg d 25 0 (t := [111, 114]) (w := wd_or) (bs := 0) lX c3 c4 hp (fun _ => rfl) (by decide) (by decide) (by decide) (by decide)).trans ?_
  by_cases h0 : isw wd_or B (skb B e a) (wde B e a)
  · rw [if_pos h0, if_pos h0]
  rw [if_neg h0, if_neg h0]
  exact c_segE d 25 1 3 (t := [111, 114]) (fun _ => rfl) (by decide) (by decide)
theorem tw_26 (d : Nat) (lX : LayX G 101) (q : TxR B e a I) : ∃ I', mcal mT (d + 2) 95 [.ref 101, .ref 26] (G, I, L) = some (.inl (some (.int (if isw wd_and B (skb B e a) (wde B e a) then Int32.ofNat 0 else -1))), (G, I', L)) ∧ TxO I I' ∧ TxR B e (wde B e a) I' ∧ I' 101 4 = Int32.ofNat (skb B e a) ∧ ∀ k, 5 ≤ k → I' 101 k = I 101 k := by
  obtain ⟨I', c1, c2, c3, c4, c5⟩ := tk_word d 26 (L := L) lX q
  have hp := (wde_b (B := B) q.2.2.1).1
  refine ⟨I', ?_, c2, c3, c4, c5⟩
  rw [c1]
  refine (c_seg d 26 0 (t := [97, 110, 100]) (w := wd_and) (bs := 0) lX c3 c4 hp (fun _ => rfl) (by decide) (by decide) (by decide) (by decide)).trans ?_
  by_cases h0 : isw wd_and B (skb B e a) (wde B e a)
  · rw [if_pos h0, if_pos h0]
  rw [if_neg h0, if_neg h0]
  exact c_segE d 26 1 4 (t := [97, 110, 100]) (fun _ => rfl) (by decide) (by decide)
theorem tw_27 (d : Nat) (lX : LayX G 101) (q : TxR B e a I) : ∃ I', mcal mT (d + 2) 95 [.ref 101, .ref 27] (G, I, L) = some (.inl (some (.int (if isw wd_under B (skb B e a) (wde B e a) then Int32.ofNat 0 else if isw wd_over B (skb B e a) (wde B e a) then Int32.ofNat 1 else if isw wd_opened B (skb B e a) (wde B e a) then Int32.ofNat 2 else if isw wd_got B (skb B e a) (wde B e a) then Int32.ofNat 3 else if isw wd_not B (skb B e a) (wde B e a) then Int32.ofNat 4 else -1))), (G, I', L)) ∧ TxO I I' ∧ TxR B e (wde B e a) I' ∧ I' 101 4 = Int32.ofNat (skb B e a) ∧ ∀ k, 5 ≤ k → I' 101 k = I 101 k := by
  obtain ⟨I', c1, c2, c3, c4, c5⟩ := tk_word d 27 (L := L) lX q
  have hp := (wde_b (B := B) q.2.2.1).1
  refine ⟨I', ?_, c2, c3, c4, c5⟩
  rw [c1]
  refine (c_seg d 27 0 (t := [117, 110, 100, 101, 114, 32, 111, 118, 101, 114, 32, 111, 112, 101, 110, 101, 100, 32, 103, 111, 116, 32, 110, 111, 116]) (w := wd_under) (bs := 0) lX c3 c4 hp (fun _ => rfl) (by decide) (by decide) (by decide) (by decide)).trans ?_
  by_cases h0 : isw wd_under B (skb B e a) (wde B e a)
  · rw [if_pos h0, if_pos h0]
  rw [if_neg h0, if_neg h0]
  refine (c_seg d 27 1 (t := [117, 110, 100, 101, 114, 32, 111, 118, 101, 114, 32, 111, 112, 101, 110, 101, 100, 32, 103, 111, 116, 32, 110, 111, 116]) (w := wd_over) (bs := 6) lX c3 c4 hp (fun _ => rfl) (by decide) (by decide) (by decide) (by decide)).trans ?_
  by_cases h1 : isw wd_over B (skb B e a) (wde B e a)
  · rw [if_pos h1, if_pos h1]
  rw [if_neg h1, if_neg h1]
  refine (c_seg d 27 2 (t := [117, 110, 100, 101, 114, 32, 111, 118, 101, 114, 32, 111, 112, 101, 110, 101, 100, 32, 103, 111, 116, 32, 110, 111, 116]) (w := wd_opened) (bs := 11) lX c3 c4 hp (fun _ => rfl) (by decide) (by decide) (by decide) (by decide)).trans ?_
  by_cases h2 : isw wd_opened B (skb B e a) (wde B e a)
  · rw [if_pos h2, if_pos h2]
  rw [if_neg h2, if_neg h2]
  refine (c_seg d 27 3 (t := [117, 110, 100, 101, 114, 32, 111, 118, 101, 114, 32, 111, 112, 101, 110, 101, 100, 32, 103, 111, 116, 32, 110, 111, 116]) (w := wd_got) (bs := 18) lX c3 c4 hp (fun _ => rfl) (by decide) (by decide) (by decide) (by decide)).trans ?_
  by_cases h3 : isw wd_got B (skb B e a) (wde B e a)
  · rw [if_pos h3, if_pos h3]
  rw [if_neg h3, if_neg h3]
  refine (c_seg d 27 4 (t := [117, 110, 100, 101, 114, 32, 111, 118, 101, 114, 32, 111, 112, 101, 110, 101, 100, 32, 103, 111, 116, 32, 110, 111, 116]) (w := wd_not) (bs := 22) lX c3 c4 hp (fun _ => rfl) (by decide) (by decide) (by decide) (by decide)).trans ?_
  by_cases h4 : isw wd_not B (skb B e a) (wde B e a)
  · rw [if_pos h4, if_pos h4]
  rw [if_neg h4, if_neg h4]
  exact c_segE d 27 5 26 (t := [117, 110, 100, 101, 114, 32, 111, 118, 101, 114, 32, 111, 112, 101, 110, 101, 100, 32, 103, 111, 116, 32, 110, 111, 116]) (fun _ => rfl) (by decide) (by decide)
theorem tw_28 (d : Nat) (lX : LayX G 101) (q : TxR B e a I) : ∃ I', mcal mT (d + 2) 95 [.ref 101, .ref 28] (G, I, L) = some (.inl (some (.int (if isw wd_room B (skb B e a) (wde B e a) then Int32.ofNat 0 else if isw wd_wall B (skb B e a) (wde B e a) then Int32.ofNat 1 else if isw wd_outer B (skb B e a) (wde B e a) then Int32.ofNat 2 else if isw wd_window B (skb B e a) (wde B e a) then Int32.ofNat 3 else if isw wd_sun B (skb B e a) (wde B e a) then Int32.ofNat 4 else if isw wd_radiator B (skb B e a) (wde B e a) then Int32.ofNat 5 else if isw wd_snap B (skb B e a) (wde B e a) then Int32.ofNat 6 else if isw wd_slow B (skb B e a) (wde B e a) then Int32.ofNat 7 else if isw wd_draught B (skb B e a) (wde B e a) then Int32.ofNat 8 else if isw wd_pump B (skb B e a) (wde B e a) then Int32.ofNat 9 else if isw wd_boiler B (skb B e a) (wde B e a) then Int32.ofNat 10 else -1))), (G, I', L)) ∧ TxO I I' ∧ TxR B e (wde B e a) I' ∧ I' 101 4 = Int32.ofNat (skb B e a) ∧ ∀ k, 5 ≤ k → I' 101 k = I 101 k := by
  obtain ⟨I', c1, c2, c3, c4, c5⟩ := tk_word d 28 (L := L) lX q
  have hp := (wde_b (B := B) q.2.2.1).1
  refine ⟨I', ?_, c2, c3, c4, c5⟩
  rw [c1]
  refine (c_seg d 28 0 (t := [114, 111, 111, 109, 32, 119, 97, 108, 108, 32, 111, 117, 116, 101, 114, 32, 119, 105, 110, 100, 111, 119, 32, 115, 117, 110, 32, 114, 97, 100, 105, 97, 116, 111, 114, 32, 115, 110, 97, 112, 32, 115, 108, 111, 119, 32, 100, 114, 97, 117, 103, 104, 116, 32, 112, 117, 109, 112, 32, 98, 111, 105, 108, 101, 114]) (w := wd_room) (bs := 0) lX c3 c4 hp (fun _ => rfl) (by decide) (by decide) (by decide) (by decide)).trans ?_
  by_cases h0 : isw wd_room B (skb B e a) (wde B e a)
  · rw [if_pos h0, if_pos h0]
  rw [if_neg h0, if_neg h0]
  refine (c_seg d 28 1 (t := [114, 111, 111, 109, 32, 119, 97, 108, 108, 32, 111, 117, 116, 101, 114, 32, 119, 105, 110, 100, 111, 119, 32, 115, 117, 110, 32, 114, 97, 100, 105, 97, 116, 111, 114, 32, 115, 110, 97, 112, 32, 115, 108, 111, 119, 32, 100, 114, 97, 117, 103, 104, 116, 32, 112, 117, 109, 112, 32, 98, 111, 105, 108, 101, 114]) (w := wd_wall) (bs := 5) lX c3 c4 hp (fun _ => rfl) (by decide) (by decide) (by decide) (by decide)).trans ?_
  by_cases h1 : isw wd_wall B (skb B e a) (wde B e a)
  · rw [if_pos h1, if_pos h1]
  rw [if_neg h1, if_neg h1]
  refine (c_seg d 28 2 (t := [114, 111, 111, 109, 32, 119, 97, 108, 108, 32, 111, 117, 116, 101, 114, 32, 119, 105, 110, 100, 111, 119, 32, 115, 117, 110, 32, 114, 97, 100, 105, 97, 116, 111, 114, 32, 115, 110, 97, 112, 32, 115, 108, 111, 119, 32, 100, 114, 97, 117, 103, 104, 116, 32, 112, 117, 109, 112, 32, 98, 111, 105, 108, 101, 114]) (w := wd_outer) (bs := 10) lX c3 c4 hp (fun _ => rfl) (by decide) (by decide) (by decide) (by decide)).trans ?_
  by_cases h2 : isw wd_outer B (skb B e a) (wde B e a)
  · rw [if_pos h2, if_pos h2]
  rw [if_neg h2, if_neg h2]
  refine (c_seg d 28 3 (t := [114, 111, 111, 109, 32, 119, 97, 108, 108, 32, 111, 117, 116, 101, 114, 32, 119, 105, 110, 100, 111, 119, 32, 115, 117, 110, 32, 114, 97, 100, 105, 97, 116, 111, 114, 32, 115, 110, 97, 112, 32, 115, 108, 111, 119, 32, 100, 114, 97, 117, 103, 104, 116, 32, 112, 117, 109, 112, 32, 98, 111, 105, 108, 101, 114]) (w := wd_window) (bs := 16) lX c3 c4 hp (fun _ => rfl) (by decide) (by decide) (by decide) (by decide)).trans ?_
  by_cases h3 : isw wd_window B (skb B e a) (wde B e a)
  · rw [if_pos h3, if_pos h3]
  rw [if_neg h3, if_neg h3]
  refine (c_seg d 28 4 (t := [114, 111, 111, 109, 32, 119, 97, 108, 108, 32, 111, 117, 116, 101, 114, 32, 119, 105, 110, 100, 111, 119, 32, 115, 117, 110, 32, 114, 97, 100, 105, 97, 116, 111, 114, 32, 115, 110, 97, 112, 32, 115, 108, 111, 119, 32, 100, 114, 97, 117, 103, 104, 116, 32, 112, 117, 109, 112, 32, 98, 111, 105, 108, 101, 114]) (w := wd_sun) (bs := 23) lX c3 c4 hp (fun _ => rfl) (by decide) (by decide) (by decide) (by decide)).trans ?_
  by_cases h4 : isw wd_sun B (skb B e a) (wde B e a)
  · rw [if_pos h4, if_pos h4]
  rw [if_neg h4, if_neg h4]
  refine (c_seg d 28 5 (t := [114, 111, 111, 109, 32, 119, 97, 108, 108, 32, 111, 117, 116, 101, 114, 32, 119, 105, 110, 100, 111, 119, 32, 115, 117, 110, 32, 114, 97, 100, 105, 97, 116, 111, 114, 32, 115, 110, 97, 112, 32, 115, 108, 111, 119, 32, 100, 114, 97, 117, 103, 104, 116, 32, 112, 117, 109, 112, 32, 98, 111, 105, 108, 101, 114]) (w := wd_radiator) (bs := 27) lX c3 c4 hp (fun _ => rfl) (by decide) (by decide) (by decide) (by decide)).trans ?_
  by_cases h5 : isw wd_radiator B (skb B e a) (wde B e a)
  · rw [if_pos h5, if_pos h5]
  rw [if_neg h5, if_neg h5]
  refine (c_seg d 28 6 (t := [114, 111, 111, 109, 32, 119, 97, 108, 108, 32, 111, 117, 116, 101, 114, 32, 119, 105, 110, 100, 111, 119, 32, 115, 117, 110, 32, 114, 97, 100, 105, 97, 116, 111, 114, 32, 115, 110, 97, 112, 32, 115, 108, 111, 119, 32, 100, 114, 97, 117, 103, 104, 116, 32, 112, 117, 109, 112, 32, 98, 111, 105, 108, 101, 114]) (w := wd_snap) (bs := 36) lX c3 c4 hp (fun _ => rfl) (by decide) (by decide) (by decide) (by decide)).trans ?_
  by_cases h6 : isw wd_snap B (skb B e a) (wde B e a)
  · rw [if_pos h6, if_pos h6]
  rw [if_neg h6, if_neg h6]
  refine (c_seg d 28 7 (t := [114, 111, 111, 109, 32, 119, 97, 108, 108, 32, 111, 117, 116, 101, 114, 32, 119, 105, 110, 100, 111, 119, 32, 115, 117, 110, 32, 114, 97, 100, 105, 97, 116, 111, 114, 32, 115, 110, 97, 112, 32, 115, 108, 111, 119, 32, 100, 114, 97, 117, 103, 104, 116, 32, 112, 117, 109, 112, 32, 98, 111, 105, 108, 101, 114]) (w := wd_slow) (bs := 41) lX c3 c4 hp (fun _ => rfl) (by decide) (by decide) (by decide) (by decide)).trans ?_
  by_cases h7 : isw wd_slow B (skb B e a) (wde B e a)
  · rw [if_pos h7, if_pos h7]
  rw [if_neg h7, if_neg h7]
  refine (c_seg d 28 8 (t := [114, 111, 111, 109, 32, 119, 97, 108, 108, 32, 111, 117, 116, 101, 114, 32, 119, 105, 110, 100, 111, 119, 32, 115, 117, 110, 32, 114, 97, 100, 105, 97, 116, 111, 114, 32, 115, 110, 97, 112, 32, 115, 108, 111, 119, 32, 100, 114, 97, 117, 103, 104, 116, 32, 112, 117, 109, 112, 32, 98, 111, 105, 108, 101, 114]) (w := wd_draught) (bs := 46) lX c3 c4 hp (fun _ => rfl) (by decide) (by decide) (by decide) (by decide)).trans ?_
  by_cases h8 : isw wd_draught B (skb B e a) (wde B e a)
  · rw [if_pos h8, if_pos h8]
  rw [if_neg h8, if_neg h8]
  refine (c_seg d 28 9 (t := [114, 111, 111, 109, 32, 119, 97, 108, 108, 32, 111, 117, 116, 101, 114, 32, 119, 105, 110, 100, 111, 119, 32, 115, 117, 110, 32, 114, 97, 100, 105, 97, 116, 111, 114, 32, 115, 110, 97, 112, 32, 115, 108, 111, 119, 32, 100, 114, 97, 117, 103, 104, 116, 32, 112, 117, 109, 112, 32, 98, 111, 105, 108, 101, 114]) (w := wd_pump) (bs := 54) lX c3 c4 hp (fun _ => rfl) (by decide) (by decide) (by decide) (by decide)).trans ?_
  by_cases h9 : isw wd_pump B (skb B e a) (wde B e a)
  · rw [if_pos h9, if_pos h9]
  rw [if_neg h9, if_neg h9]
  refine (c_seg d 28 10 (t := [114, 111, 111, 109, 32, 119, 97, 108, 108, 32, 111, 117, 116, 101, 114, 32, 119, 105, 110, 100, 111, 119, 32, 115, 117, 110, 32, 114, 97, 100, 105, 97, 116, 111, 114, 32, 115, 110, 97, 112, 32, 115, 108, 111, 119, 32, 100, 114, 97, 117, 103, 104, 116, 32, 112, 117, 109, 112, 32, 98, 111, 105, 108, 101, 114]) (w := wd_boiler) (bs := 59) lX c3 c4 hp (fun _ => rfl) (by decide) (by decide) (by decide) (by decide)).trans ?_
  by_cases h10 : isw wd_boiler B (skb B e a) (wde B e a)
  · rw [if_pos h10, if_pos h10]
  rw [if_neg h10, if_neg h10]
  exact c_segE d 28 11 66 (t := [114, 111, 111, 109, 32, 119, 97, 108, 108, 32, 111, 117, 116, 101, 114, 32, 119, 105, 110, 100, 111, 119, 32, 115, 117, 110, 32, 114, 97, 100, 105, 97, 116, 111, 114, 32, 115, 110, 97, 112, 32, 115, 108, 111, 119, 32, 100, 114, 97, 117, 103, 104, 116, 32, 112, 117, 109, 112, 32, 98, 111, 105, 108, 101, 114]) (fun _ => rfl) (by decide) (by decide)
theorem tf_25 (d : Nat) (lX : LayX G 101) (q : TxR B e a I) : ∃ I', mcal mT (d + 3) 96 [.ref 101, .ref 25] (G, I, L) = some (.inl (some (.int (if isw wd_or B (skb B e a) (wde B e a) then 1 else 0))), (G, I', L)) ∧ TxO I I' ∧ TxR B e (if isw wd_or B (skb B e a) (wde B e a) then wde B e a else skb B e a) I' ∧ ∀ k, 5 ≤ k → I' 101 k = I 101 k := by
  obtain ⟨I1, c1, c2, c3, c4, c5⟩ := tw_25 d (L := L) lX q
  rw [q_X10_takeIfWord_, e_X10_takeIfWord_0]
  simp only [↓vX lX, ↓mcI_of c1]
  by_cases h : isw wd_or B (skb B e a) (wde B e a)
  · rw [if_pos h, if_pos h, if_pos h, if_neg (show ¬ Int32.ofNat 0 = -1 by decide), mb1]
    exact ⟨I1, rfl, c2, c3, c5⟩
  · rw [if_neg h, if_neg h, if_neg h, if_pos rfl, e_X10_takeIfWord_11]
    have o := TxO_u (k := 3) (v := Int32.ofNat (skb B e a)) c2 (by omega)
    refine ⟨va_up I1 101 (va_up (I1 101) 3 (Int32.ofNat (skb B e a))), ?_, o, TxR_o q o (by rw [up_eq, up_eq]) (skb_b q.2.2.1).2, fun k hk => by rw [up_eq, up_ne (by omega)]; exact c5 k hk⟩
    simp only [↓vX lX, c4, up2_e, mb0]
theorem tf_26 (d : Nat) (lX : LayX G 101) (q : TxR B e a I) : ∃ I', mcal mT (d + 3) 96 [.ref 101, .ref 26] (G, I, L) = some (.inl (some (.int (if isw wd_and B (skb B e a) (wde B e a) then 1 else 0))), (G, I', L)) ∧ TxO I I' ∧ TxR B e (if isw wd_and B (skb B e a) (wde B e a) then wde B e a else skb B e a) I' ∧ ∀ k, 5 ≤ k → I' 101 k = I 101 k := by
  obtain ⟨I1, c1, c2, c3, c4, c5⟩ := tw_26 d (L := L) lX q
  rw [q_X10_takeIfWord_, e_X10_takeIfWord_0]
  simp only [↓vX lX, ↓mcI_of c1]
  by_cases h : isw wd_and B (skb B e a) (wde B e a)
  · rw [if_pos h, if_pos h, if_pos h, if_neg (show ¬ Int32.ofNat 0 = -1 by decide), mb1]
    exact ⟨I1, rfl, c2, c3, c5⟩
  · rw [if_neg h, if_neg h, if_neg h, if_pos rfl, e_X10_takeIfWord_11]
    have o := TxO_u (k := 3) (v := Int32.ofNat (skb B e a)) c2 (by omega)
    refine ⟨va_up I1 101 (va_up (I1 101) 3 (Int32.ofNat (skb B e a))), ?_, o, TxR_o q o (by rw [up_eq, up_eq]) (skb_b q.2.2.1).2, fun k hk => by rw [up_eq, up_ne (by omega)]; exact c5 k hk⟩
    simp only [↓vX lX, c4, up2_e, mb0]
end
