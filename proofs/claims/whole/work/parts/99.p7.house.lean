/-! a house read: the reference begins anew -/
section
variable {G G2 : mG} {I J : Nat → Nat → Int32} {L K : Nat → Nat → Int64} {B : Nat → Nat} {e a x nr n c : Nat}
theorem ra1_220 : ra1 J 220 = pre 166 (J 221) (J 220) := by unfold ra1; rw [up_eq]
theorem ra2_220 : ra2 J 220 = pre 166 (J 221) (J 220) := by unfold ra2; rw [up_ne (by decide), up_ne (by decide), ra1_220]
theorem ra3_220 : ra3 J 220 = pre 166 (J 221) (J 220) := by unfold ra3; rw [up_ne (by decide), up_ne (by decide), ra2_220]
theorem ra3_o {y : Nat} (h : ¬ (y = 219 ∨ y = 220 ∨ y = 223 ∨ y = 230 ∨ y = 240)) : ra3 J y = J y := by
  unfold ra3 ra2 ra1
  rw [up_ne (by omega), up_ne (by omega), up_ne (by omega), up_ne (by omega), up_ne (by omega), up_ne (by omega)]
theorem ra3_r : ra3 J 219 = va_up (J 219) 9 (-1) ∧ ra3 J 223 = va_up (isg 24 8 (fun _ => 16) (pre 173 (fun _ => 0) (J 223))) 167 (J 221 160) ∧ ra3 J 230 = pre 8 (fun _ => 0) (J 230) ∧ ra3 J 240 = pre 40 (fun _ => -1) (J 240) := by
  unfold ra3 ra2 ra1
  refine ⟨?_, ?_, ?_, ?_⟩
  · rw [up_ne (by omega), up_ne (by omega), up_ne (by omega), up_ne (by omega), up_ne (by omega), up_eq]
  · rw [up_ne (by omega), up_eq]
  · rw [up_ne (by omega), up_ne (by omega), up_eq]
  · rw [up_eq]
theorem r_an3 (r : Nat) (lM : LayM G2 219) : f_X12_house (r + 1) 264 [.ref 219, mU, mU] [] (G2, ra2 J, K) = f_X12_house (r + 1) 301 [.ref 219, mU, mU] [] (G2, ra3 J, K) := by
  have e0 : ra2 J (219 + 1) 160 = J 221 160 := by rw [show ra2 J (219 + 1) = pre 166 (J 221) (J 220) from ra2_220, pre_lt (by decide)]
  have e3 : ra2 J 223 = isg 24 8 (fun _ => 16) (pre 173 (fun _ => 0) (J 223)) := by unfold ra2; rw [up_ne (by decide), up_eq]
  have e4 : ra2 J 240 = J 240 := by unfold ra2 ra1; rw [up_ne (by decide), up_ne (by decide), up_ne (by decide), up_ne (by decide)]
  rw [e_X12_house_264]
  simp only [↓vM lM, e0, show ∀ (F : Nat → Nat → Int32) v w, up2 F (219 + 4) v w = va_up F 223 (va_up (F 223) v w) from fun _ _ _ => rfl, e3]
  unfold ra3
  generalize hJ1 : va_up (ra2 J) 223 (va_up (isg 24 8 (fun _ => 16) (pre 173 (fun _ => 0) (J 223))) 167 (J 221 160)) = J1
  have e5 : J1 240 = J 240 := by rw [← hJ1, up_ne (by decide), e4]
  have A := loopy (fun i (q : Nat → Int32) => f_X12_house (r + 1) 282 [.ref 219, mU, .int i] [] (G2, va_up J1 240 q, K)) (fun k => pre k (fun _ => -1) (J 240)) 40 _ pre_0 (by
    intro k hk
    try dsimp only
    rw [e_X12_house_282, if_neg (show ¬ (40 : Int32) ≤ Int32.ofNat k from i_ng (a := 40) hk (by decide))]
    simp (disch := omega) only [↓vM lM, show ∀ (F : Nat → Nat → Int32) v w, up2 F (219 + 21) v w = va_up F 240 (va_up (F 240) v w) from fun _ _ _ => rfl, up_eq, up_up, i_one]
    rw [pre_s rfl])
  try dsimp only at A
  rw [← e5, up_id] at A
  rw [A, e_X12_house_282, if_pos (by decide), e5]
def ra4 (J : Nat → Nat → Int32) (n : Nat) : Nat → Nat → Int32 := va_up (va_up (va_up (ra3 J) 229 (pre 56 (iclr 10000) (J 229))) 223 (rbg (pre 166 (J 221) (J 220)) (va_up (isg 24 8 (fun _ => 16) (pre 173 (fun _ => 0) (J 223))) 167 (J 221 160)) n)) 219 (va_up (va_up (va_up (va_up (J 219) 9 (-1)) 23 0) 28 0) 51 0)
theorem r_an4 (r : Nat) (lM : LayM G2 219) (hn : J 221 164 = Int32.ofNat n) (hn8 : n ≤ 8) : f_X12_house (r + 2) 301 [.ref 219, mU, mU] [] (G2, ra3 J, K) = some (.inl (some (.int (J 221 163))), (G2, ra4 J n, va_up K 225 (pre 8 (fun _ => 0) (K 225)))) := by
  obtain ⟨r1, r2, r3, r4⟩ := ra3_r (J := J)
  have c := r_clearHour (r + 1) (I := ra3 J) (L := K) lM
  rw [show va_up (ra3 J) (219 + 10) (pre 56 (iclr 10000) (ra3 J (219 + 10))) = va_up (ra3 J) 229 (pre 56 (iclr 10000) (J 229)) from by rw [show ra3 J (219 + 10) = J 229 from ra3_o (y := 229) (by omega)]] at c
  generalize hJ1 : va_up (ra3 J) 229 (pre 56 (iclr 10000) (J 229)) = J1 at c
  have o1 : ∀ y, y ≠ 229 → J1 y = ra3 J y := fun y hy => by rw [← hJ1, up_ne hy]
  generalize hJ2 : va_up J1 219 (va_up (J1 219) 23 0) = J2
  have o2 : ∀ y, y ≠ 219 → J2 y = J1 y := fun y hy => by rw [← hJ2, up_ne hy]
  have h20 : J2 220 = pre 166 (J 221) (J 220) := by rw [o2 220 (by decide), o1 220 (by decide), ra3_220]
  have h23 : J2 223 = va_up (isg 24 8 (fun _ => 16) (pre 173 (fun _ => 0) (J 223))) 167 (J 221 160) := by rw [o2 223 (by decide), o1 223 (by decide), r2]
  have b := r_begins r (J := J2) (K := K) (n := n) lM (by rw [h20, pre_lt (by decide)]; exact hn) hn8
  rw [h20, h23] at b
  have hf : va_up (va_up J2 223 (rbg (pre 166 (J 221) (J 220)) (va_up (isg 24 8 (fun _ => 16) (pre 173 (fun _ => 0) (J 223))) 167 (J 221 160)) n)) 219 (va_up (va_up (va_up J2 223 (rbg (pre 166 (J 221) (J 220)) (va_up (isg 24 8 (fun _ => 16) (pre 173 (fun _ => 0) (J 223))) 167 (J 221 160)) n) 219) 28 0) 51 0) = ra4 J n := by
    unfold ra4
    rw [hJ1, up_ne (show (219 : Nat) ≠ 223 by decide), ← hJ2, up_eq, o1 219 (by decide), r1]
    funext y
    by_cases y1 : y = 219
    · rw [y1, up_eq, up_eq]
    rw [up_ne y1, up_ne y1]
    by_cases y2 : y = 223
    · rw [y2, up_eq, up_eq]
    rw [up_ne y2, up_ne y2, up_ne y1]
  rw [e_X12_house_301]
  simp only [↓vM lM, ↓mcV_of c, show ∀ (F : Nat → Nat → Int32) v w, up2 F 219 v w = va_up F 219 (va_up (F 219) v w) from fun _ _ _ => rfl, hJ2, ↓mcV_of b, up_eq, up_up, hf]
  rw [show ra4 J n (219 + 1) = pre 166 (J 221) (J 220) from by
    show ra4 J n 220 = _
    unfold ra4
    rw [up_ne (by decide), up_ne (by decide), up_ne (by decide), ra3_220], pre_lt (by decide)]
theorem r_anew (r : Nat) (lM : LayM G2 219) (h6 : J 219 6 = -1) (hn : J 221 164 = Int32.ofNat n) (hn8 : n ≤ 8) : f_X12_house (r + 2) 139 [.ref 219, mU, mU] [] (G2, J, K) = some (.inl (some (.int (J 221 163))), (G2, ra4 J n, va_up K 225 (pre 8 (fun _ => 0) (pre 16 (fun _ => 0) (K 225))))) := by
  rw [r_an1 (r + 1) lM h6, r_an2 (r + 1) lM, r_an3 (r + 1) lM, r_an4 r lM hn hn8, up_eq, up_up]
theorem ra4_o {y : Nat} (h : ¬ (y = 219 ∨ y = 220 ∨ y = 223 ∨ y = 229 ∨ y = 230 ∨ y = 240)) : ra4 J n y = J y := by
  unfold ra4
  rw [up_ne (by omega), up_ne (by omega), up_ne (by omega), ra3_o (by omega)]
theorem ra4_r : ra4 J n 219 = va_up (va_up (va_up (va_up (J 219) 9 (-1)) 23 0) 28 0) 51 0 ∧ ra4 J n 220 = pre 166 (J 221) (J 220) ∧ ra4 J n 223 = rbg (pre 166 (J 221) (J 220)) (va_up (isg 24 8 (fun _ => 16) (pre 173 (fun _ => 0) (J 223))) 167 (J 221 160)) n ∧ ra4 J n 229 = pre 56 (iclr 10000) (J 229) ∧ ra4 J n 230 = pre 8 (fun _ => 0) (J 230) ∧ ra4 J n 240 = pre 40 (fun _ => -1) (J 240) := by
  obtain ⟨r1, r2, r3, r4⟩ := ra3_r (J := J)
  unfold ra4
  refine ⟨?_, ?_, ?_, ?_, ?_, ?_⟩
  · rw [up_eq]
  · rw [up_ne (by decide), up_ne (by decide), up_ne (by decide), ra3_220]
  · rw [up_ne (by decide), up_eq]
  · rw [up_ne (by decide), up_ne (by decide), up_eq]
  · rw [up_ne (by decide), up_ne (by decide), up_ne (by decide), r3]
  · rw [up_ne (by decide), up_ne (by decide), up_ne (by decide), r4]
/-- the row with which a house begins -/
theorem rw0 {H S : Nat → Int32} {v : Int32} : (∀ k, k < 8 → rbg H (va_up (isg 24 8 (fun _ => 16) (pre 173 (fun _ => 0) S)) 167 v) n (24 + k) = 16) ∧ rbg H (va_up (isg 24 8 (fun _ => 16) (pre 173 (fun _ => 0) S)) 167 v) n 167 = v ∧ (∀ j, (44 ≤ j ∧ j < 173 ∧ j ≠ 167) ∨ (16 ≤ j ∧ j < 24) → rbg H (va_up (isg 24 8 (fun _ => 16) (pre 173 (fun _ => 0) S)) 167 v) n j = 0) := by
  refine ⟨fun k hk => ?_, ?_, fun j hj => ?_⟩
  · rw [rbg_s (by omega), up_ne (by omega), seg_in hk]
  · rw [rbg_s (by omega), up_eq]
  · unfold rbg
    by_cases j3 : j = 73
    · rw [j3, up_eq]
    rw [up_ne j3]
    by_cases j1 : j = 71
    · rw [j1, up_eq]
    rw [up_ne j1, seg_out (by omega)]
    by_cases j2 : j < 24
    · obtain ⟨i, rfl⟩ := Nat.exists_eq_add_of_le (show 16 ≤ j by omega)
      rw [seg_in (by omega)]
    · rw [seg_out (by omega), seg_out (by omega), seg_out (by omega), pre_ge (by omega), up_ne (by omega), seg_out (by omega), pre_lt (by omega)]
end
