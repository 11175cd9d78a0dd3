/-! call: wish -/
section
variable {G G2 : mG} {I J : Nat → Nat → Int32} {L K : Nat → Nat → Int64} {lv : Nat → Int64} {h hs bl bs cl cs nr n nh M kc k0 N : Nat} {rm pi mk : Nat → Nat}
theorem ws_pair (d e : Nat) (more room : Int32) (q : LyR G h hs bl bs cl cs kc mk) (lM : LayM G2 219) (hb : 103 ≤ h ∧ h + 14 ≤ 132) (hH : HsR I J h 219 nr n rm pi) (hS : SeR I 132 (J 223) n nh) (hT : StR I L 139 (J 220) (J 223) lv nr n M) (j15 : J 219 15 = -1) (j16 : J 219 16 = -1) (j20 : J 219 20 = 0) (j21 : J 219 21 = 0) (j24 : ¬ J 219 24 = 0) (hk : k0 < n) (hw : ∀ k, k < n → (if k = k0 then more else 0) = (if J 219 18 = Int32.ofNat k then J 219 19 else 0)) (hN : N ≤ 240) (hM : M < 2147470000) (hr : room = -1 ∨ ∃ r, r < nr ∧ room = Int32.ofNat r) : ∃ v T I' L' J' K', mcal mT (d + 6) 146 [.ref 100, .int (Int32.ofNat k0), .int more, .int (Int32.ofNat N), .int room] (G, I, L) = some (.inl (some (.int (if room = -1 then v else T))), (gS G 156 0 (some h), I', L')) ∧ mcal mT (e + 6) 227 [.ref 219, .int (Int32.ofNat N)] (G2, J, K) = some (.inl (some (.int v)), (G2, J', K')) ∧ (∀ r, r < nr → room = Int32.ofNat r → J' 223 r = T) ∧ QuC I I' L L' ∧ FrM J J' K K' 219 := by
  have hn8 := hH.1.2.2.2.2.2
  have hnr8 := hH.1.2.2.1
  obtain ⟨q2, p2⟩ := LyR_T q h
  have hh := q.2.2.2.2.2.2.2.2.2.2.2.2.2.2.1
  obtain ⟨lB2, -, lP2, -, ⟨lH1, lH2⟩, ⟨lS, lS2⟩, ⟨lT, lT2⟩, ⟨lU, lU2⟩, -⟩ := id q2
  have lH : LayH (gS G 156 0 (some h)) h := by
    rcases hh with ⟨a, -⟩ | ⟨a, -⟩
    · rw [a] at lH1 ⊢; exact lH1
    · rw [a] at lH2 ⊢; exact lH2
  have tn := c_tryNow (d + 3) (I := I) (L := L) q
  generalize hI2 : va_up (tNw I h) 194 (va_up (tNw I h 194) k0 (tNw I h 194 k0 + more)) = I2
  have io : ∀ a, a ≠ 194 → I2 a = tNw I h a := fun a h1 => by rw [← hI2, up_ne h1]
  have tf : ∀ a, ¬ (171 ≤ a ∧ a < 195) → tNw I h a = I a := by
    intro a ha
    unfold tNw
    rw [tpB_fr (by omega), cpT_fr (by omega), cpS_fr (by omega)]
  have ts : ∀ a, 171 ≤ a → a < 178 → tNw I h a = cpS I 171 132 a := by
    intro a h1 h2
    unfold tNw
    rw [tpB_fr (by omega), cpT_fr (by omega)]
  have tt : ∀ a, 178 ≤ a → a < 192 → tNw I h a = cpT (cpS I 171 132) 178 139 a := by
    intro a h1 h2
    unfold tNw
    rw [tpB_fr (by omega)]
  obtain ⟨r1, r2, r3, r4, r5, r6⟩ := cpS_r (I := I) (s := 171) (o := 132) (by decide)
  have ff := cpS_f (I := I) (s := 171) (o := 132) (by decide)
  obtain ⟨y1, -, -, -, -, -, y7, -⟩ := cpT_r (I := cpS I 171 132) (t := 178) (o := 139) (by decide)
  obtain ⟨z0, z1', z2, -⟩ := cpT_f (I := cpS I 171 132) (t := 178) (o := 139) (by decide)
  obtain ⟨u1, u2, u3⟩ := tpB_r (I := cpT (cpS I 171 132) 178 139) (u := 192) (h := h) (by omega)
  have hh9 : ∀ a, a < 171 → cpT (cpS I 171 132) 178 139 a = I a := fun a ha => by rw [cpT_fr (by omega), cpS_fr (by omega)]
  have cS : ∀ a, a < 171 → cpS I 171 132 a = I a := fun a ha => cpS_fr (by omega)
  have g194 : ∀ k, k < n → tNw I h 194 k = J 220 (152 + k) := by
    intro k hk
    show tpB (cpT (cpS I 171 132) 178 139) 192 h (192 + 2) k = _
    rw [u2, pre_lt (by omega), hh9 _ (by omega)]
    exact (hH.2.2.2.2.2.2.2.1 k hk).2.2.2
  have is : ∀ a, 171 ≤ a → a < 178 → I2 a = cpS I 171 132 a := fun a h1 h2 => by rw [io a (by omega), ts a h1 h2]
  have hS2 : SeR I2 171 (J 223) n nh := by
    refine SeR_cp hS hn8 ?_ ?_ ?_ ?_ ?_ ?_ ?_ (fun _ _ => rfl)
    · intro k hk; rw [is _ (by decide) (by decide), r1, pre_lt hk]
    · intro k hk; rw [is _ (by decide) (by decide), r2, pre_lt hk]
    · intro k hk; rw [is _ (by decide) (by decide), r3, pre_lt hk]
    · intro k hk; rw [is _ (by decide) (by decide), r4, pre_lt hk]
    · intro k hk; rw [is _ (by decide) (by decide), r5, pre_lt hk]
    · intro k hk; rw [is _ (by decide) (by decide), r6, pre_lt hk]
    · rw [is _ (by decide) (by decide)]; exact ff
  have hH2 : HsR I2 J h 219 nr n rm pi := HsR_c (fun a h1 h2 => by rw [io a (by omega), tf a (by omega)]) rfl hH
  have cor : CoR I2 J 171 178 192 219 nr n nh nh (fun k => k) rm M := by
    refine now_cor (I := I) (L := L) (lv := lv) hH hS hT j15 j16 ?_ ?_ ?_ ?_ ?_ ?_ ?_ ?_ ?_ ?_
    · intro k hk; rw [is 172 (by decide) (by decide), r1, pre_lt hk]
    · intro k hk; rw [is 174 (by decide) (by decide), r3, pre_lt hk]
    · rw [is 171 (by decide) (by decide), ff.2.2.2.2]
    · rw [io 178 (by decide), tt 178 (by decide) (by decide), z0, z1', z2, cS 139 (by decide)]
      exact ⟨rfl, rfl, rfl⟩
    · intro k hk; rw [io 179 (by decide), tt 179 (by decide) (by decide), y1, pre_lt hk, cS _ (by decide)]
    · intro k hk; rw [io 185 (by decide), tt 185 (by decide) (by decide), y7, pre_lt hk, cS _ (by decide)]
    · refine ⟨by rw [io 192 (by decide)]; exact u3, fun k hk => ?_⟩
      rw [io 193 (by decide)]
      show tpB (cpT (cpS I 171 132) 178 139) 192 h (192 + 1) k = _
      rw [u1, pre_lt hk, hh9 _ (by omega)]
    · intro hr h24
      rw [is 173 (by decide) (by decide), r2, pre_lt h24]
      unfold rou
      rw [j20, if_pos rfl]
      exact hS.2.2.1 hr h24
    · refine ⟨hS2.2.2.2.2.2.1.1, hS2.2.2.2.2.2.1.2.2, fun x => ?_⟩
      rw [j21]
      exact off_e hS2 x
    · intro k hk'
      rw [← hw k hk', ← hI2, up_eq]
      by_cases c : k = k0
      · rw [c, up_eq, if_pos rfl, g194 _ hk]
      · rw [up_ne c, if_neg c, Int32.add_zero, g194 _ hk']
  obtain ⟨v, I3, L3, J3, K3, t1, t2, t3, t4, t5, t6⟩ := run_t d e (L := cpr L (139 + 9) (178 + 9) 8) (K := K) p2 lH lS2 lT2 lU2 lM (by omega) (by decide) (by decide) hH2 cor N (by omega) j24
  have lB := q.1
  refine ⟨v, (if room = -1 then 0 else I3 179 room.toNatClampNeg), I3, L3, J3, K3, ?_, t2, ?_, ⟨fun a ha => ?_, fun a ha => ?_⟩, t6⟩
  · rw [q_X11_withWish_, e_X11_withWish_0]
    simp (disch := omega) only [↓vB lB, ↓mcV_of tn, ↓vB lB2, ↓vP p2, ↓vU lU2, up2_e]
    rw [hI2]
    simp only [↓mcI_of t1]
    rcases hr with rfl | ⟨r, hr1, rfl⟩
    · rw [if_pos rfl, if_pos rfl, e_X11_withWish_54]
    · have q1 : ¬ Int32.ofNat r = -1 := nm1 (by omega)
      rw [if_neg q1, if_neg q1, if_neg q1, e_X11_withWish_41, i_nat (by omega)]
      simp (disch := omega) only [↓vB lB2, ↓vP p2, ↓vT lT2, e_X11_withWish_54]
  · intro r hr1 hr2
    have q1 : ¬ room = -1 := by rw [hr2]; exact nm1 (by omega)
    rw [if_neg q1, hr2, i_nat (by omega)]
    exact ((t4.2.1 r hr1).1).symm
  · rw [t5.1 a (by omega), io a (by omega), tf a ha]
  · rw [t5.2 a (by omega), cpr_ne ha]
end
