/-! explains and isExplained agree -/
section
variable {H S : Nat → Int32} {n : Nat}
theorem rbg_r {r : Nat} (h : r < 8) : rbg H S n r = H (8 + r) := by
  unfold rbg
  rw [up_ne (by omega), up_ne (by omega), seg_out (by omega), seg_out (by omega), seg_out (by omega), seg_out (by omega), pre_lt h]
theorem rbg_o {k : Nat} (h : k < 8) : rbg H S n (8 + k) = if k < n then (if H (144 + k) = 0 then 16 else 0) else 0 := by
  unfold rbg
  rw [up_ne (by omega), up_ne (by omega), seg_out (by omega), seg_out (by omega), seg_in h]
theorem rbg_a {r : Nat} (h : r < 8) : rbg H S n (32 + r) = 0 := by
  unfold rbg
  rw [up_ne (by omega), up_ne (by omega), seg_out (by omega), seg_out (by omega), seg_out (by omega), seg_in h]
theorem rbg_p {p : Nat} (h : p < 4) : rbg H S n (40 + p) = 0 := by
  unfold rbg
  rw [up_ne (by omega), up_ne (by omega), seg_in h]
theorem rbg_m : rbg H S n 71 = 0 := by
  unfold rbg
  rw [up_ne (by omega), up_eq]
theorem rbg_s {j : Nat} (h : (24 ≤ j ∧ j < 32) ∨ (44 ≤ j ∧ j < 71) ∨ (130 ≤ j ∧ j < 168)) : rbg H S n j = S j := by
  unfold rbg
  rw [up_ne (by omega), up_ne (by omega), seg_out (by omega), seg_out (by omega), seg_out (by omega), seg_out (by omega), pre_ge (by omega)]
end
section
variable {G G2 : mG} {I J : Nat → Nat → Int32} {L K : Nat → Nat → Int64} {h hs bl bs cl cs nr n nh M kc lc : Nat} {rm pi mk : Nat → Nat}
theorem ex_pair (d e : Nat) (x1 x2 off : Int32) (q : LyR G h hs bl bs cl cs kc mk) (lM : LayM G2 219) (hb : 103 ≤ h ∧ h + 14 ≤ 132) (hB : BsR I J L K h nr n nh M rm pi) (hr2 : ∀ r, r < nr → I (h + 2) r = J 220 (8 + r) ∧ irng (J 220 (8 + r)) 0 4000) (hl : LgR I lc nr) (j28 : J 219 28 = Int32.ofNat lc) (j31 : J 231 = I 231) (j32 : J 232 = I 232) (j33 : J 233 = I 233) (o1 : OkT I h n nr x1) (o2 : OkT I h n nr x2) : ∃ b I' L' J' K', mcal mT (d + 7) 135 [.ref 100, .int (jmin x1 x2), .int (jmax x1 x2), .int off] (G, I, L) = some (.inl (some (.int b)), (gS G 156 0 (some h), I', L')) ∧ mcal mT (e + 7) 247 [.ref 219, .int x1, .int x2, .int off] (G2, J, K) = some (.inl (some (.int b)), (G2, J', K')) ∧ QuC I I' L L' ∧ QuR J J' K K' ∧ (b = 0 ∨ b = 1) ∧ ∀ k, J' 219 k = J 219 k := by
  obtain ⟨hH, ⟨f15, f16, f18, f20, f21, f24⟩, hS, hT⟩ := id hB
  have hn8 := hH.1.2.2.2.2.2
  have hnr8 := hH.1.2.2.1
  have z1 : ¬ (1 : Int32) = 0 := by decide
  obtain ⟨I4, sg, c1, c2, c3, c4⟩ := wr_c d (L := L) x1 x2 off q hb hH.1.1 hnr8 hH.1.2.2.2.1 hn8 (fun k hk => (hH.2.2.2.2.2.1 k hk).1) o1 o2
  obtain ⟨q2, p2⟩ := LyR_T q h
  have hh := q.2.2.2.2.2.2.2.2.2.2.2.2.2.2.1
  obtain ⟨lB2, -, -, -, ⟨lH1, lH2⟩, ⟨-, lS2⟩, ⟨-, lT2⟩, ⟨-, lU2⟩, -⟩ := id q2
  have lH : LayH (gS G 156 0 (some h)) h := by
    rcases hh with ⟨a, -⟩ | ⟨a, -⟩
    · rw [a] at lH1 ⊢; exact lH1
    · rw [a] at lH2 ⊢; exact lH2
  -- the reference's beginning
  have kp := r_keep (e + 5) (J := J) (K := K) lM
  have k9 : ∀ k, k ≠ 24 → rKp J 219 k = J 219 k := fun k hk => by unfold rKp; rw [up_ne (by decide), up_eq, up_ne hk]
  have k24 : rKp J 219 24 = 1 := by unfold rKp; rw [up_ne (by decide), up_eq, up_eq]
  have ko : ∀ a, a ≠ 219 → a ≠ 224 → rKp J a = J a := fun a h1 h2 => by unfold rKp; rw [up_ne h2, up_ne h1]
  have k4 : rKp J 224 = pre 173 (J 223) (J 224) := by unfold rKp; rw [up_eq]
  have bg := r_begins (e + 4) (J := rKp J) (K := va_up K 226 (pre 16 (K 225) (K 226))) (n := n) lM (by rw [ko 220 (by decide) (by decide)]; exact hH.1.2.2.2.2.1) hn8
  rw [ko 220 (by decide) (by decide), ko 223 (by decide) (by decide), up_ne (show (225 : Nat) ≠ 226 by decide)] at bg
  generalize hJ3 : va_up (va_up (rKp J) 223 (rbg (J 220) (J 223) n)) 219 (va_up (va_up (rKp J 219) 15 x1) 16 x2) = J3
  generalize hK3 : va_up (va_up K 226 (pre 16 (K 225) (K 226))) 225 (pre 8 (fun _ => 0) (K 225)) = K3 at bg
  have o9 : ∀ k, k ≠ 15 → k ≠ 16 → k ≠ 24 → J3 219 k = J 219 k := fun k h1 h2 h3 => by rw [← hJ3, up_eq, up_ne h2, up_ne h1, k9 k h3]
  have oo : ∀ a, a ≠ 219 → a ≠ 223 → a ≠ 224 → J3 a = J a := fun a h1 h2 h3 => by rw [← hJ3, up_ne h1, up_ne h2, ko a h1 h3]
  have o3 : J3 223 = rbg (J 220) (J 223) n := by rw [← hJ3, up_ne (by decide), up_eq]
  have o4 : J3 224 = pre 173 (J 223) (J 224) := by rw [← hJ3, up_ne (by decide), up_ne (by decide), k4]
  have o15 : J3 219 15 = x1 := by rw [← hJ3, up_eq, up_ne (by decide), up_eq]
  have o16 : J3 219 16 = x2 := by rw [← hJ3, up_eq, up_eq]
  have o24 : J3 219 24 = 1 := by rw [← hJ3, up_eq, up_ne (by decide), up_ne (by decide), k24]
  have o220 := oo 220 (by decide) (by decide) (by decide)
  -- rows of the class's trial
  obtain ⟨t1, -, t3, -, -, -, -, t8⟩ := tBg_r (I := I) (h := h) (n := n) hb.2
  have fw : ∀ a, a ≠ 185 → a ≠ 192 → a ≠ 178 → a ≠ 193 → I4 a = tBg I h n a := c4.1
  have fo : ∀ a, ¬ (171 ≤ a ∧ a < 195) → I4 a = I a := fun a ha => by rw [fw a (by omega) (by omega) (by omega) (by omega), tBg_fr ha]
  have fs : ∀ a, 171 ≤ a → a < 178 → I4 a = cpS I 171 132 a := fun a h1 h2 => by rw [fw a (by omega) (by omega) (by omega) (by omega), tBg_s h1 h2]
  obtain ⟨r1, r2, r3, r4, r5, r6⟩ := cpS_r (I := I) (s := 171) (o := 132) (by decide)
  have ff := cpS_f (I := I) (s := 171) (o := 132) (by decide)
  have hS4 : SeR I4 171 (J3 223) n nh := by
    refine SeR_cp hS hn8 ?_ ?_ ?_ ?_ ?_ ?_ ?_ (fun j hj => by rw [o3]; exact rbg_s (by omega))
    · intro k hk; rw [fs _ (by decide) (by decide), r1, pre_lt hk]
    · intro k hk; rw [fs _ (by decide) (by decide), r2, pre_lt hk]
    · intro k hk; rw [fs _ (by decide) (by decide), r3, pre_lt hk]
    · intro k hk; rw [fs _ (by decide) (by decide), r4, pre_lt hk]
    · intro k hk; rw [fs _ (by decide) (by decide), r5, pre_lt hk]
    · intro k hk; rw [fs _ (by decide) (by decide), r6, pre_lt hk]
    · rw [fs _ (by decide) (by decide)]; exact ff
  have hH4 : HsR I4 J3 h 219 nr n rm pi := HsR_c (fun a h1 h2 => fo a (by omega)) o220 hH
  have cor : CoR I4 J3 171 178 192 219 nr n nh nh sg (fun k => rm (sg k)) 0 := by
    refine bg_cor hH4 hS4 (by rw [o15, o16]; exact c2) (by rw [o15, o16]; exact c3) ?_ ?_ ?_ ?_ ?_ ?_ ?_ ?_ ?_ ?_
    · rw [c4.2 0 (by decide) (by decide)]; exact t3
    · rw [o3]; exact rbg_m
    · intro r hr
      obtain ⟨a1, a2, a3⟩ := hr2 r hr
      rw [fw 179 (by decide) (by decide) (by decide) (by decide), t1 r (by omega), o3, rbg_r (by omega)]
      exact ⟨a1, by omega, by omega⟩
    · intro k hk hz
      rw [o220] at hz
      rw [o3, rbg_o (by omega), if_pos hk, if_neg hz]
    · intro p hp; rw [o3]; exact rbg_p hp
    · intro r hr; rw [o3]; exact rbg_a hr
    · rw [o9 18 (by decide) (by decide) (by decide)]; exact f18
    · rw [o9 20 (by decide) (by decide) (by decide)]; exact f20
    · rw [o9 21 (by decide) (by decide) (by decide)]; exact f21
    · intro k hk
      rw [fw 194 (by decide) (by decide) (by decide) (by decide), t8 k (by omega), o220]
      exact (hH.2.2.2.2.2.2.2.1 k hk).2.2.2
  obtain ⟨SI, SL, SJ, SK, a1, a2, a3, a4, b1, b2, b3⟩ := sq_ex (d + 1) (e + 1) (L := fil L 187 8 0) (K := K3) p2 lH lS2 lT2 lU2 lM (by omega) (by decide) (by decide) hH4 cor (by rw [o24]; exact z1) 240 (by decide)
  -- the rows of the log
  obtain ⟨⟨l1, -, l3⟩, l4, l5, l6, l7⟩ := id hl
  have hJr : ∀ j, j < lc → I 231 j = Int32.ofNat (I 231 j).toNatClampNeg ∧ (I 231 j).toNatClampNeg ≤ 240 ∧ I 232 j = Int32.ofNat (I 232 j).toNatClampNeg ∧ (I 232 j).toNatClampNeg < 8 ∧ 1 ≤ (I 231 j).toNatClampNeg ∧ (I 232 j).toNatClampNeg < nr := by
    intro j hj
    obtain ⟨mi, ro, m1, m2, m3, m4, m5, -⟩ := l4 j hj
    rw [m4, m5, i_nat (by omega), i_nat (by omega)]
    exact ⟨rfl, m2, rfl, by omega, m1, m3⟩
  have hIr : ∀ i, i < lc → I 218 (3 * i) = Int32.ofNat (I 218 (3 * i)).toNatClampNeg ∧ (I 218 (3 * i)).toNatClampNeg ≤ 240 ∧ I 218 (3 * i + 1) = Int32.ofNat (I 218 (3 * i + 1)).toNatClampNeg ∧ (I 218 (3 * i + 1)).toNatClampNeg < 8 := by
    intro i hi
    obtain ⟨j, j1, j2, j3, -⟩ := l5 i hi
    obtain ⟨w1, w2, w3, w4, -⟩ := hJr j j1
    rw [j2, j3]
    exact ⟨w1, w2, w3, w4⟩
  have sor : ∀ i, i + 1 < lc → (I 218 (3 * i)).toNatClampNeg ≤ (I 218 (3 * (i + 1))).toNatClampNeg := by
    intro i hi
    have a := l7 i hi
    obtain ⟨u1, u2, -⟩ := hIr i (by omega)
    obtain ⟨v1, v2, -⟩ := hIr (i + 1) hi
    rw [u1, v1] at a
    exact (i_le (by omega) (by omega)).mp a
  -- the class's run
  have fI : ∀ m, m ≤ 240 → ∀ a, ¬ (171 ≤ a ∧ a < 195) → SI m a = I a := fun m hm a ha => by rw [(b3 m hm).2.2.1.1 a (by omega), fo a ha]
  obtain ⟨b, m', n1, n2, n3⟩ := ex_c (d + 1) (SI := SI) (SL := SL) (off := off) (R := I 218) (mi := fun i => (I 218 (3 * i)).toNatClampNeg) (ro := fun i => (I 218 (3 * i + 1)).toNatClampNeg) lB2 p2 lT2 b1 (fun m hm => by rw [(b3 m hm).2.1.1.1, Nat.zero_add]) (fun m hm => by rw [fI m hm 100 (by decide)]; exact l1) (fun m hm => fI m hm 218 (by decide)) l3 hIr sor lc 0 (by omega) 0 (by omega) (fun _ => Nat.zero_le _)
  rw [a1, a2] at n2
  -- the reference's run
  have fJ : ∀ m, m ≤ 240 → ∀ a, a ≠ 223 → a ≠ 227 → SJ m a = J3 a := fun m hm a h1 h2 => (b3 m hm).2.2.2.1 a h1 h2
  have j28' : J3 219 28 = Int32.ofNat lc := by rw [o9 28 (by decide) (by decide) (by decide)]; exact j28
  have j31' : J3 231 = I 231 := by rw [oo 231 (by decide) (by decide) (by decide), j31]
  have j32' : J3 232 = I 232 := by rw [oo 232 (by decide) (by decide) (by decide), j32]
  have j33' : J3 233 = I 233 := by rw [oo 233 (by decide) (by decide) (by decide), j33]
  obtain ⟨last, x1', x2', x3⟩ := ex_m (e + 6) (J := J3) (K := K3) (off := off) (ma := fun j => (I 231 j).toNatClampNeg) lM j28' j31' l3 (fun j hj => ⟨(hJr j hj).1, (hJr j hj).2.1⟩) lc 0 (by omega) 0 (by omega) (fun i hi => by omega)
  obtain ⟨b', m'', y1, y2, y3⟩ := ex_o (e + 1) (SJ := SJ) (SK := SK) (off := off) (A := I 231) (B := I 232) (C := I 233) (ma := fun j => (I 231 j).toNatClampNeg) (rb := fun j => (I 232 j).toNatClampNeg) last lM b2 x1' (fun m hm => by rw [fJ m hm 219 (by decide) (by decide)]; exact j28') (fun m hm => by rw [fJ m hm 231 (by decide) (by decide)]; exact j31') (fun m hm => by rw [fJ m hm 232 (by decide) (by decide)]; exact j32') (fun m hm => by rw [fJ m hm 233 (by decide) (by decide)]; exact j33') l3 (fun j hj => ⟨(hJr j hj).1, (hJr j hj).2.1, (hJr j hj).2.2.1, (hJr j hj).2.2.2.1⟩) x2' last 0 (by omega)
  rw [a3, a4] at y2
  -- both say the same
  have same : ∀ j, j < lc → (jabs (SI (I 231 j).toNatClampNeg 179 (I 232 j).toNatClampNeg - I 233 j) ≤ off ↔ (¬ off < SJ (I 231 j).toNatClampNeg 223 (I 232 j).toNatClampNeg - I 233 j ∧ -(SJ (I 231 j).toNatClampNeg 223 (I 232 j).toNatClampNeg - I 233 j) ≤ off)) := by
    intro j hj
    obtain ⟨-, w2, -, -, -, w6⟩ := hJr j hj
    obtain ⟨mi, ro, -, -, -, -, -, te1, te2⟩ := l4 j hj
    obtain ⟨v1, v2, v3⟩ := (b3 _ w2).2.1.2.1 _ w6
    have v1' : SI (I 231 j).toNatClampNeg 179 (I 232 j).toNatClampNeg = SJ (I 231 j).toNatClampNeg 223 (I 232 j).toNatClampNeg := v1
    have v2' : -9999 ≤ (SJ (I 231 j).toNatClampNeg 223 (I 232 j).toNatClampNeg).toInt := v2
    have v3' : (SJ (I 231 j).toNatClampNeg 223 (I 232 j).toNatClampNeg).toInt ≤ 9999 := v3
    rw [v1']
    refine jabs_e ?_
    unfold irng
    rw [t_sub (by omega) (by omega)]
    omega
  have rowi : ∀ i, i < lc → ∃ j, j < lc ∧ (jabs (SI (I 218 (3 * i)).toNatClampNeg 179 (I 218 (3 * i + 1)).toNatClampNeg - I 218 (3 * i + 2)) ≤ off ↔ jabs (SI (I 231 j).toNatClampNeg 179 (I 232 j).toNatClampNeg - I 233 j) ≤ off) := by
    intro i hi
    obtain ⟨j, j1, j2, j3, j4⟩ := l5 i hi
    exact ⟨j, j1, by rw [j2, j3, j4]⟩
  have rowj : ∀ j, j < lc → ∃ i, i < lc ∧ (jabs (SI (I 218 (3 * i)).toNatClampNeg 179 (I 218 (3 * i + 1)).toNatClampNeg - I 218 (3 * i + 2)) ≤ off ↔ jabs (SI (I 231 j).toNatClampNeg 179 (I 232 j).toNatClampNeg - I 233 j) ≤ off) := by
    intro j hj
    obtain ⟨i, j1, j2, j3, j4⟩ := l6 j hj
    exact ⟨i, j1, by rw [j2, j3, j4]⟩
  have bb : b' = b ∧ (b = 0 ∨ b = 1) := by
    rcases n3 with ⟨rfl, all⟩ | ⟨rfl, i, i1, i2⟩
    · rcases y3 with ⟨rfl, -⟩ | ⟨rfl, j, j1, j2⟩
      · exact ⟨rfl, Or.inr rfl⟩
      · exfalso
        obtain ⟨i, i1, i2⟩ := rowj j j1
        exact j2 ((same j j1).mp (i2.mp (all i (Nat.zero_le _) i1)))
    · rcases y3 with ⟨rfl, all⟩ | ⟨rfl, -⟩
      · exfalso
        obtain ⟨j, j1, j2⟩ := rowi i i1
        exact i2 (j2.mpr ((same j j1).mpr (all j j1 (by have := (hJr j j1).2.2.2.2.1; omega))))
      · exact ⟨rfl, Or.inl rfl⟩
  obtain ⟨rfl, b01⟩ := bb
  -- the reference's end
  have en := r_ends (e + 4) (J := va_up (SJ m'') 219 (va_up (va_up (SJ m'' 219) 15 (-1)) 16 (-1))) (K := SK m'') lM
  have mbb : ∀ X : Option mO, mbool b' X = X := fun X => by
    rcases b01 with rfl | rfl
    · exact mb0
    · exact mb1
  have g9 : ∀ k, va_up (va_up (va_up (SJ m'') 219 (va_up (va_up (SJ m'' 219) 15 (-1)) 16 (-1))) 223 (pre 173 (va_up (SJ m'') 219 (va_up (va_up (SJ m'' 219) 15 (-1)) 16 (-1)) 224) (va_up (SJ m'') 219 (va_up (va_up (SJ m'' 219) 15 (-1)) 16 (-1)) 223))) 219 (va_up (va_up (SJ m'') 219 (va_up (va_up (SJ m'' 219) 15 (-1)) 16 (-1)) 219) 24 0) 219 k = J 219 k := by
    intro k
    rw [up_eq, up_eq]
    by_cases c : k = 24
    · rw [c, up_eq, f24]
    rw [up_ne c]
    by_cases c' : k = 16
    · rw [c', up_eq, f16]
    rw [up_ne c']
    by_cases c'' : k = 15
    · rw [c'', up_eq, f15]
    rw [up_ne c'', fJ m'' y1 219 (by decide) (by decide), o9 k c'' c' c]
  refine ⟨b', SI m', SL m', va_up (va_up (va_up (SJ m'') 219 (va_up (va_up (SJ m'' 219) 15 (-1)) 16 (-1))) 223 (pre 173 (va_up (SJ m'') 219 (va_up (va_up (SJ m'' 219) 15 (-1)) 16 (-1)) 224) (va_up (SJ m'') 219 (va_up (va_up (SJ m'' 219) 15 (-1)) 16 (-1)) 223))) 219 (va_up (va_up (SJ m'') 219 (va_up (va_up (SJ m'' 219) 15 (-1)) 16 (-1)) 219) 24 0), va_up (SK m'') 225 (pre 16 (SK m'' 226) (SK m'' 225)), ?_, ?_, ⟨fun a ha => fI m' n1 a ha, fun a ha => ?_⟩, ?_, b01, ?_⟩
  · rw [q_X11_explains_]
    refine c1.trans ?_
    rw [e_X11_explains_25]
    exact n2
  · rw [q_X12_isExplained_, e_X12_isExplained_0]
    simp (disch := omega) only [↓vM lM, ↓mcV_of kp, ↓mcV_of bg, up2_e, up_eq, up_up, up_ne]
    rw [hJ3]
    refine Eq.trans x3 ?_
    rw [e_X12_isExplained_65]
    refine Eq.trans y2 ?_
    rw [e_X12_isExplained_164]
    simp only [↓vM lM, up2_e, up_eq, up_up, ↓mcV_of en, mbb]
    simp (disch := omega) only [up_ne, up_eq]
  · rw [(b3 m' n1).2.2.1.2 a ha, fil_ne ha]
  · have gJ : ∀ a, a ≠ 219 → a ≠ 223 → a ≠ 224 → a ≠ 227 → SJ m'' a = J a := fun a h1 h2 h3 h4 => by rw [fJ m'' y1 a h2 h4, oo a h1 h2 h3]
    refine ⟨fun a h1 h2 h3 h4 h5 => ?_, fun k h1 h2 h3 h4 h5 => ?_, fun j hj => ?_, fun a h1 h2 => ?_, fun j hj => ?_⟩
    · rw [up_ne h1, up_ne h2, up_ne h1, gJ a h1 h2 h3 h4]
    · exact g9 k
    · rw [up_ne (by decide), up_eq, pre_lt hj, up_ne (by decide), fJ m'' y1 224 (by decide) (by decide), o4, pre_lt hj]
    · rw [up_ne h1, (b3 m'' y1).2.2.2.2 a h1, ← hK3, up_ne h1, up_ne h2]
    · rw [up_eq, pre_lt hj, (b3 m'' y1).2.2.2.2 226 (by decide), ← hK3, up_ne (by decide), up_eq, pre_lt hj]
  · exact g9
end
