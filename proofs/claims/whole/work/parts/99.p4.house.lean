/-! a house, read: a clause -/
section
variable {G G2 : mG} {I J : Nat → Nat → Int32} {L K : Nat → Nat → Int64} {B : Nat → Nat} {e a x nr n c : Nat}
theorem OutK_m {R : Nat} {X X2 Y : Option mO} (h : OutK B e a x c R I J G G2 L K X Y) (hm : ∀ (v : Int32) I', (v = 0 ∨ v = 1) → X = some (.inl (some (.int v)), (G, I', L)) → X2 = some (.inl (some (.int v)), (G, I', L))) : OutK B e a x c R I J G G2 L K X2 Y := by
  rcases h with ⟨I1, J1, a1, n1, n2, h1, h2⟩ | ⟨I1, J1, k, p, h1, h2⟩
  · exact Or.inl ⟨I1, J1, a1, n1, n2, hm 1 I1 (Or.inr rfl) h1, h2⟩
  · exact Or.inr ⟨I1, J1, k, p, hm 0 I1 (Or.inl rfl) h1, h2⟩
/-- a clause of both, or the same fault -/
def OutL (B : Nat → Nat) (e a x : Nat) (I J : Nat → Nat → Int32) (G G2 : mG) (L K : Nat → Nat → Int64) (X Y : Option mO) (c : Nat) : Prop := (∃ I' J' a' nr' n', X = some (.inl (some (.int 1)), (G, I', L)) ∧ Y = some (.inl none, (G2, J', K)) ∧ PrH B e a' x nr' n' c I' J' ∧ HcF x I I' ∧ HjF J J' ∧ a < a') ∨ (∃ I' J' k p, X = some (.inl (some (.int 0)), (G, I', L)) ∧ Y = some (.inl none, (G2, J', K)) ∧ I' 101 6 = k ∧ I' 101 7 = Int32.ofNat p ∧ J' 219 6 = Int32.ofNat p ∧ J' 219 7 = k ∧ p ≤ 500 ∧ HcF x I I' ∧ HjF J J')
/-- the sign behind a clause -/
theorem kc_tail (d r : Nat) {X Y : Option mO} (lX : LayX G 101) (lM : LayM G2 219) (h : OutK B e a x c (r + 5) I J G G2 L K X Y) : OutL B e a x I J G G2 L K (mcI X (fun v10 h9 => (if v10 = 0 then f_X4_readClause (d + 7) 72 [mU, mU, mU] [] h9 else gk h9.1 101 11 (mcI (mcal mT (d + 7) 92 [.ref 101, .int 59] h9) (fun v12 h11 => (if v12 = 0 then f_X4_readClause (d + 7) 72 [mU, mU, mU] [] h11 else f_X4_readClause (d + 7) 73 [mU, mU, mU] [.int 1] h11)) mthr))) mthr) Y c := by
  have z1 : ¬ (1 : Int32) = 0 := by decide
  rcases h with ⟨I1, J1, a1, n1, n2, h1, h2, h3, h4, h5, h6⟩ | ⟨I1, J1, k, p, h1, h2, h3, h4, h5, h6, h7, h8, h9⟩
  · obtain ⟨q1, q2, q3, q4, q5⟩ := id h3
    have bb := skb_b (B := B) (e := e) (a := a1) q1.2.2.1
    have e5 := q1.2.2.2.1
    have m1 := tk_must (d + 3) (L := L) (x := 59) lX q1 (by decide)
    have m2 := rk_need (r + 3) (K := K) (x := 59) lM q2 (by decide) (by decide)
    rcases m1 with ⟨s1, I2, t1, t2, t3, t4⟩ | ⟨s1, I2, t1, t2, t3, t4⟩
    · rcases m2 with ⟨s2, J2, u1, u2, u3, u4⟩ | ⟨s2, -⟩
      · have t1' : mcal mT (d + 7) 92 [.ref 101, .int 59] (G, I1, L) = some (.inl (some (.int 1)), (G, I2, L)) := t1
        have u1' : mcal mT (r + 5) 188 [.ref 219, .int 59] (G2, J1, K) = some (.inl none, (G2, J2, K)) := u1
        refine Or.inl ⟨I2, J2, skb B e a1 + 1, n1, n2, ?_, ?_, ⟨t3, u3, ?_, q4, by rw [t4 7 (by decide)]; exact q5⟩, HcF_t h4 (HcF_x t2), HjF_t h5 (HjF_x u2), by omega⟩
        · rw [h1, mcI_v, if_neg z1]
          simp only [↓vX lX, ↓mcI_of t1', if_neg z1, e_X4_readClause_73, mb1]
        · rw [h2, e_X12_readClause_528]
          simp only [↓vM lM, ↓mcV_of u1']
        · rw [hrw_o t2 q4, u2.1 221 (by decide)]; exact q3
      · exact absurd s1 s2
    · rcases m2 with ⟨s2, -⟩ | ⟨s2, J2, u1, u2, u3, u4⟩
      · exact absurd s2 s1
      · have t1' : mcal mT (d + 7) 92 [.ref 101, .int 59] (G, I1, L) = some (.inl (some (.int 0)), (G, I2, L)) := t1
        have u1' : mcal mT (r + 5) 188 [.ref 219, .int 59] (G2, J1, K) = some (.inl none, (G2, J2, K)) := u1
        refine Or.inr ⟨I2, J2, 1, skb B e a1, ?_, ?_, t3, t4, u3, u4, by omega, HcF_t h4 (HcF_x t2), HjF_t h5 (HjF_x u2)⟩
        · rw [h1, mcI_v, if_neg z1]
          simp only [↓vX lX, ↓mcI_of t1', if_true, e_X4_readClause_72, e_X4_readClause_73, mb0]
        · rw [h2, e_X12_readClause_528]
          simp only [↓vM lM, ↓mcV_of u1']
  · have nf : ¬ J1 219 6 = -1 := by rw [h5]; exact nm1 (by omega)
    have nd : mcal mT (r + 5) 188 [.ref 219, .int 59] (G2, J1, K) = some (.inl none, (G2, J1, K)) := rk_needN (r + 3) (K := K) 59 lM nf
    refine Or.inr ⟨I1, J1, k, p, ?_, ?_, h3, h4, h5, h6, h7, h8, h9⟩
    · rw [h1, mcI_v, if_pos rfl, e_X4_readClause_72, e_X4_readClause_73, mb0]
    · rw [h2, e_X12_readClause_528]
      simp only [↓vM lM, ↓mcV_of nd]
/-- too many of them, to the class -/
theorem c_many (d i : Nat) (lH : LayH G x) (h0 : I x 0 = Int32.ofNat c) (hc : c ≤ 40) (h1 : I x 1 = Int32.ofNat nr) (hr : nr ≤ 8) (h2 : I x 10 = Int32.ofNat n) (hn : n ≤ 8) (hi : i ≤ 10) : mcal mT (d + 1) 36 [.ref x, .int (Int32.ofNat i)] (G, I, L) = some (.inl (some (.int (if c = 40 ∨ (i = 0 ∧ nr = 8) ∨ (i = 5 ∧ n = 8) then 1 else 0))), (G, I, L)) := by
  rw [q_X4_isOneTooMany_, e_X4_isOneTooMany_0]
  simp only [↓vH lH, h0]
  by_cases c40 : c = 40
  · rw [if_pos (show (40 : Int32) ≤ Int32.ofNat c from (i_le (a := 40) (by decide) (by omega)).mpr (by omega)), if_pos (Or.inl c40), e_X4_isOneTooMany_36, e_X4_isOneTooMany_41, mb1]
  rw [if_neg (show ¬ (40 : Int32) ≤ Int32.ofNat c from fun t => by have := (i_le (a := 40) (by decide) (by omega)).mp t; omega)]
  have rest : f_X4_isOneTooMany d 22 [.ref x, .int (Int32.ofNat i)] [] (G, I, L) = some (.inl (some (.int (if i = 5 ∧ n = 8 then 1 else 0))), (G, I, L)) := by
    rw [e_X4_isOneTooMany_22]
    by_cases i5 : i = 5
    · rw [if_pos (show Int32.ofNat i = 5 by rw [i5]; rfl)]
      simp only [↓vH lH, h2]
      by_cases n8 : n = 8
      · rw [if_neg (show ¬ Int32.ofNat n < 8 from fun t => by have := (i_lt (b := 8) (by omega) (by decide)).mp t; omega), if_pos ⟨i5, n8⟩, e_X4_isOneTooMany_36, e_X4_isOneTooMany_41, mb1]
      · rw [if_pos (show Int32.ofNat n < 8 from (i_lt (b := 8) (by omega) (by decide)).mpr (by omega)), if_neg (fun t => n8 t.2), e_X4_isOneTooMany_40, e_X4_isOneTooMany_41, mb0]
    · rw [if_neg (show ¬ Int32.ofNat i = 5 from fun t => i5 ((i_eq (b := 5) (by omega) (by decide)).mp t)), if_neg (fun t => i5 t.1), e_X4_isOneTooMany_40, e_X4_isOneTooMany_41, mb0]
  by_cases i0 : i = 0
  · rw [if_pos (show Int32.ofNat i = 0 by rw [i0]; rfl)]
    simp only [h1]
    by_cases r8 : nr = 8
    · rw [if_pos (show (8 : Int32) ≤ Int32.ofNat nr from (i_le (a := 8) (by decide) (by omega)).mpr (by omega)), if_pos (Or.inr (Or.inl ⟨i0, r8⟩)), e_X4_isOneTooMany_36, e_X4_isOneTooMany_41, mb1]
    · rw [if_neg (show ¬ (8 : Int32) ≤ Int32.ofNat nr from fun t => by have := (i_le (a := 8) (by decide) (by omega)).mp t; omega), rest]
      congr 5
      rw [if_neg (by omega), if_neg (by omega)]
  · rw [if_neg (show ¬ Int32.ofNat i = 0 from fun t => i0 ((i_eq (b := 0) (by omega) (by decide)).mp t)), rest]
    by_cases x5 : i = 5 ∧ n = 8
    · rw [if_pos x5, if_pos (Or.inr (Or.inr x5))]
    · rw [if_neg x5, if_neg (by omega)]
theorem kd_room (d r : Nat) (lX : LayX G 101) (lH : LayH G x) (lM : LayM G2 219) (q : PrH B e a x nr n c I J) (hw : isw wd_room B (skb B e a) (wde B e a)) : OutL B e a x I J G G2 L K (mcal mT (d + 8) 35 [.ref x, .ref 101] (G, I, L)) (mcal mT (r + 6) 196 [.ref 219] (G2, J, K)) (c + 1) := by
  have z1 : ¬ (1 : Int32) = 0 := by decide
  obtain ⟨q1, q2, q3, q4, q5⟩ := id q
  obtain ⟨⟨a1, a2, a3, a4, a5, a6, a7, a8, a9⟩, -⟩ := id q3
  have ae := q1.2.2.1
  have e5 := q1.2.2.2.1
  have bb := skb_b (B := B) (e := e) (a := a) ae
  have wb := wde_b (B := B) (e := e) (a := a) ae
  have lw : (wd_room).length = wde B e a - skb B e a := hw.1
  have lw2 : 3 ≤ (wd_room).length := by decide
  have N : ∀ w : List Nat, lets w → ¬ (wd_room.length = w.length ∧ ∀ k, k < wd_room.length → wd_room.getD k 0 = w.getD k 0) → ¬ lg_cmp (Int64.ofNat (whs B (skb B e a) (wde B e a))) (Int64.ofNat (wsm w)) = 0 := fun w l h z => by
    have h' := (wd_cmp (B := B) (e := e) (a := a) l ae).mp z
    exact h ⟨hw.1.trans h'.1.symm, fun k hk => (hw.2 k hk).trans (h'.2 k (by rw [h'.1, ← hw.1]; exact hk)).symm⟩
  have P : lg_cmp (Int64.ofNat (whs B (skb B e a) (wde B e a))) (Int64.ofNat (wsm wd_room)) = 0 := (wd_cmp (B := B) (e := e) (a := a) lt_room ae).mpr hw
  -- the class's word
  obtain ⟨I1, c1, c2, c3, c4, c5⟩ := tw_28 (d + 5) (L := L) lX q1
  have NC : ∀ w : List Nat, ¬ (wd_room.length = w.length ∧ ∀ k, k < wd_room.length → wd_room.getD k 0 = w.getD k 0) → ¬ isw w B (skb B e a) (wde B e a) := fun w h h' => h ⟨hw.1.trans h'.1.symm, fun k hk => (hw.2 k hk).trans (h'.2 k (by rw [h'.1, ← hw.1]; exact hk)).symm⟩
  rw [if_pos hw] at c1
  have i0 : I1 x 0 = Int32.ofNat c := by rw [c2.1 x (by omega)]; exact a1
  have i1 : I1 x 1 = Int32.ofNat nr := by rw [c2.1 x (by omega)]; exact a4
  have i10 : I1 x 10 = Int32.ofNat n := by rw [c2.1 x (by omega)]; exact a7
  have ma := c_many (d + 6) 0 (G := G) (I := I1) (L := L) lH i0 a3 i1 a6 i10 a9 (by decide)
  have ec : mcal mT (d + 8) 35 [.ref x, .ref 101] (G, I, L) = (if (if c = 40 ∨ (0 = 0 ∧ nr = 8) ∨ (0 = 5 ∧ n = 8) then (1 : Int32) else 0) = 0 then f_X4_readClause (d + 7) 40 [.ref x, .ref 101, .int (Int32.ofNat 0)] [] (G, I1, L) else (mcI (mcal mT (d + 7) 87 [.ref 101, .int 3, .int (Int32.ofNat (skb B e a))] (G, I1, L)) (fun v8 h7 => mbool v8 (some (.inl (some (.int v8)), h7))) mthr)) := by
    rw [q_X4_readClause_, e_X4_readClause_0]
    simp only [↓vX lX, ↓mcI_of c1, if_neg (show ¬ Int32.ofNat 0 = -1 by decide), e_X4_readClause_22, ↓vH lH, ↓mcI_of ma, c4]
  -- the reference's word
  obtain ⟨J1, g1, g2, g3, g4⟩ := rk_word (r + 3) (K := K) lM q2
  have j5 : J1 219 5 = Int32.ofNat (skb B e a) := g3.2.1
  have j221 : J1 221 = J 221 := g2.1 221 (by decide)
  have fi := r_fine (r + 4) (K := K) lM g3.2.2.2.2.1
  have er : mcal mT (r + 6) 196 [.ref 219] (G2, J, K) = f_X12_readClause (r + 5) 157 [.ref 219, .long (Int64.ofNat (whs B (skb B e a) (wde B e a))), mU, .int 0, mU, mU, mU] [] (G2, J1, K) := by
    rw [q_X12_readClause_, e_X12_readClause_0]
    simp only [↓vM lM, ↓mcL_of g1, ↓mcL_of (o_snap (r + 4)), if_neg (N wd_snap lt_snap (by decide)), e_X12_readClause_19, ↓mcL_of (o_slow (r + 4)), if_neg (N wd_slow lt_slow (by decide)), e_X12_readClause_33, ↓mcL_of (o_draught (r + 4)), if_neg (N wd_draught lt_draught (by decide)), e_X12_readClause_47, e_X12_readClause_48, if_neg (show ¬ (0 : Int32) < 0 by decide), ↓mcL_of (o_room (r + 4)), if_pos P, e_X12_readClause_133, e_X12_readClause_138, if_neg z1]
  have j165 : J1 221 165 = Int32.ofNat c := by rw [j221]; exact a2
  have j163 : J1 221 163 = Int32.ofNat nr := by rw [j221]; exact a5
  have j164 : J1 221 164 = Int32.ofNat n := by rw [j221]; exact a8
  by_cases tm : c = 40 ∨ (0 = 0 ∧ nr = 8) ∨ (0 = 5 ∧ n = 8)
  · -- one too many
    obtain ⟨I2, d1, d2, d3, d4⟩ := tk_fail (d + 6) (I := I1) (L := L) 3 (Int32.ofNat (skb B e a)) lX
    have w := r_wrong (r + 4) (K := K) 3 (Int32.ofNat (skb B e a)) lM g3.2.2.2.2.1
    have o3 := RdO_u (k := 6) (v := Int32.ofNat (skb B e a)) g2 (by omega)
    have o4 := RdO_u (k := 7) (v := 3) o3 (by omega)
    rw [up_eq, up_up] at o4
    have nf := r_fineN (r + 4) (G := G2) (J := va_up J1 219 (va_up (va_up (J1 219) 6 (Int32.ofNat (skb B e a))) 7 3)) (K := K) lM (by rw [up_eq, up_ne (by decide), up_eq]; exact nm1 (by omega))
    have f216 : f_X12_readClause (r + 5) 216 [.ref 219, .long (Int64.ofNat (whs B (skb B e a) (wde B e a))), mU, .int 0, mU, mU, mU] [] (G2, J1, K) = some (.inl none, (G2, va_up J1 219 (va_up (va_up (J1 219) 6 (Int32.ofNat (skb B e a))) 7 3), K)) := by
      rw [e_X12_readClause_216]
      simp only [↓vM lM, j5, ↓mcV_of w, e_X12_readClause_225, ↓mcI_of nf, if_true]
    refine Or.inr ⟨I2, _, 3, skb B e a, ?_, ?_, d3, d4, by rw [up_eq, up_ne (by decide), up_eq], by rw [up_eq, up_eq], by omega, HcF_x (TxO_t c2 d2), HjF_x o4⟩
    · rw [ec, if_pos tm, if_neg z1]
      simp only [↓mcI_of d1, mb0]
    · rw [er, ← f216, e_X12_readClause_157]
      by_cases c40 : c = 40
      · simp (disch := omega) only [↓vM lM, j165, c40, if_pos (show Int32.ofNat 40 = 40 from rfl)]
      · have r8 : nr = 8 := by omega
        have n40 : ¬ Int32.ofNat c = 40 := fun z => by have := (i_eq (b := 40) (by omega) (by decide)).mp z; omega
        simp (disch := omega) only [↓vM lM, j165, if_neg n40, ↓mcL_of (o_room (r + 4)), if_pos P, j163, r8, if_pos (show Int32.ofNat 8 = 8 from rfl)]
  · have cm : c < 40 := by omega
    have f225 : mcal mT (r + 6) 196 [.ref 219] (G2, J, K) = f_X12_readClause (r + 5) 225 [.ref 219, .long (Int64.ofNat (whs B (skb B e a) (wde B e a))), mU, .int 0, mU, mU, mU] [] (G2, J1, K) := by
      have n40 : ¬ Int32.ofNat c = 40 := fun z => by have := (i_eq (b := 40) (by omega) (by decide)).mp z; omega
      rw [er, e_X12_readClause_157]
      have n8 : ¬ Int32.ofNat nr = 8 := fun z => by have := (i_eq (b := 8) (by omega) (by decide)).mp z; omega
      simp (disch := omega) only [↓vM lM, j165, if_neg n40, ↓mcL_of (o_room (r + 4)), if_pos P, j163, if_neg n8, e_X12_readClause_193, ↓mcL_of (o_radiator (r + 4)), if_neg (N wd_radiator lt_radiator (by decide))]
    -- the word passed, the clause counted
    have pa := rk_pass (r + 3) (K := K) lM _ _ J1 rfl g3
    have wq : skr (isL B) e (skb B e a) = wde B e a := rfl
    rw [wq] at pa
    have o3 := RdO_u (k := 5) (v := Int32.ofNat (wde B e a)) g2 (by omega)
    have r3 := RdR_o q2 o3 (a' := wde B e a) (by rw [up_eq, up_eq]) wb.2 (by rw [up_eq, up_ne (by decide)]; exact g3.2.2.2.2.1)
    generalize hJ2 : va_up J1 219 (va_up (J1 219) 5 (Int32.ofNat (wde B e a))) = J2 at pa o3 r3
    have k221 : J2 221 = J 221 := o3.1 221 (by decide)
    have k165 : J2 221 165 = Int32.ofNat c := by rw [k221]; exact a2
    have qh : PrH B e (wde B e a) x nr n (c + 1) (va_up I1 (x + 0) (va_up (I1 x) 0 (Int32.ofNat (c + 1)))) (va_up J2 221 (va_up (J2 221) 165 (Int32.ofNat (c + 1)))) := by
      refine ⟨TxR_u c3 q4, RdR_u r3, ?_, q4, by rw [up_ne (by omega), c5 7 (by decide)]; exact q5⟩
      rw [hrw_u, up_eq, hrw_o c2 q4, k221, show I1 x = I x from c2.1 x (by omega)]
      exact Hr_clause q3 cm
    have k := kr_room d r (L := L) (K := K) lX lH lM qh (by omega)
    generalize hI2 : va_up I1 (x + 0) (va_up (I1 x) 0 (Int32.ofNat (c + 1))) = I2 at k qh
    generalize hJ3 : va_up J2 221 (va_up (J2 221) 165 (Int32.ofNat (c + 1))) = J3 at k qh
    have k' := OutK_m (X2 := mcal mT (d + 7) 37 [.ref x, .ref 101, .int (Int32.ofNat 0)] (G, I2, L)) k (fun v Ix hv hX => by
      rw [q_X4_readNumbers_, e_X4_readNumbers_0, if_pos (by decide), e_X4_readNumbers_60]
      have mv : ∀ Z : Option mO, mbool v Z = Z := fun Z => by
        rcases hv with rfl | rfl
        · exact mb0
        · exact mb1
      simp only [↓vH lH, ↓mcI_of hX, mv])
    have t := kc_tail d r lX lM k'
    have ecl : mcal mT (d + 8) 35 [.ref x, .ref 101] (G, I, L) = mcI (mcal mT (d + 7) 37 [.ref x, .ref 101, .int (Int32.ofNat 0)] (G, I2, L)) (fun v10 h9 => (if v10 = 0 then f_X4_readClause (d + 7) 72 [mU, mU, mU] [] h9 else gk h9.1 101 11 (mcI (mcal mT (d + 7) 92 [.ref 101, .int 59] h9) (fun v12 h11 => (if v12 = 0 then f_X4_readClause (d + 7) 72 [mU, mU, mU] [] h11 else f_X4_readClause (d + 7) 73 [mU, mU, mU] [.int 1] h11)) mthr))) mthr := by
      rw [ec, if_neg tm, if_pos rfl, e_X4_readClause_40]
      simp only [↓vH lH, i0, i_one, up2_e]
      rw [show va_up I1 x (va_up (I1 x) 0 (Int32.ofNat (c + 1))) = I2 from hI2]
    have erl : mcal mT (r + 6) 196 [.ref 219] (G2, J, K) = gk G2 219 13 (mcI (mcal mT (r + 5) 187 [.ref 219, .int 1, .int 99] (G2, J3, K)) (fun v46 h45 => gk h45.1 219 13 (mcI (mcal mT (r + 5) 187 [.ref 219, .int 0, .int 400] h45) (fun v48 h47 => gk h47.1 219 13 (gr h47.1 219 2 (fun b49 => gk h47.1 219 13 (gr h47.1 219 2 (fun b50 => gx h47.1 b50 20 163 (fun j51 => gx h47.1 b49 20 (0 + (h47.2.1 b50 j51)) (fun j52 => gk h47.1 219 13 (gr h47.1 219 2 (fun b53 => gk h47.1 219 13 (gr h47.1 219 2 (fun b54 => gx h47.1 b54 20 163 (fun j55 => gx h47.1 b53 20 (8 + ((up2 h47.2.1 b49 j52 v46) b54 j55)) (fun j56 => gk h47.1 219 13 (gr h47.1 219 2 (fun b57 => gx h47.1 b57 20 163 (fun j58 => gx h47.1 b57 20 163 (fun j59 => f_X12_readClause (r + 5) 528 [.ref 219, mU, mU, mU, mU, mU, mU] [] (h47.1, (up2 (up2 (up2 h47.2.1 b49 j52 v46) b53 j56 (10 * v48)) b57 j59 (((up2 (up2 h47.2.1 b49 j52 v46) b53 j56 (10 * v48)) b57 j58) + 1)), h47.2.2)))))))))))))))))) mthr)) mthr) := by
      rw [f225, e_X12_readClause_225]
      simp (disch := omega) only [↓vM lM, ↓mcI_of fi, if_neg z1, e_X12_readClause_233, ↓mcV_of pa, k165, i_one, show ∀ (F : Nat → Nat → Int32) v w, up2 F (219 + 2) v w = va_up F 221 (va_up (F 221) v w) from fun _ _ _ => rfl, ↓mcL_of (o_room (r + 4)), if_pos P, hJ3]
    rw [ecl, erl]
    rcases t with ⟨I4, J4, a4', m1, m2, y1, y2, y3, y4, y5, y6⟩ | ⟨I4, J4, k4, p4, y1, y2, y3, y4, y5, y6, y7, y8, y9⟩
    · exact Or.inl ⟨I4, J4, a4', m1, m2, y1, y2, y3, HcF_t (by rw [← hI2]; exact HcF_u (HcF_x c2) q4 (by decide)) y4, HjF_t (by rw [← hJ3]; exact HjF_u (HjF_x o3)) y5, by omega⟩
    · exact Or.inr ⟨I4, J4, k4, p4, y1, y2, y3, y4, y5, y6, y7, HcF_t (by rw [← hI2]; exact HcF_u (HcF_x c2) q4 (by decide)) y8, HjF_t (by rw [← hJ3]; exact HjF_u (HjF_x o3)) y9⟩
theorem kd_wall (d r : Nat) (lX : LayX G 101) (lH : LayH G x) (lM : LayM G2 219) (q : PrH B e a x nr n c I J) (hw : isw wd_wall B (skb B e a) (wde B e a)) : OutL B e a x I J G G2 L K (mcal mT (d + 8) 35 [.ref x, .ref 101] (G, I, L)) (mcal mT (r + 6) 196 [.ref 219] (G2, J, K)) (c + 1) := by
  have z1 : ¬ (1 : Int32) = 0 := by decide
  obtain ⟨q1, q2, q3, q4, q5⟩ := id q
  obtain ⟨⟨a1, a2, a3, a4, a5, a6, a7, a8, a9⟩, -⟩ := id q3
  have ae := q1.2.2.1
  have e5 := q1.2.2.2.1
  have bb := skb_b (B := B) (e := e) (a := a) ae
  have wb := wde_b (B := B) (e := e) (a := a) ae
  have lw : (wd_wall).length = wde B e a - skb B e a := hw.1
  have lw2 : 3 ≤ (wd_wall).length := by decide
  have N : ∀ w : List Nat, lets w → ¬ (wd_wall.length = w.length ∧ ∀ k, k < wd_wall.length → wd_wall.getD k 0 = w.getD k 0) → ¬ lg_cmp (Int64.ofNat (whs B (skb B e a) (wde B e a))) (Int64.ofNat (wsm w)) = 0 := fun w l h z => by
    have h' := (wd_cmp (B := B) (e := e) (a := a) l ae).mp z
    exact h ⟨hw.1.trans h'.1.symm, fun k hk => (hw.2 k hk).trans (h'.2 k (by rw [h'.1, ← hw.1]; exact hk)).symm⟩
  have P : lg_cmp (Int64.ofNat (whs B (skb B e a) (wde B e a))) (Int64.ofNat (wsm wd_wall)) = 0 := (wd_cmp (B := B) (e := e) (a := a) lt_wall ae).mpr hw
  -- the class's word
  obtain ⟨I1, c1, c2, c3, c4, c5⟩ := tw_28 (d + 5) (L := L) lX q1
  have NC : ∀ w : List Nat, ¬ (wd_wall.length = w.length ∧ ∀ k, k < wd_wall.length → wd_wall.getD k 0 = w.getD k 0) → ¬ isw w B (skb B e a) (wde B e a) := fun w h h' => h ⟨hw.1.trans h'.1.symm, fun k hk => (hw.2 k hk).trans (h'.2 k (by rw [h'.1, ← hw.1]; exact hk)).symm⟩
  rw [if_neg (NC wd_room (by decide)), if_pos hw] at c1
  have i0 : I1 x 0 = Int32.ofNat c := by rw [c2.1 x (by omega)]; exact a1
  have i1 : I1 x 1 = Int32.ofNat nr := by rw [c2.1 x (by omega)]; exact a4
  have i10 : I1 x 10 = Int32.ofNat n := by rw [c2.1 x (by omega)]; exact a7
  have ma := c_many (d + 6) 1 (G := G) (I := I1) (L := L) lH i0 a3 i1 a6 i10 a9 (by decide)
  have ec : mcal mT (d + 8) 35 [.ref x, .ref 101] (G, I, L) = (if (if c = 40 ∨ (1 = 0 ∧ nr = 8) ∨ (1 = 5 ∧ n = 8) then (1 : Int32) else 0) = 0 then f_X4_readClause (d + 7) 40 [.ref x, .ref 101, .int (Int32.ofNat 1)] [] (G, I1, L) else (mcI (mcal mT (d + 7) 87 [.ref 101, .int 3, .int (Int32.ofNat (skb B e a))] (G, I1, L)) (fun v8 h7 => mbool v8 (some (.inl (some (.int v8)), h7))) mthr)) := by
    rw [q_X4_readClause_, e_X4_readClause_0]
    simp only [↓vX lX, ↓mcI_of c1, if_neg (show ¬ Int32.ofNat 1 = -1 by decide), e_X4_readClause_22, ↓vH lH, ↓mcI_of ma, c4]
  -- the reference's word
  obtain ⟨J1, g1, g2, g3, g4⟩ := rk_word (r + 3) (K := K) lM q2
  have j5 : J1 219 5 = Int32.ofNat (skb B e a) := g3.2.1
  have j221 : J1 221 = J 221 := g2.1 221 (by decide)
  have fi := r_fine (r + 4) (K := K) lM g3.2.2.2.2.1
  have er : mcal mT (r + 6) 196 [.ref 219] (G2, J, K) = f_X12_readClause (r + 5) 157 [.ref 219, .long (Int64.ofNat (whs B (skb B e a) (wde B e a))), mU, .int 0, mU, mU, mU] [] (G2, J1, K) := by
    rw [q_X12_readClause_, e_X12_readClause_0]
    simp only [↓vM lM, ↓mcL_of g1, ↓mcL_of (o_snap (r + 4)), if_neg (N wd_snap lt_snap (by decide)), e_X12_readClause_19, ↓mcL_of (o_slow (r + 4)), if_neg (N wd_slow lt_slow (by decide)), e_X12_readClause_33, ↓mcL_of (o_draught (r + 4)), if_neg (N wd_draught lt_draught (by decide)), e_X12_readClause_47, e_X12_readClause_48, if_neg (show ¬ (0 : Int32) < 0 by decide), ↓mcL_of (o_room (r + 4)), if_neg (N wd_room lt_room (by decide)), ↓mcL_of (o_wall (r + 4)), if_pos P, e_X12_readClause_133, e_X12_readClause_138, if_neg z1]
  have j165 : J1 221 165 = Int32.ofNat c := by rw [j221]; exact a2
  have j163 : J1 221 163 = Int32.ofNat nr := by rw [j221]; exact a5
  have j164 : J1 221 164 = Int32.ofNat n := by rw [j221]; exact a8
  by_cases tm : c = 40 ∨ (1 = 0 ∧ nr = 8) ∨ (1 = 5 ∧ n = 8)
  · -- one too many
    obtain ⟨I2, d1, d2, d3, d4⟩ := tk_fail (d + 6) (I := I1) (L := L) 3 (Int32.ofNat (skb B e a)) lX
    have w := r_wrong (r + 4) (K := K) 3 (Int32.ofNat (skb B e a)) lM g3.2.2.2.2.1
    have o3 := RdO_u (k := 6) (v := Int32.ofNat (skb B e a)) g2 (by omega)
    have o4 := RdO_u (k := 7) (v := 3) o3 (by omega)
    rw [up_eq, up_up] at o4
    have nf := r_fineN (r + 4) (G := G2) (J := va_up J1 219 (va_up (va_up (J1 219) 6 (Int32.ofNat (skb B e a))) 7 3)) (K := K) lM (by rw [up_eq, up_ne (by decide), up_eq]; exact nm1 (by omega))
    have f216 : f_X12_readClause (r + 5) 216 [.ref 219, .long (Int64.ofNat (whs B (skb B e a) (wde B e a))), mU, .int 0, mU, mU, mU] [] (G2, J1, K) = some (.inl none, (G2, va_up J1 219 (va_up (va_up (J1 219) 6 (Int32.ofNat (skb B e a))) 7 3), K)) := by
      rw [e_X12_readClause_216]
      simp only [↓vM lM, j5, ↓mcV_of w, e_X12_readClause_225, ↓mcI_of nf, if_true]
    refine Or.inr ⟨I2, _, 3, skb B e a, ?_, ?_, d3, d4, by rw [up_eq, up_ne (by decide), up_eq], by rw [up_eq, up_eq], by omega, HcF_x (TxO_t c2 d2), HjF_x o4⟩
    · rw [ec, if_pos tm, if_neg z1]
      simp only [↓mcI_of d1, mb0]
    · rw [er, ← f216, e_X12_readClause_157]
      have c40 : c = 40 := by omega
      simp (disch := omega) only [↓vM lM, j165, c40, if_pos (show Int32.ofNat 40 = 40 from rfl)]
  · have cm : c < 40 := by omega
    have f225 : mcal mT (r + 6) 196 [.ref 219] (G2, J, K) = f_X12_readClause (r + 5) 225 [.ref 219, .long (Int64.ofNat (whs B (skb B e a) (wde B e a))), mU, .int 0, mU, mU, mU] [] (G2, J1, K) := by
      have n40 : ¬ Int32.ofNat c = 40 := fun z => by have := (i_eq (b := 40) (by omega) (by decide)).mp z; omega
      rw [er, e_X12_readClause_157]
      simp (disch := omega) only [↓vM lM, j165, if_neg n40, ↓mcL_of (o_room (r + 4)), if_neg (N wd_room lt_room (by decide)), e_X12_readClause_193, ↓mcL_of (o_radiator (r + 4)), if_neg (N wd_radiator lt_radiator (by decide))]
    -- the word passed, the clause counted
    have pa := rk_pass (r + 3) (K := K) lM _ _ J1 rfl g3
    have wq : skr (isL B) e (skb B e a) = wde B e a := rfl
    rw [wq] at pa
    have o3 := RdO_u (k := 5) (v := Int32.ofNat (wde B e a)) g2 (by omega)
    have r3 := RdR_o q2 o3 (a' := wde B e a) (by rw [up_eq, up_eq]) wb.2 (by rw [up_eq, up_ne (by decide)]; exact g3.2.2.2.2.1)
    generalize hJ2 : va_up J1 219 (va_up (J1 219) 5 (Int32.ofNat (wde B e a))) = J2 at pa o3 r3
    have k221 : J2 221 = J 221 := o3.1 221 (by decide)
    have k165 : J2 221 165 = Int32.ofNat c := by rw [k221]; exact a2
    have qh : PrH B e (wde B e a) x nr n (c + 1) (va_up I1 (x + 0) (va_up (I1 x) 0 (Int32.ofNat (c + 1)))) (va_up J2 221 (va_up (J2 221) 165 (Int32.ofNat (c + 1)))) := by
      refine ⟨TxR_u c3 q4, RdR_u r3, ?_, q4, by rw [up_ne (by omega), c5 7 (by decide)]; exact q5⟩
      rw [hrw_u, up_eq, hrw_o c2 q4, k221, show I1 x = I x from c2.1 x (by omega)]
      exact Hr_clause q3 cm
    have k := kr_wall d r (L := L) (K := K) lX lH lM qh
    generalize hI2 : va_up I1 (x + 0) (va_up (I1 x) 0 (Int32.ofNat (c + 1))) = I2 at k qh
    generalize hJ3 : va_up J2 221 (va_up (J2 221) 165 (Int32.ofNat (c + 1))) = J3 at k qh
    have k' := OutK_m (X2 := mcal mT (d + 7) 37 [.ref x, .ref 101, .int (Int32.ofNat 1)] (G, I2, L)) k (fun v Ix hv hX => by
      rw [q_X4_readNumbers_, e_X4_readNumbers_0, if_neg (by decide), if_pos (by decide), e_X4_readNumbers_66]
      have mv : ∀ Z : Option mO, mbool v Z = Z := fun Z => by
        rcases hv with rfl | rfl
        · exact mb0
        · exact mb1
      simp only [↓vH lH, ↓mcI_of hX, mv])
    have t := kc_tail d r lX lM k'
    have ecl : mcal mT (d + 8) 35 [.ref x, .ref 101] (G, I, L) = mcI (mcal mT (d + 7) 37 [.ref x, .ref 101, .int (Int32.ofNat 1)] (G, I2, L)) (fun v10 h9 => (if v10 = 0 then f_X4_readClause (d + 7) 72 [mU, mU, mU] [] h9 else gk h9.1 101 11 (mcI (mcal mT (d + 7) 92 [.ref 101, .int 59] h9) (fun v12 h11 => (if v12 = 0 then f_X4_readClause (d + 7) 72 [mU, mU, mU] [] h11 else f_X4_readClause (d + 7) 73 [mU, mU, mU] [.int 1] h11)) mthr))) mthr := by
      rw [ec, if_neg tm, if_pos rfl, e_X4_readClause_40]
      simp only [↓vH lH, i0, i_one, up2_e]
      rw [show va_up I1 x (va_up (I1 x) 0 (Int32.ofNat (c + 1))) = I2 from hI2]
    have erl : mcal mT (r + 6) 196 [.ref 219] (G2, J, K) = gk G2 219 13 (mcV (mcal mT (r + 5) 192 [.ref 219] (G2, J3, K)) (fun h62 => f_X12_readClause (r + 5) 528 [.ref 219, mU, mU, mU, mU, mU, mU] [] h62) mthr) := by
      rw [f225, e_X12_readClause_225]
      simp (disch := omega) only [↓vM lM, ↓mcI_of fi, if_neg z1, e_X12_readClause_233, ↓mcV_of pa, k165, i_one, show ∀ (F : Nat → Nat → Int32) v w, up2 F (219 + 2) v w = va_up F 221 (va_up (F 221) v w) from fun _ _ _ => rfl, ↓mcL_of (o_room (r + 4)), if_neg (N wd_room lt_room (by decide)), e_X12_readClause_331, ↓mcL_of (o_wall (r + 4)), if_pos P, hJ3]
    rw [ecl, erl]
    rcases t with ⟨I4, J4, a4', m1, m2, y1, y2, y3, y4, y5, y6⟩ | ⟨I4, J4, k4, p4, y1, y2, y3, y4, y5, y6, y7, y8, y9⟩
    · exact Or.inl ⟨I4, J4, a4', m1, m2, y1, y2, y3, HcF_t (by rw [← hI2]; exact HcF_u (HcF_x c2) q4 (by decide)) y4, HjF_t (by rw [← hJ3]; exact HjF_u (HjF_x o3)) y5, by omega⟩
    · exact Or.inr ⟨I4, J4, k4, p4, y1, y2, y3, y4, y5, y6, y7, HcF_t (by rw [← hI2]; exact HcF_u (HcF_x c2) q4 (by decide)) y8, HjF_t (by rw [← hJ3]; exact HjF_u (HjF_x o3)) y9⟩
theorem kd_outer (d r : Nat) (lX : LayX G 101) (lH : LayH G x) (lM : LayM G2 219) (q : PrH B e a x nr n c I J) (hw : isw wd_outer B (skb B e a) (wde B e a)) : OutL B e a x I J G G2 L K (mcal mT (d + 8) 35 [.ref x, .ref 101] (G, I, L)) (mcal mT (r + 6) 196 [.ref 219] (G2, J, K)) (c + 1) := by
  have z1 : ¬ (1 : Int32) = 0 := by decide
  obtain ⟨q1, q2, q3, q4, q5⟩ := id q
  obtain ⟨⟨a1, a2, a3, a4, a5, a6, a7, a8, a9⟩, -⟩ := id q3
  have ae := q1.2.2.1
  have e5 := q1.2.2.2.1
  have bb := skb_b (B := B) (e := e) (a := a) ae
  have wb := wde_b (B := B) (e := e) (a := a) ae
  have lw : (wd_outer).length = wde B e a - skb B e a := hw.1
  have lw2 : 3 ≤ (wd_outer).length := by decide
  have N : ∀ w : List Nat, lets w → ¬ (wd_outer.length = w.length ∧ ∀ k, k < wd_outer.length → wd_outer.getD k 0 = w.getD k 0) → ¬ lg_cmp (Int64.ofNat (whs B (skb B e a) (wde B e a))) (Int64.ofNat (wsm w)) = 0 := fun w l h z => by
    have h' := (wd_cmp (B := B) (e := e) (a := a) l ae).mp z
    exact h ⟨hw.1.trans h'.1.symm, fun k hk => (hw.2 k hk).trans (h'.2 k (by rw [h'.1, ← hw.1]; exact hk)).symm⟩
  have P : lg_cmp (Int64.ofNat (whs B (skb B e a) (wde B e a))) (Int64.ofNat (wsm wd_outer)) = 0 := (wd_cmp (B := B) (e := e) (a := a) lt_outer ae).mpr hw
  -- the class's word
  obtain ⟨I1, c1, c2, c3, c4, c5⟩ := tw_28 (d + 5) (L := L) lX q1
  have NC : ∀ w : List Nat, ¬ (wd_outer.length = w.length ∧ ∀ k, k < wd_outer.length → wd_outer.getD k 0 = w.getD k 0) → ¬ isw w B (skb B e a) (wde B e a) := fun w h h' => h ⟨hw.1.trans h'.1.symm, fun k hk => (hw.2 k hk).trans (h'.2 k (by rw [h'.1, ← hw.1]; exact hk)).symm⟩
  rw [if_neg (NC wd_room (by decide)), if_neg (NC wd_wall (by decide)), if_pos hw] at c1
  have i0 : I1 x 0 = Int32.ofNat c := by rw [c2.1 x (by omega)]; exact a1
  have i1 : I1 x 1 = Int32.ofNat nr := by rw [c2.1 x (by omega)]; exact a4
  have i10 : I1 x 10 = Int32.ofNat n := by rw [c2.1 x (by omega)]; exact a7
  have ma := c_many (d + 6) 2 (G := G) (I := I1) (L := L) lH i0 a3 i1 a6 i10 a9 (by decide)
  have ec : mcal mT (d + 8) 35 [.ref x, .ref 101] (G, I, L) = (if (if c = 40 ∨ (2 = 0 ∧ nr = 8) ∨ (2 = 5 ∧ n = 8) then (1 : Int32) else 0) = 0 then f_X4_readClause (d + 7) 40 [.ref x, .ref 101, .int (Int32.ofNat 2)] [] (G, I1, L) else (mcI (mcal mT (d + 7) 87 [.ref 101, .int 3, .int (Int32.ofNat (skb B e a))] (G, I1, L)) (fun v8 h7 => mbool v8 (some (.inl (some (.int v8)), h7))) mthr)) := by
    rw [q_X4_readClause_, e_X4_readClause_0]
    simp only [↓vX lX, ↓mcI_of c1, if_neg (show ¬ Int32.ofNat 2 = -1 by decide), e_X4_readClause_22, ↓vH lH, ↓mcI_of ma, c4]
  -- the reference's word
  obtain ⟨J1, g1, g2, g3, g4⟩ := rk_word (r + 3) (K := K) lM q2
  have j5 : J1 219 5 = Int32.ofNat (skb B e a) := g3.2.1
  have j221 : J1 221 = J 221 := g2.1 221 (by decide)
  have fi := r_fine (r + 4) (K := K) lM g3.2.2.2.2.1
  have er : mcal mT (r + 6) 196 [.ref 219] (G2, J, K) = f_X12_readClause (r + 5) 157 [.ref 219, .long (Int64.ofNat (whs B (skb B e a) (wde B e a))), mU, .int 0, mU, mU, mU] [] (G2, J1, K) := by
    rw [q_X12_readClause_, e_X12_readClause_0]
    simp only [↓vM lM, ↓mcL_of g1, ↓mcL_of (o_snap (r + 4)), if_neg (N wd_snap lt_snap (by decide)), e_X12_readClause_19, ↓mcL_of (o_slow (r + 4)), if_neg (N wd_slow lt_slow (by decide)), e_X12_readClause_33, ↓mcL_of (o_draught (r + 4)), if_neg (N wd_draught lt_draught (by decide)), e_X12_readClause_47, e_X12_readClause_48, if_neg (show ¬ (0 : Int32) < 0 by decide), ↓mcL_of (o_room (r + 4)), if_neg (N wd_room lt_room (by decide)), ↓mcL_of (o_wall (r + 4)), if_neg (N wd_wall lt_wall (by decide)), ↓mcL_of (o_outer (r + 4)), if_pos P, e_X12_readClause_133, e_X12_readClause_138, if_neg z1]
  have j165 : J1 221 165 = Int32.ofNat c := by rw [j221]; exact a2
  have j163 : J1 221 163 = Int32.ofNat nr := by rw [j221]; exact a5
  have j164 : J1 221 164 = Int32.ofNat n := by rw [j221]; exact a8
  by_cases tm : c = 40 ∨ (2 = 0 ∧ nr = 8) ∨ (2 = 5 ∧ n = 8)
  · -- one too many
    obtain ⟨I2, d1, d2, d3, d4⟩ := tk_fail (d + 6) (I := I1) (L := L) 3 (Int32.ofNat (skb B e a)) lX
    have w := r_wrong (r + 4) (K := K) 3 (Int32.ofNat (skb B e a)) lM g3.2.2.2.2.1
    have o3 := RdO_u (k := 6) (v := Int32.ofNat (skb B e a)) g2 (by omega)
    have o4 := RdO_u (k := 7) (v := 3) o3 (by omega)
    rw [up_eq, up_up] at o4
    have nf := r_fineN (r + 4) (G := G2) (J := va_up J1 219 (va_up (va_up (J1 219) 6 (Int32.ofNat (skb B e a))) 7 3)) (K := K) lM (by rw [up_eq, up_ne (by decide), up_eq]; exact nm1 (by omega))
    have f216 : f_X12_readClause (r + 5) 216 [.ref 219, .long (Int64.ofNat (whs B (skb B e a) (wde B e a))), mU, .int 0, mU, mU, mU] [] (G2, J1, K) = some (.inl none, (G2, va_up J1 219 (va_up (va_up (J1 219) 6 (Int32.ofNat (skb B e a))) 7 3), K)) := by
      rw [e_X12_readClause_216]
      simp only [↓vM lM, j5, ↓mcV_of w, e_X12_readClause_225, ↓mcI_of nf, if_true]
    refine Or.inr ⟨I2, _, 3, skb B e a, ?_, ?_, d3, d4, by rw [up_eq, up_ne (by decide), up_eq], by rw [up_eq, up_eq], by omega, HcF_x (TxO_t c2 d2), HjF_x o4⟩
    · rw [ec, if_pos tm, if_neg z1]
      simp only [↓mcI_of d1, mb0]
    · rw [er, ← f216, e_X12_readClause_157]
      have c40 : c = 40 := by omega
      simp (disch := omega) only [↓vM lM, j165, c40, if_pos (show Int32.ofNat 40 = 40 from rfl)]
  · have cm : c < 40 := by omega
    have f225 : mcal mT (r + 6) 196 [.ref 219] (G2, J, K) = f_X12_readClause (r + 5) 225 [.ref 219, .long (Int64.ofNat (whs B (skb B e a) (wde B e a))), mU, .int 0, mU, mU, mU] [] (G2, J1, K) := by
      have n40 : ¬ Int32.ofNat c = 40 := fun z => by have := (i_eq (b := 40) (by omega) (by decide)).mp z; omega
      rw [er, e_X12_readClause_157]
      simp (disch := omega) only [↓vM lM, j165, if_neg n40, ↓mcL_of (o_room (r + 4)), if_neg (N wd_room lt_room (by decide)), e_X12_readClause_193, ↓mcL_of (o_radiator (r + 4)), if_neg (N wd_radiator lt_radiator (by decide))]
    -- the word passed, the clause counted
    have pa := rk_pass (r + 3) (K := K) lM _ _ J1 rfl g3
    have wq : skr (isL B) e (skb B e a) = wde B e a := rfl
    rw [wq] at pa
    have o3 := RdO_u (k := 5) (v := Int32.ofNat (wde B e a)) g2 (by omega)
    have r3 := RdR_o q2 o3 (a' := wde B e a) (by rw [up_eq, up_eq]) wb.2 (by rw [up_eq, up_ne (by decide)]; exact g3.2.2.2.2.1)
    generalize hJ2 : va_up J1 219 (va_up (J1 219) 5 (Int32.ofNat (wde B e a))) = J2 at pa o3 r3
    have k221 : J2 221 = J 221 := o3.1 221 (by decide)
    have k165 : J2 221 165 = Int32.ofNat c := by rw [k221]; exact a2
    have qh : PrH B e (wde B e a) x nr n (c + 1) (va_up I1 (x + 0) (va_up (I1 x) 0 (Int32.ofNat (c + 1)))) (va_up J2 221 (va_up (J2 221) 165 (Int32.ofNat (c + 1)))) := by
      refine ⟨TxR_u c3 q4, RdR_u r3, ?_, q4, by rw [up_ne (by omega), c5 7 (by decide)]; exact q5⟩
      rw [hrw_u, up_eq, hrw_o c2 q4, k221, show I1 x = I x from c2.1 x (by omega)]
      exact Hr_clause q3 cm
    have k := kr_outer d r (L := L) (K := K) lX lH lM qh
    generalize hI2 : va_up I1 (x + 0) (va_up (I1 x) 0 (Int32.ofNat (c + 1))) = I2 at k qh
    generalize hJ3 : va_up J2 221 (va_up (J2 221) 165 (Int32.ofNat (c + 1))) = J3 at k qh
    have k' := OutK_m (X2 := mcal mT (d + 7) 37 [.ref x, .ref 101, .int (Int32.ofNat 2)] (G, I2, L)) k (fun v Ix hv hX => by
      rw [q_X4_readNumbers_, e_X4_readNumbers_0, if_neg (by decide), if_neg (by decide), if_pos (by decide), e_X4_readNumbers_72]
      have mv : ∀ Z : Option mO, mbool v Z = Z := fun Z => by
        rcases hv with rfl | rfl
        · exact mb0
        · exact mb1
      simp only [↓vH lH, ↓mcI_of hX, mv])
    have t := kc_tail d r lX lM k'
    have ecl : mcal mT (d + 8) 35 [.ref x, .ref 101] (G, I, L) = mcI (mcal mT (d + 7) 37 [.ref x, .ref 101, .int (Int32.ofNat 2)] (G, I2, L)) (fun v10 h9 => (if v10 = 0 then f_X4_readClause (d + 7) 72 [mU, mU, mU] [] h9 else gk h9.1 101 11 (mcI (mcal mT (d + 7) 92 [.ref 101, .int 59] h9) (fun v12 h11 => (if v12 = 0 then f_X4_readClause (d + 7) 72 [mU, mU, mU] [] h11 else f_X4_readClause (d + 7) 73 [mU, mU, mU] [.int 1] h11)) mthr))) mthr := by
      rw [ec, if_neg tm, if_pos rfl, e_X4_readClause_40]
      simp only [↓vH lH, i0, i_one, up2_e]
      rw [show va_up I1 x (va_up (I1 x) 0 (Int32.ofNat (c + 1))) = I2 from hI2]
    have erl : mcal mT (r + 6) 196 [.ref 219] (G2, J, K) = gk G2 219 13 (mcI (mcal mT (r + 5) 191 [.ref 219] (G2, J3, K)) (fun v66 h65 => gk h65.1 219 13 (gr h65.1 219 2 (fun b67 => gk h65.1 219 13 (mcI (mcal mT (r + 5) 187 [.ref 219, .int 0, .int 99] h65) (fun v69 h68 => gx h68.1 b67 20 (16 + v66) (fun j70 => f_X12_readClause (r + 5) 528 [.ref 219, mU, mU, mU, mU, mU, mU] [] (h68.1, (up2 h68.2.1 b67 j70 v69), h68.2.2))) mthr)))) mthr) := by
      rw [f225, e_X12_readClause_225]
      simp (disch := omega) only [↓vM lM, ↓mcI_of fi, if_neg z1, e_X12_readClause_233, ↓mcV_of pa, k165, i_one, show ∀ (F : Nat → Nat → Int32) v w, up2 F (219 + 2) v w = va_up F 221 (va_up (F 221) v w) from fun _ _ _ => rfl, ↓mcL_of (o_room (r + 4)), if_neg (N wd_room lt_room (by decide)), e_X12_readClause_331, ↓mcL_of (o_wall (r + 4)), if_neg (N wd_wall lt_wall (by decide)), e_X12_readClause_348, ↓mcL_of (o_outer (r + 4)), if_pos P, hJ3]
    rw [ecl, erl]
    rcases t with ⟨I4, J4, a4', m1, m2, y1, y2, y3, y4, y5, y6⟩ | ⟨I4, J4, k4, p4, y1, y2, y3, y4, y5, y6, y7, y8, y9⟩
    · exact Or.inl ⟨I4, J4, a4', m1, m2, y1, y2, y3, HcF_t (by rw [← hI2]; exact HcF_u (HcF_x c2) q4 (by decide)) y4, HjF_t (by rw [← hJ3]; exact HjF_u (HjF_x o3)) y5, by omega⟩
    · exact Or.inr ⟨I4, J4, k4, p4, y1, y2, y3, y4, y5, y6, y7, HcF_t (by rw [← hI2]; exact HcF_u (HcF_x c2) q4 (by decide)) y8, HjF_t (by rw [← hJ3]; exact HjF_u (HjF_x o3)) y9⟩
theorem kd_window (d r : Nat) (lX : LayX G 101) (lH : LayH G x) (lM : LayM G2 219) (q : PrH B e a x nr n c I J) (hw : isw wd_window B (skb B e a) (wde B e a)) : OutL B e a x I J G G2 L K (mcal mT (d + 8) 35 [.ref x, .ref 101] (G, I, L)) (mcal mT (r + 6) 196 [.ref 219] (G2, J, K)) (c + 1) := by
  have z1 : ¬ (1 : Int32) = 0 := by decide
  obtain ⟨q1, q2, q3, q4, q5⟩ := id q
  obtain ⟨⟨a1, a2, a3, a4, a5, a6, a7, a8, a9⟩, -⟩ := id q3
  have ae := q1.2.2.1
  have e5 := q1.2.2.2.1
  have bb := skb_b (B := B) (e := e) (a := a) ae
  have wb := wde_b (B := B) (e := e) (a := a) ae
  have lw : (wd_window).length = wde B e a - skb B e a := hw.1
  have lw2 : 3 ≤ (wd_window).length := by decide
  have N : ∀ w : List Nat, lets w → ¬ (wd_window.length = w.length ∧ ∀ k, k < wd_window.length → wd_window.getD k 0 = w.getD k 0) → ¬ lg_cmp (Int64.ofNat (whs B (skb B e a) (wde B e a))) (Int64.ofNat (wsm w)) = 0 := fun w l h z => by
    have h' := (wd_cmp (B := B) (e := e) (a := a) l ae).mp z
    exact h ⟨hw.1.trans h'.1.symm, fun k hk => (hw.2 k hk).trans (h'.2 k (by rw [h'.1, ← hw.1]; exact hk)).symm⟩
  have P : lg_cmp (Int64.ofNat (whs B (skb B e a) (wde B e a))) (Int64.ofNat (wsm wd_window)) = 0 := (wd_cmp (B := B) (e := e) (a := a) lt_window ae).mpr hw
  -- the class's word
  obtain ⟨I1, c1, c2, c3, c4, c5⟩ := tw_28 (d + 5) (L := L) lX q1
  have NC : ∀ w : List Nat, ¬ (wd_window.length = w.length ∧ ∀ k, k < wd_window.length → wd_window.getD k 0 = w.getD k 0) → ¬ isw w B (skb B e a) (wde B e a) := fun w h h' => h ⟨hw.1.trans h'.1.symm, fun k hk => (hw.2 k hk).trans (h'.2 k (by rw [h'.1, ← hw.1]; exact hk)).symm⟩
  rw [if_neg (NC wd_room (by decide)), if_neg (NC wd_wall (by decide)), if_neg (NC wd_outer (by decide)), if_pos hw] at c1
  have i0 : I1 x 0 = Int32.ofNat c := by rw [c2.1 x (by omega)]; exact a1
  have i1 : I1 x 1 = Int32.ofNat nr := by rw [c2.1 x (by omega)]; exact a4
  have i10 : I1 x 10 = Int32.ofNat n := by rw [c2.1 x (by omega)]; exact a7
  have ma := c_many (d + 6) 3 (G := G) (I := I1) (L := L) lH i0 a3 i1 a6 i10 a9 (by decide)
  have ec : mcal mT (d + 8) 35 [.ref x, .ref 101] (G, I, L) = (if (if c = 40 ∨ (3 = 0 ∧ nr = 8) ∨ (3 = 5 ∧ n = 8) then (1 : Int32) else 0) = 0 then f_X4_readClause (d + 7) 40 [.ref x, .ref 101, .int (Int32.ofNat 3)] [] (G, I1, L) else (mcI (mcal mT (d + 7) 87 [.ref 101, .int 3, .int (Int32.ofNat (skb B e a))] (G, I1, L)) (fun v8 h7 => mbool v8 (some (.inl (some (.int v8)), h7))) mthr)) := by
    rw [q_X4_readClause_, e_X4_readClause_0]
    simp only [↓vX lX, ↓mcI_of c1, if_neg (show ¬ Int32.ofNat 3 = -1 by decide), e_X4_readClause_22, ↓vH lH, ↓mcI_of ma, c4]
  -- the reference's word
  obtain ⟨J1, g1, g2, g3, g4⟩ := rk_word (r + 3) (K := K) lM q2
  have j5 : J1 219 5 = Int32.ofNat (skb B e a) := g3.2.1
  have j221 : J1 221 = J 221 := g2.1 221 (by decide)
  have fi := r_fine (r + 4) (K := K) lM g3.2.2.2.2.1
  have er : mcal mT (r + 6) 196 [.ref 219] (G2, J, K) = f_X12_readClause (r + 5) 157 [.ref 219, .long (Int64.ofNat (whs B (skb B e a) (wde B e a))), mU, .int 0, mU, mU, mU] [] (G2, J1, K) := by
    rw [q_X12_readClause_, e_X12_readClause_0]
    simp only [↓vM lM, ↓mcL_of g1, ↓mcL_of (o_snap (r + 4)), if_neg (N wd_snap lt_snap (by decide)), e_X12_readClause_19, ↓mcL_of (o_slow (r + 4)), if_neg (N wd_slow lt_slow (by decide)), e_X12_readClause_33, ↓mcL_of (o_draught (r + 4)), if_neg (N wd_draught lt_draught (by decide)), e_X12_readClause_47, e_X12_readClause_48, if_neg (show ¬ (0 : Int32) < 0 by decide), ↓mcL_of (o_room (r + 4)), if_neg (N wd_room lt_room (by decide)), ↓mcL_of (o_wall (r + 4)), if_neg (N wd_wall lt_wall (by decide)), ↓mcL_of (o_outer (r + 4)), if_neg (N wd_outer lt_outer (by decide)), ↓mcL_of (o_window (r + 4)), if_pos P, e_X12_readClause_133, e_X12_readClause_138, if_neg z1]
  have j165 : J1 221 165 = Int32.ofNat c := by rw [j221]; exact a2
  have j163 : J1 221 163 = Int32.ofNat nr := by rw [j221]; exact a5
  have j164 : J1 221 164 = Int32.ofNat n := by rw [j221]; exact a8
  by_cases tm : c = 40 ∨ (3 = 0 ∧ nr = 8) ∨ (3 = 5 ∧ n = 8)
  · -- one too many
    obtain ⟨I2, d1, d2, d3, d4⟩ := tk_fail (d + 6) (I := I1) (L := L) 3 (Int32.ofNat (skb B e a)) lX
    have w := r_wrong (r + 4) (K := K) 3 (Int32.ofNat (skb B e a)) lM g3.2.2.2.2.1
    have o3 := RdO_u (k := 6) (v := Int32.ofNat (skb B e a)) g2 (by omega)
    have o4 := RdO_u (k := 7) (v := 3) o3 (by omega)
    rw [up_eq, up_up] at o4
    have nf := r_fineN (r + 4) (G := G2) (J := va_up J1 219 (va_up (va_up (J1 219) 6 (Int32.ofNat (skb B e a))) 7 3)) (K := K) lM (by rw [up_eq, up_ne (by decide), up_eq]; exact nm1 (by omega))
    have f216 : f_X12_readClause (r + 5) 216 [.ref 219, .long (Int64.ofNat (whs B (skb B e a) (wde B e a))), mU, .int 0, mU, mU, mU] [] (G2, J1, K) = some (.inl none, (G2, va_up J1 219 (va_up (va_up (J1 219) 6 (Int32.ofNat (skb B e a))) 7 3), K)) := by
      rw [e_X12_readClause_216]
      simp only [↓vM lM, j5, ↓mcV_of w, e_X12_readClause_225, ↓mcI_of nf, if_true]
    refine Or.inr ⟨I2, _, 3, skb B e a, ?_, ?_, d3, d4, by rw [up_eq, up_ne (by decide), up_eq], by rw [up_eq, up_eq], by omega, HcF_x (TxO_t c2 d2), HjF_x o4⟩
    · rw [ec, if_pos tm, if_neg z1]
      simp only [↓mcI_of d1, mb0]
    · rw [er, ← f216, e_X12_readClause_157]
      have c40 : c = 40 := by omega
      simp (disch := omega) only [↓vM lM, j165, c40, if_pos (show Int32.ofNat 40 = 40 from rfl)]
  · have cm : c < 40 := by omega
    have f225 : mcal mT (r + 6) 196 [.ref 219] (G2, J, K) = f_X12_readClause (r + 5) 225 [.ref 219, .long (Int64.ofNat (whs B (skb B e a) (wde B e a))), mU, .int 0, mU, mU, mU] [] (G2, J1, K) := by
      have n40 : ¬ Int32.ofNat c = 40 := fun z => by have := (i_eq (b := 40) (by omega) (by decide)).mp z; omega
      rw [er, e_X12_readClause_157]
      simp (disch := omega) only [↓vM lM, j165, if_neg n40, ↓mcL_of (o_room (r + 4)), if_neg (N wd_room lt_room (by decide)), e_X12_readClause_193, ↓mcL_of (o_radiator (r + 4)), if_neg (N wd_radiator lt_radiator (by decide))]
    -- the word passed, the clause counted
    have pa := rk_pass (r + 3) (K := K) lM _ _ J1 rfl g3
    have wq : skr (isL B) e (skb B e a) = wde B e a := rfl
    rw [wq] at pa
    have o3 := RdO_u (k := 5) (v := Int32.ofNat (wde B e a)) g2 (by omega)
    have r3 := RdR_o q2 o3 (a' := wde B e a) (by rw [up_eq, up_eq]) wb.2 (by rw [up_eq, up_ne (by decide)]; exact g3.2.2.2.2.1)
    generalize hJ2 : va_up J1 219 (va_up (J1 219) 5 (Int32.ofNat (wde B e a))) = J2 at pa o3 r3
    have k221 : J2 221 = J 221 := o3.1 221 (by decide)
    have k165 : J2 221 165 = Int32.ofNat c := by rw [k221]; exact a2
    have qh : PrH B e (wde B e a) x nr n (c + 1) (va_up I1 (x + 0) (va_up (I1 x) 0 (Int32.ofNat (c + 1)))) (va_up J2 221 (va_up (J2 221) 165 (Int32.ofNat (c + 1)))) := by
      refine ⟨TxR_u c3 q4, RdR_u r3, ?_, q4, by rw [up_ne (by omega), c5 7 (by decide)]; exact q5⟩
      rw [hrw_u, up_eq, hrw_o c2 q4, k221, show I1 x = I x from c2.1 x (by omega)]
      exact Hr_clause q3 cm
    have k := kr_window d r (L := L) (K := K) lX lH lM qh
    generalize hI2 : va_up I1 (x + 0) (va_up (I1 x) 0 (Int32.ofNat (c + 1))) = I2 at k qh
    generalize hJ3 : va_up J2 221 (va_up (J2 221) 165 (Int32.ofNat (c + 1))) = J3 at k qh
    have k' := OutK_m (X2 := mcal mT (d + 7) 37 [.ref x, .ref 101, .int (Int32.ofNat 3)] (G, I2, L)) k (fun v Ix hv hX => by
      rw [q_X4_readNumbers_, e_X4_readNumbers_0, if_neg (by decide), if_neg (by decide), if_neg (by decide), if_pos (by decide), e_X4_readNumbers_82]
      have mv : ∀ Z : Option mO, mbool v Z = Z := fun Z => by
        rcases hv with rfl | rfl
        · exact mb0
        · exact mb1
      simp only [↓vH lH, ↓mcI_of hX, mv])
    have t := kc_tail d r lX lM k'
    have ecl : mcal mT (d + 8) 35 [.ref x, .ref 101] (G, I, L) = mcI (mcal mT (d + 7) 37 [.ref x, .ref 101, .int (Int32.ofNat 3)] (G, I2, L)) (fun v10 h9 => (if v10 = 0 then f_X4_readClause (d + 7) 72 [mU, mU, mU] [] h9 else gk h9.1 101 11 (mcI (mcal mT (d + 7) 92 [.ref 101, .int 59] h9) (fun v12 h11 => (if v12 = 0 then f_X4_readClause (d + 7) 72 [mU, mU, mU] [] h11 else f_X4_readClause (d + 7) 73 [mU, mU, mU] [.int 1] h11)) mthr))) mthr := by
      rw [ec, if_neg tm, if_pos rfl, e_X4_readClause_40]
      simp only [↓vH lH, i0, i_one, up2_e]
      rw [show va_up I1 x (va_up (I1 x) 0 (Int32.ofNat (c + 1))) = I2 from hI2]
    have erl : mcal mT (r + 6) 196 [.ref 219] (G2, J, K) = gk G2 219 13 (mcI (mcal mT (r + 5) 191 [.ref 219] (G2, J3, K)) (fun v66 h65 => gk h65.1 219 13 (gr h65.1 219 2 (fun b67 => gk h65.1 219 13 (mcI (mcal mT (r + 5) 187 [.ref 219, .int 0, .int 99] h65) (fun v69 h68 => gx h68.1 b67 20 (24 + v66) (fun j70 => f_X12_readClause (r + 5) 528 [.ref 219, mU, mU, mU, mU, mU, mU] [] (h68.1, (up2 h68.2.1 b67 j70 v69), h68.2.2))) mthr)))) mthr) := by
      rw [f225, e_X12_readClause_225]
      simp (disch := omega) only [↓vM lM, ↓mcI_of fi, if_neg z1, e_X12_readClause_233, ↓mcV_of pa, k165, i_one, show ∀ (F : Nat → Nat → Int32) v w, up2 F (219 + 2) v w = va_up F 221 (va_up (F 221) v w) from fun _ _ _ => rfl, ↓mcL_of (o_room (r + 4)), if_neg (N wd_room lt_room (by decide)), e_X12_readClause_331, ↓mcL_of (o_wall (r + 4)), if_neg (N wd_wall lt_wall (by decide)), e_X12_readClause_348, ↓mcL_of (o_outer (r + 4)), if_neg (N wd_outer lt_outer (by decide)), e_X12_readClause_384, ↓mcL_of (o_window (r + 4)), if_pos P, hJ3]
    rw [ecl, erl]
    rcases t with ⟨I4, J4, a4', m1, m2, y1, y2, y3, y4, y5, y6⟩ | ⟨I4, J4, k4, p4, y1, y2, y3, y4, y5, y6, y7, y8, y9⟩
    · exact Or.inl ⟨I4, J4, a4', m1, m2, y1, y2, y3, HcF_t (by rw [← hI2]; exact HcF_u (HcF_x c2) q4 (by decide)) y4, HjF_t (by rw [← hJ3]; exact HjF_u (HjF_x o3)) y5, by omega⟩
    · exact Or.inr ⟨I4, J4, k4, p4, y1, y2, y3, y4, y5, y6, y7, HcF_t (by rw [← hI2]; exact HcF_u (HcF_x c2) q4 (by decide)) y8, HjF_t (by rw [← hJ3]; exact HjF_u (HjF_x o3)) y9⟩
theorem kd_sun (d r : Nat) (lX : LayX G 101) (lH : LayH G x) (lM : LayM G2 219) (q : PrH B e a x nr n c I J) (hw : isw wd_sun B (skb B e a) (wde B e a)) : OutL B e a x I J G G2 L K (mcal mT (d + 8) 35 [.ref x, .ref 101] (G, I, L)) (mcal mT (r + 6) 196 [.ref 219] (G2, J, K)) (c + 1) := by
  have z1 : ¬ (1 : Int32) = 0 := by decide
  obtain ⟨q1, q2, q3, q4, q5⟩ := id q
  obtain ⟨⟨a1, a2, a3, a4, a5, a6, a7, a8, a9⟩, -⟩ := id q3
  have ae := q1.2.2.1
  have e5 := q1.2.2.2.1
  have bb := skb_b (B := B) (e := e) (a := a) ae
  have wb := wde_b (B := B) (e := e) (a := a) ae
  have lw : (wd_sun).length = wde B e a - skb B e a := hw.1
  have lw2 : 3 ≤ (wd_sun).length := by decide
  have N : ∀ w : List Nat, lets w → ¬ (wd_sun.length = w.length ∧ ∀ k, k < wd_sun.length → wd_sun.getD k 0 = w.getD k 0) → ¬ lg_cmp (Int64.ofNat (whs B (skb B e a) (wde B e a))) (Int64.ofNat (wsm w)) = 0 := fun w l h z => by
    have h' := (wd_cmp (B := B) (e := e) (a := a) l ae).mp z
    exact h ⟨hw.1.trans h'.1.symm, fun k hk => (hw.2 k hk).trans (h'.2 k (by rw [h'.1, ← hw.1]; exact hk)).symm⟩
  have P : lg_cmp (Int64.ofNat (whs B (skb B e a) (wde B e a))) (Int64.ofNat (wsm wd_sun)) = 0 := (wd_cmp (B := B) (e := e) (a := a) lt_sun ae).mpr hw
  -- the class's word
  obtain ⟨I1, c1, c2, c3, c4, c5⟩ := tw_28 (d + 5) (L := L) lX q1
  have NC : ∀ w : List Nat, ¬ (wd_sun.length = w.length ∧ ∀ k, k < wd_sun.length → wd_sun.getD k 0 = w.getD k 0) → ¬ isw w B (skb B e a) (wde B e a) := fun w h h' => h ⟨hw.1.trans h'.1.symm, fun k hk => (hw.2 k hk).trans (h'.2 k (by rw [h'.1, ← hw.1]; exact hk)).symm⟩
  rw [if_neg (NC wd_room (by decide)), if_neg (NC wd_wall (by decide)), if_neg (NC wd_outer (by decide)), if_neg (NC wd_window (by decide)), if_pos hw] at c1
  have i0 : I1 x 0 = Int32.ofNat c := by rw [c2.1 x (by omega)]; exact a1
  have i1 : I1 x 1 = Int32.ofNat nr := by rw [c2.1 x (by omega)]; exact a4
  have i10 : I1 x 10 = Int32.ofNat n := by rw [c2.1 x (by omega)]; exact a7
  have ma := c_many (d + 6) 4 (G := G) (I := I1) (L := L) lH i0 a3 i1 a6 i10 a9 (by decide)
  have ec : mcal mT (d + 8) 35 [.ref x, .ref 101] (G, I, L) = (if (if c = 40 ∨ (4 = 0 ∧ nr = 8) ∨ (4 = 5 ∧ n = 8) then (1 : Int32) else 0) = 0 then f_X4_readClause (d + 7) 40 [.ref x, .ref 101, .int (Int32.ofNat 4)] [] (G, I1, L) else (mcI (mcal mT (d + 7) 87 [.ref 101, .int 3, .int (Int32.ofNat (skb B e a))] (G, I1, L)) (fun v8 h7 => mbool v8 (some (.inl (some (.int v8)), h7))) mthr)) := by
    rw [q_X4_readClause_, e_X4_readClause_0]
    simp only [↓vX lX, ↓mcI_of c1, if_neg (show ¬ Int32.ofNat 4 = -1 by decide), e_X4_readClause_22, ↓vH lH, ↓mcI_of ma, c4]
  -- the reference's word
  obtain ⟨J1, g1, g2, g3, g4⟩ := rk_word (r + 3) (K := K) lM q2
  have j5 : J1 219 5 = Int32.ofNat (skb B e a) := g3.2.1
  have j221 : J1 221 = J 221 := g2.1 221 (by decide)
  have fi := r_fine (r + 4) (K := K) lM g3.2.2.2.2.1
  have er : mcal mT (r + 6) 196 [.ref 219] (G2, J, K) = f_X12_readClause (r + 5) 157 [.ref 219, .long (Int64.ofNat (whs B (skb B e a) (wde B e a))), mU, .int 0, mU, mU, mU] [] (G2, J1, K) := by
    rw [q_X12_readClause_, e_X12_readClause_0]
    simp only [↓vM lM, ↓mcL_of g1, ↓mcL_of (o_snap (r + 4)), if_neg (N wd_snap lt_snap (by decide)), e_X12_readClause_19, ↓mcL_of (o_slow (r + 4)), if_neg (N wd_slow lt_slow (by decide)), e_X12_readClause_33, ↓mcL_of (o_draught (r + 4)), if_neg (N wd_draught lt_draught (by decide)), e_X12_readClause_47, e_X12_readClause_48, if_neg (show ¬ (0 : Int32) < 0 by decide), ↓mcL_of (o_room (r + 4)), if_neg (N wd_room lt_room (by decide)), ↓mcL_of (o_wall (r + 4)), if_neg (N wd_wall lt_wall (by decide)), ↓mcL_of (o_outer (r + 4)), if_neg (N wd_outer lt_outer (by decide)), ↓mcL_of (o_window (r + 4)), if_neg (N wd_window lt_window (by decide)), ↓mcL_of (o_sun (r + 4)), if_pos P, e_X12_readClause_133, e_X12_readClause_138, if_neg z1]
  have j165 : J1 221 165 = Int32.ofNat c := by rw [j221]; exact a2
  have j163 : J1 221 163 = Int32.ofNat nr := by rw [j221]; exact a5
  have j164 : J1 221 164 = Int32.ofNat n := by rw [j221]; exact a8
  by_cases tm : c = 40 ∨ (4 = 0 ∧ nr = 8) ∨ (4 = 5 ∧ n = 8)
  · -- one too many
    obtain ⟨I2, d1, d2, d3, d4⟩ := tk_fail (d + 6) (I := I1) (L := L) 3 (Int32.ofNat (skb B e a)) lX
    have w := r_wrong (r + 4) (K := K) 3 (Int32.ofNat (skb B e a)) lM g3.2.2.2.2.1
    have o3 := RdO_u (k := 6) (v := Int32.ofNat (skb B e a)) g2 (by omega)
    have o4 := RdO_u (k := 7) (v := 3) o3 (by omega)
    rw [up_eq, up_up] at o4
    have nf := r_fineN (r + 4) (G := G2) (J := va_up J1 219 (va_up (va_up (J1 219) 6 (Int32.ofNat (skb B e a))) 7 3)) (K := K) lM (by rw [up_eq, up_ne (by decide), up_eq]; exact nm1 (by omega))
    have f216 : f_X12_readClause (r + 5) 216 [.ref 219, .long (Int64.ofNat (whs B (skb B e a) (wde B e a))), mU, .int 0, mU, mU, mU] [] (G2, J1, K) = some (.inl none, (G2, va_up J1 219 (va_up (va_up (J1 219) 6 (Int32.ofNat (skb B e a))) 7 3), K)) := by
      rw [e_X12_readClause_216]
      simp only [↓vM lM, j5, ↓mcV_of w, e_X12_readClause_225, ↓mcI_of nf, if_true]
    refine Or.inr ⟨I2, _, 3, skb B e a, ?_, ?_, d3, d4, by rw [up_eq, up_ne (by decide), up_eq], by rw [up_eq, up_eq], by omega, HcF_x (TxO_t c2 d2), HjF_x o4⟩
    · rw [ec, if_pos tm, if_neg z1]
      simp only [↓mcI_of d1, mb0]
    · rw [er, ← f216, e_X12_readClause_157]
      have c40 : c = 40 := by omega
      simp (disch := omega) only [↓vM lM, j165, c40, if_pos (show Int32.ofNat 40 = 40 from rfl)]
  · have cm : c < 40 := by omega
    have f225 : mcal mT (r + 6) 196 [.ref 219] (G2, J, K) = f_X12_readClause (r + 5) 225 [.ref 219, .long (Int64.ofNat (whs B (skb B e a) (wde B e a))), mU, .int 0, mU, mU, mU] [] (G2, J1, K) := by
      have n40 : ¬ Int32.ofNat c = 40 := fun z => by have := (i_eq (b := 40) (by omega) (by decide)).mp z; omega
      rw [er, e_X12_readClause_157]
      simp (disch := omega) only [↓vM lM, j165, if_neg n40, ↓mcL_of (o_room (r + 4)), if_neg (N wd_room lt_room (by decide)), e_X12_readClause_193, ↓mcL_of (o_radiator (r + 4)), if_neg (N wd_radiator lt_radiator (by decide))]
    -- the word passed, the clause counted
    have pa := rk_pass (r + 3) (K := K) lM _ _ J1 rfl g3
    have wq : skr (isL B) e (skb B e a) = wde B e a := rfl
    rw [wq] at pa
    have o3 := RdO_u (k := 5) (v := Int32.ofNat (wde B e a)) g2 (by omega)
    have r3 := RdR_o q2 o3 (a' := wde B e a) (by rw [up_eq, up_eq]) wb.2 (by rw [up_eq, up_ne (by decide)]; exact g3.2.2.2.2.1)
    generalize hJ2 : va_up J1 219 (va_up (J1 219) 5 (Int32.ofNat (wde B e a))) = J2 at pa o3 r3
    have k221 : J2 221 = J 221 := o3.1 221 (by decide)
    have k165 : J2 221 165 = Int32.ofNat c := by rw [k221]; exact a2
    have qh : PrH B e (wde B e a) x nr n (c + 1) (va_up I1 (x + 0) (va_up (I1 x) 0 (Int32.ofNat (c + 1)))) (va_up J2 221 (va_up (J2 221) 165 (Int32.ofNat (c + 1)))) := by
      refine ⟨TxR_u c3 q4, RdR_u r3, ?_, q4, by rw [up_ne (by omega), c5 7 (by decide)]; exact q5⟩
      rw [hrw_u, up_eq, hrw_o c2 q4, k221, show I1 x = I x from c2.1 x (by omega)]
      exact Hr_clause q3 cm
    have k := kr_sun d r (L := L) (K := K) lX lH lM qh
    generalize hI2 : va_up I1 (x + 0) (va_up (I1 x) 0 (Int32.ofNat (c + 1))) = I2 at k qh
    generalize hJ3 : va_up J2 221 (va_up (J2 221) 165 (Int32.ofNat (c + 1))) = J3 at k qh
    have k' := OutK_m (X2 := mcal mT (d + 7) 37 [.ref x, .ref 101, .int (Int32.ofNat 4)] (G, I2, L)) k (fun v Ix hv hX => by
      rw [q_X4_readNumbers_, e_X4_readNumbers_0, if_neg (by decide), if_neg (by decide), if_neg (by decide), if_neg (by decide), if_pos (by decide), e_X4_readNumbers_92]
      have mv : ∀ Z : Option mO, mbool v Z = Z := fun Z => by
        rcases hv with rfl | rfl
        · exact mb0
        · exact mb1
      simp only [↓vH lH, ↓mcI_of hX, mv])
    have t := kc_tail d r lX lM k'
    have ecl : mcal mT (d + 8) 35 [.ref x, .ref 101] (G, I, L) = mcI (mcal mT (d + 7) 37 [.ref x, .ref 101, .int (Int32.ofNat 4)] (G, I2, L)) (fun v10 h9 => (if v10 = 0 then f_X4_readClause (d + 7) 72 [mU, mU, mU] [] h9 else gk h9.1 101 11 (mcI (mcal mT (d + 7) 92 [.ref 101, .int 59] h9) (fun v12 h11 => (if v12 = 0 then f_X4_readClause (d + 7) 72 [mU, mU, mU] [] h11 else f_X4_readClause (d + 7) 73 [mU, mU, mU] [.int 1] h11)) mthr))) mthr := by
      rw [ec, if_neg tm, if_pos rfl, e_X4_readClause_40]
      simp only [↓vH lH, i0, i_one, up2_e]
      rw [show va_up I1 x (va_up (I1 x) 0 (Int32.ofNat (c + 1))) = I2 from hI2]
    have erl : mcal mT (r + 6) 196 [.ref 219] (G2, J, K) = gk G2 219 13 (mcV (mcal mT (r + 5) 193 [.ref 219] (G2, J3, K)) (fun h81 => f_X12_readClause (r + 5) 528 [.ref 219, mU, mU, mU, mU, mU, mU] [] h81) mthr) := by
      rw [f225, e_X12_readClause_225]
      simp (disch := omega) only [↓vM lM, ↓mcI_of fi, if_neg z1, e_X12_readClause_233, ↓mcV_of pa, k165, i_one, show ∀ (F : Nat → Nat → Int32) v w, up2 F (219 + 2) v w = va_up F 221 (va_up (F 221) v w) from fun _ _ _ => rfl, ↓mcL_of (o_room (r + 4)), if_neg (N wd_room lt_room (by decide)), e_X12_readClause_331, ↓mcL_of (o_wall (r + 4)), if_neg (N wd_wall lt_wall (by decide)), e_X12_readClause_348, ↓mcL_of (o_outer (r + 4)), if_neg (N wd_outer lt_outer (by decide)), e_X12_readClause_384, ↓mcL_of (o_window (r + 4)), if_neg (N wd_window lt_window (by decide)), e_X12_readClause_420, ↓mcL_of (o_sun (r + 4)), if_pos P, hJ3]
    rw [ecl, erl]
    rcases t with ⟨I4, J4, a4', m1, m2, y1, y2, y3, y4, y5, y6⟩ | ⟨I4, J4, k4, p4, y1, y2, y3, y4, y5, y6, y7, y8, y9⟩
    · exact Or.inl ⟨I4, J4, a4', m1, m2, y1, y2, y3, HcF_t (by rw [← hI2]; exact HcF_u (HcF_x c2) q4 (by decide)) y4, HjF_t (by rw [← hJ3]; exact HjF_u (HjF_x o3)) y5, by omega⟩
    · exact Or.inr ⟨I4, J4, k4, p4, y1, y2, y3, y4, y5, y6, y7, HcF_t (by rw [← hI2]; exact HcF_u (HcF_x c2) q4 (by decide)) y8, HjF_t (by rw [← hJ3]; exact HjF_u (HjF_x o3)) y9⟩
theorem kd_radiator (d r : Nat) (lX : LayX G 101) (lH : LayH G x) (lM : LayM G2 219) (q : PrH B e a x nr n c I J) (hw : isw wd_radiator B (skb B e a) (wde B e a)) : OutL B e a x I J G G2 L K (mcal mT (d + 8) 35 [.ref x, .ref 101] (G, I, L)) (mcal mT (r + 6) 196 [.ref 219] (G2, J, K)) (c + 1) := by
  have z1 : ¬ (1 : Int32) = 0 := by decide
  obtain ⟨q1, q2, q3, q4, q5⟩ := id q
  obtain ⟨⟨a1, a2, a3, a4, a5, a6, a7, a8, a9⟩, -⟩ := id q3
  have ae := q1.2.2.1
  have e5 := q1.2.2.2.1
  have bb := skb_b (B := B) (e := e) (a := a) ae
  have wb := wde_b (B := B) (e := e) (a := a) ae
  have lw : (wd_radiator).length = wde B e a - skb B e a := hw.1
  have lw2 : 3 ≤ (wd_radiator).length := by decide
  have N : ∀ w : List Nat, lets w → ¬ (wd_radiator.length = w.length ∧ ∀ k, k < wd_radiator.length → wd_radiator.getD k 0 = w.getD k 0) → ¬ lg_cmp (Int64.ofNat (whs B (skb B e a) (wde B e a))) (Int64.ofNat (wsm w)) = 0 := fun w l h z => by
    have h' := (wd_cmp (B := B) (e := e) (a := a) l ae).mp z
    exact h ⟨hw.1.trans h'.1.symm, fun k hk => (hw.2 k hk).trans (h'.2 k (by rw [h'.1, ← hw.1]; exact hk)).symm⟩
  have P : lg_cmp (Int64.ofNat (whs B (skb B e a) (wde B e a))) (Int64.ofNat (wsm wd_radiator)) = 0 := (wd_cmp (B := B) (e := e) (a := a) lt_radiator ae).mpr hw
  -- the class's word
  obtain ⟨I1, c1, c2, c3, c4, c5⟩ := tw_28 (d + 5) (L := L) lX q1
  have NC : ∀ w : List Nat, ¬ (wd_radiator.length = w.length ∧ ∀ k, k < wd_radiator.length → wd_radiator.getD k 0 = w.getD k 0) → ¬ isw w B (skb B e a) (wde B e a) := fun w h h' => h ⟨hw.1.trans h'.1.symm, fun k hk => (hw.2 k hk).trans (h'.2 k (by rw [h'.1, ← hw.1]; exact hk)).symm⟩
  rw [if_neg (NC wd_room (by decide)), if_neg (NC wd_wall (by decide)), if_neg (NC wd_outer (by decide)), if_neg (NC wd_window (by decide)), if_neg (NC wd_sun (by decide)), if_pos hw] at c1
  have i0 : I1 x 0 = Int32.ofNat c := by rw [c2.1 x (by omega)]; exact a1
  have i1 : I1 x 1 = Int32.ofNat nr := by rw [c2.1 x (by omega)]; exact a4
  have i10 : I1 x 10 = Int32.ofNat n := by rw [c2.1 x (by omega)]; exact a7
  have ma := c_many (d + 6) 5 (G := G) (I := I1) (L := L) lH i0 a3 i1 a6 i10 a9 (by decide)
  have ec : mcal mT (d + 8) 35 [.ref x, .ref 101] (G, I, L) = (if (if c = 40 ∨ (5 = 0 ∧ nr = 8) ∨ (5 = 5 ∧ n = 8) then (1 : Int32) else 0) = 0 then f_X4_readClause (d + 7) 40 [.ref x, .ref 101, .int (Int32.ofNat 5)] [] (G, I1, L) else (mcI (mcal mT (d + 7) 87 [.ref 101, .int 3, .int (Int32.ofNat (skb B e a))] (G, I1, L)) (fun v8 h7 => mbool v8 (some (.inl (some (.int v8)), h7))) mthr)) := by
    rw [q_X4_readClause_, e_X4_readClause_0]
    simp only [↓vX lX, ↓mcI_of c1, if_neg (show ¬ Int32.ofNat 5 = -1 by decide), e_X4_readClause_22, ↓vH lH, ↓mcI_of ma, c4]
  -- the reference's word
  obtain ⟨J1, g1, g2, g3, g4⟩ := rk_word (r + 3) (K := K) lM q2
  have j5 : J1 219 5 = Int32.ofNat (skb B e a) := g3.2.1
  have j221 : J1 221 = J 221 := g2.1 221 (by decide)
  have fi := r_fine (r + 4) (K := K) lM g3.2.2.2.2.1
  have er : mcal mT (r + 6) 196 [.ref 219] (G2, J, K) = f_X12_readClause (r + 5) 157 [.ref 219, .long (Int64.ofNat (whs B (skb B e a) (wde B e a))), mU, .int 0, mU, mU, mU] [] (G2, J1, K) := by
    rw [q_X12_readClause_, e_X12_readClause_0]
    simp only [↓vM lM, ↓mcL_of g1, ↓mcL_of (o_snap (r + 4)), if_neg (N wd_snap lt_snap (by decide)), e_X12_readClause_19, ↓mcL_of (o_slow (r + 4)), if_neg (N wd_slow lt_slow (by decide)), e_X12_readClause_33, ↓mcL_of (o_draught (r + 4)), if_neg (N wd_draught lt_draught (by decide)), e_X12_readClause_47, e_X12_readClause_48, if_neg (show ¬ (0 : Int32) < 0 by decide), ↓mcL_of (o_room (r + 4)), if_neg (N wd_room lt_room (by decide)), ↓mcL_of (o_wall (r + 4)), if_neg (N wd_wall lt_wall (by decide)), ↓mcL_of (o_outer (r + 4)), if_neg (N wd_outer lt_outer (by decide)), ↓mcL_of (o_window (r + 4)), if_neg (N wd_window lt_window (by decide)), ↓mcL_of (o_sun (r + 4)), if_neg (N wd_sun lt_sun (by decide)), ↓mcL_of (o_radiator (r + 4)), if_pos P, e_X12_readClause_133, e_X12_readClause_138, if_neg z1]
  have j165 : J1 221 165 = Int32.ofNat c := by rw [j221]; exact a2
  have j163 : J1 221 163 = Int32.ofNat nr := by rw [j221]; exact a5
  have j164 : J1 221 164 = Int32.ofNat n := by rw [j221]; exact a8
  by_cases tm : c = 40 ∨ (5 = 0 ∧ nr = 8) ∨ (5 = 5 ∧ n = 8)
  · -- one too many
    obtain ⟨I2, d1, d2, d3, d4⟩ := tk_fail (d + 6) (I := I1) (L := L) 3 (Int32.ofNat (skb B e a)) lX
    have w := r_wrong (r + 4) (K := K) 3 (Int32.ofNat (skb B e a)) lM g3.2.2.2.2.1
    have o3 := RdO_u (k := 6) (v := Int32.ofNat (skb B e a)) g2 (by omega)
    have o4 := RdO_u (k := 7) (v := 3) o3 (by omega)
    rw [up_eq, up_up] at o4
    have nf := r_fineN (r + 4) (G := G2) (J := va_up J1 219 (va_up (va_up (J1 219) 6 (Int32.ofNat (skb B e a))) 7 3)) (K := K) lM (by rw [up_eq, up_ne (by decide), up_eq]; exact nm1 (by omega))
    have f216 : f_X12_readClause (r + 5) 216 [.ref 219, .long (Int64.ofNat (whs B (skb B e a) (wde B e a))), mU, .int 0, mU, mU, mU] [] (G2, J1, K) = some (.inl none, (G2, va_up J1 219 (va_up (va_up (J1 219) 6 (Int32.ofNat (skb B e a))) 7 3), K)) := by
      rw [e_X12_readClause_216]
      simp only [↓vM lM, j5, ↓mcV_of w, e_X12_readClause_225, ↓mcI_of nf, if_true]
    refine Or.inr ⟨I2, _, 3, skb B e a, ?_, ?_, d3, d4, by rw [up_eq, up_ne (by decide), up_eq], by rw [up_eq, up_eq], by omega, HcF_x (TxO_t c2 d2), HjF_x o4⟩
    · rw [ec, if_pos tm, if_neg z1]
      simp only [↓mcI_of d1, mb0]
    · rw [er, ← f216, e_X12_readClause_157]
      by_cases c40 : c = 40
      · simp (disch := omega) only [↓vM lM, j165, c40, if_pos (show Int32.ofNat 40 = 40 from rfl)]
      · have r8 : n = 8 := by omega
        have n40 : ¬ Int32.ofNat c = 40 := fun z => by have := (i_eq (b := 40) (by omega) (by decide)).mp z; omega
        simp (disch := omega) only [↓vM lM, j165, if_neg n40, ↓mcL_of (o_room (r + 4)), if_neg (N wd_room lt_room (by decide)), e_X12_readClause_193, ↓mcL_of (o_radiator (r + 4)), if_pos P, j164, r8, if_pos (show Int32.ofNat 8 = 8 from rfl)]
  · have cm : c < 40 := by omega
    have f225 : mcal mT (r + 6) 196 [.ref 219] (G2, J, K) = f_X12_readClause (r + 5) 225 [.ref 219, .long (Int64.ofNat (whs B (skb B e a) (wde B e a))), mU, .int 0, mU, mU, mU] [] (G2, J1, K) := by
      have n40 : ¬ Int32.ofNat c = 40 := fun z => by have := (i_eq (b := 40) (by omega) (by decide)).mp z; omega
      rw [er, e_X12_readClause_157]
      have n8 : ¬ Int32.ofNat n = 8 := fun z => by have := (i_eq (b := 8) (by omega) (by decide)).mp z; omega
      simp (disch := omega) only [↓vM lM, j165, if_neg n40, ↓mcL_of (o_room (r + 4)), if_neg (N wd_room lt_room (by decide)), e_X12_readClause_193, ↓mcL_of (o_radiator (r + 4)), if_pos P, j164, if_neg n8]
    -- the word passed, the clause counted
    have pa := rk_pass (r + 3) (K := K) lM _ _ J1 rfl g3
    have wq : skr (isL B) e (skb B e a) = wde B e a := rfl
    rw [wq] at pa
    have o3 := RdO_u (k := 5) (v := Int32.ofNat (wde B e a)) g2 (by omega)
    have r3 := RdR_o q2 o3 (a' := wde B e a) (by rw [up_eq, up_eq]) wb.2 (by rw [up_eq, up_ne (by decide)]; exact g3.2.2.2.2.1)
    generalize hJ2 : va_up J1 219 (va_up (J1 219) 5 (Int32.ofNat (wde B e a))) = J2 at pa o3 r3
    have k221 : J2 221 = J 221 := o3.1 221 (by decide)
    have k165 : J2 221 165 = Int32.ofNat c := by rw [k221]; exact a2
    have qh : PrH B e (wde B e a) x nr n (c + 1) (va_up I1 (x + 0) (va_up (I1 x) 0 (Int32.ofNat (c + 1)))) (va_up J2 221 (va_up (J2 221) 165 (Int32.ofNat (c + 1)))) := by
      refine ⟨TxR_u c3 q4, RdR_u r3, ?_, q4, by rw [up_ne (by omega), c5 7 (by decide)]; exact q5⟩
      rw [hrw_u, up_eq, hrw_o c2 q4, k221, show I1 x = I x from c2.1 x (by omega)]
      exact Hr_clause q3 cm
    have k := kr_rad d r (L := L) (K := K) lX lH lM qh (by omega)
    generalize hI2 : va_up I1 (x + 0) (va_up (I1 x) 0 (Int32.ofNat (c + 1))) = I2 at k qh
    generalize hJ3 : va_up J2 221 (va_up (J2 221) 165 (Int32.ofNat (c + 1))) = J3 at k qh
    have k' := OutK_m (X2 := mcal mT (d + 7) 37 [.ref x, .ref 101, .int (Int32.ofNat 5)] (G, I2, L)) k (fun v Ix hv hX => by
      rw [q_X4_readNumbers_, e_X4_readNumbers_0, if_neg (by decide), if_neg (by decide), if_neg (by decide), if_neg (by decide), if_neg (by decide), if_pos (by decide), e_X4_readNumbers_98]
      have mv : ∀ Z : Option mO, mbool v Z = Z := fun Z => by
        rcases hv with rfl | rfl
        · exact mb0
        · exact mb1
      simp only [↓vH lH, ↓mcI_of hX, mv])
    have t := kc_tail d r lX lM k'
    have ecl : mcal mT (d + 8) 35 [.ref x, .ref 101] (G, I, L) = mcI (mcal mT (d + 7) 37 [.ref x, .ref 101, .int (Int32.ofNat 5)] (G, I2, L)) (fun v10 h9 => (if v10 = 0 then f_X4_readClause (d + 7) 72 [mU, mU, mU] [] h9 else gk h9.1 101 11 (mcI (mcal mT (d + 7) 92 [.ref 101, .int 59] h9) (fun v12 h11 => (if v12 = 0 then f_X4_readClause (d + 7) 72 [mU, mU, mU] [] h11 else f_X4_readClause (d + 7) 73 [mU, mU, mU] [.int 1] h11)) mthr))) mthr := by
      rw [ec, if_neg tm, if_pos rfl, e_X4_readClause_40]
      simp only [↓vH lH, i0, i_one, up2_e]
      rw [show va_up I1 x (va_up (I1 x) 0 (Int32.ofNat (c + 1))) = I2 from hI2]
    have erl : mcal mT (r + 6) 196 [.ref 219] (G2, J, K) = gk G2 219 13 (mcV (mcal mT (r + 5) 194 [.ref 219] (G2, J3, K)) (fun h84 => f_X12_readClause (r + 5) 528 [.ref 219, mU, mU, mU, mU, mU, mU] [] h84) mthr) := by
      rw [f225, e_X12_readClause_225]
      simp (disch := omega) only [↓vM lM, ↓mcI_of fi, if_neg z1, e_X12_readClause_233, ↓mcV_of pa, k165, i_one, show ∀ (F : Nat → Nat → Int32) v w, up2 F (219 + 2) v w = va_up F 221 (va_up (F 221) v w) from fun _ _ _ => rfl, ↓mcL_of (o_room (r + 4)), if_neg (N wd_room lt_room (by decide)), e_X12_readClause_331, ↓mcL_of (o_wall (r + 4)), if_neg (N wd_wall lt_wall (by decide)), e_X12_readClause_348, ↓mcL_of (o_outer (r + 4)), if_neg (N wd_outer lt_outer (by decide)), e_X12_readClause_384, ↓mcL_of (o_window (r + 4)), if_neg (N wd_window lt_window (by decide)), e_X12_readClause_420, ↓mcL_of (o_sun (r + 4)), if_neg (N wd_sun lt_sun (by decide)), e_X12_readClause_437, ↓mcL_of (o_radiator (r + 4)), if_pos P, hJ3]
    rw [ecl, erl]
    rcases t with ⟨I4, J4, a4', m1, m2, y1, y2, y3, y4, y5, y6⟩ | ⟨I4, J4, k4, p4, y1, y2, y3, y4, y5, y6, y7, y8, y9⟩
    · exact Or.inl ⟨I4, J4, a4', m1, m2, y1, y2, y3, HcF_t (by rw [← hI2]; exact HcF_u (HcF_x c2) q4 (by decide)) y4, HjF_t (by rw [← hJ3]; exact HjF_u (HjF_x o3)) y5, by omega⟩
    · exact Or.inr ⟨I4, J4, k4, p4, y1, y2, y3, y4, y5, y6, y7, HcF_t (by rw [← hI2]; exact HcF_u (HcF_x c2) q4 (by decide)) y8, HjF_t (by rw [← hJ3]; exact HjF_u (HjF_x o3)) y9⟩
theorem kd_snap (d r : Nat) (lX : LayX G 101) (lH : LayH G x) (lM : LayM G2 219) (q : PrH B e a x nr n c I J) (hw : isw wd_snap B (skb B e a) (wde B e a)) : OutL B e a x I J G G2 L K (mcal mT (d + 8) 35 [.ref x, .ref 101] (G, I, L)) (mcal mT (r + 6) 196 [.ref 219] (G2, J, K)) (c + 1) := by
  have z1 : ¬ (1 : Int32) = 0 := by decide
  obtain ⟨q1, q2, q3, q4, q5⟩ := id q
  obtain ⟨⟨a1, a2, a3, a4, a5, a6, a7, a8, a9⟩, -⟩ := id q3
  have ae := q1.2.2.1
  have e5 := q1.2.2.2.1
  have bb := skb_b (B := B) (e := e) (a := a) ae
  have wb := wde_b (B := B) (e := e) (a := a) ae
  have lw : (wd_snap).length = wde B e a - skb B e a := hw.1
  have lw2 : 3 ≤ (wd_snap).length := by decide
  have N : ∀ w : List Nat, lets w → ¬ (wd_snap.length = w.length ∧ ∀ k, k < wd_snap.length → wd_snap.getD k 0 = w.getD k 0) → ¬ lg_cmp (Int64.ofNat (whs B (skb B e a) (wde B e a))) (Int64.ofNat (wsm w)) = 0 := fun w l h z => by
    have h' := (wd_cmp (B := B) (e := e) (a := a) l ae).mp z
    exact h ⟨hw.1.trans h'.1.symm, fun k hk => (hw.2 k hk).trans (h'.2 k (by rw [h'.1, ← hw.1]; exact hk)).symm⟩
  have P : lg_cmp (Int64.ofNat (whs B (skb B e a) (wde B e a))) (Int64.ofNat (wsm wd_snap)) = 0 := (wd_cmp (B := B) (e := e) (a := a) lt_snap ae).mpr hw
  -- the class's word
  obtain ⟨I1, c1, c2, c3, c4, c5⟩ := tw_28 (d + 5) (L := L) lX q1
  have NC : ∀ w : List Nat, ¬ (wd_snap.length = w.length ∧ ∀ k, k < wd_snap.length → wd_snap.getD k 0 = w.getD k 0) → ¬ isw w B (skb B e a) (wde B e a) := fun w h h' => h ⟨hw.1.trans h'.1.symm, fun k hk => (hw.2 k hk).trans (h'.2 k (by rw [h'.1, ← hw.1]; exact hk)).symm⟩
  rw [if_neg (NC wd_room (by decide)), if_neg (NC wd_wall (by decide)), if_neg (NC wd_outer (by decide)), if_neg (NC wd_window (by decide)), if_neg (NC wd_sun (by decide)), if_neg (NC wd_radiator (by decide)), if_pos hw] at c1
  have i0 : I1 x 0 = Int32.ofNat c := by rw [c2.1 x (by omega)]; exact a1
  have i1 : I1 x 1 = Int32.ofNat nr := by rw [c2.1 x (by omega)]; exact a4
  have i10 : I1 x 10 = Int32.ofNat n := by rw [c2.1 x (by omega)]; exact a7
  have ma := c_many (d + 6) 6 (G := G) (I := I1) (L := L) lH i0 a3 i1 a6 i10 a9 (by decide)
  have ec : mcal mT (d + 8) 35 [.ref x, .ref 101] (G, I, L) = (if (if c = 40 ∨ (6 = 0 ∧ nr = 8) ∨ (6 = 5 ∧ n = 8) then (1 : Int32) else 0) = 0 then f_X4_readClause (d + 7) 40 [.ref x, .ref 101, .int (Int32.ofNat 6)] [] (G, I1, L) else (mcI (mcal mT (d + 7) 87 [.ref 101, .int 3, .int (Int32.ofNat (skb B e a))] (G, I1, L)) (fun v8 h7 => mbool v8 (some (.inl (some (.int v8)), h7))) mthr)) := by
    rw [q_X4_readClause_, e_X4_readClause_0]
    simp only [↓vX lX, ↓mcI_of c1, if_neg (show ¬ Int32.ofNat 6 = -1 by decide), e_X4_readClause_22, ↓vH lH, ↓mcI_of ma, c4]
  -- the reference's word
  obtain ⟨J1, g1, g2, g3, g4⟩ := rk_word (r + 3) (K := K) lM q2
  have j5 : J1 219 5 = Int32.ofNat (skb B e a) := g3.2.1
  have j221 : J1 221 = J 221 := g2.1 221 (by decide)
  have fi := r_fine (r + 4) (K := K) lM g3.2.2.2.2.1
  have er : mcal mT (r + 6) 196 [.ref 219] (G2, J, K) = f_X12_readClause (r + 5) 157 [.ref 219, .long (Int64.ofNat (whs B (skb B e a) (wde B e a))), mU, .int 1, mU, mU, mU] [] (G2, J1, K) := by
    rw [q_X12_readClause_, e_X12_readClause_0]
    simp only [↓vM lM, ↓mcL_of g1, ↓mcL_of (o_snap (r + 4)), if_pos P, e_X12_readClause_48, if_pos (show (0 : Int32) < 1 by decide), e_X12_readClause_133, e_X12_readClause_138, if_neg z1]
  have j165 : J1 221 165 = Int32.ofNat c := by rw [j221]; exact a2
  have j163 : J1 221 163 = Int32.ofNat nr := by rw [j221]; exact a5
  have j164 : J1 221 164 = Int32.ofNat n := by rw [j221]; exact a8
  by_cases tm : c = 40 ∨ (6 = 0 ∧ nr = 8) ∨ (6 = 5 ∧ n = 8)
  · -- one too many
    obtain ⟨I2, d1, d2, d3, d4⟩ := tk_fail (d + 6) (I := I1) (L := L) 3 (Int32.ofNat (skb B e a)) lX
    have w := r_wrong (r + 4) (K := K) 3 (Int32.ofNat (skb B e a)) lM g3.2.2.2.2.1
    have o3 := RdO_u (k := 6) (v := Int32.ofNat (skb B e a)) g2 (by omega)
    have o4 := RdO_u (k := 7) (v := 3) o3 (by omega)
    rw [up_eq, up_up] at o4
    have nf := r_fineN (r + 4) (G := G2) (J := va_up J1 219 (va_up (va_up (J1 219) 6 (Int32.ofNat (skb B e a))) 7 3)) (K := K) lM (by rw [up_eq, up_ne (by decide), up_eq]; exact nm1 (by omega))
    have f216 : f_X12_readClause (r + 5) 216 [.ref 219, .long (Int64.ofNat (whs B (skb B e a) (wde B e a))), mU, .int 1, mU, mU, mU] [] (G2, J1, K) = some (.inl none, (G2, va_up J1 219 (va_up (va_up (J1 219) 6 (Int32.ofNat (skb B e a))) 7 3), K)) := by
      rw [e_X12_readClause_216]
      simp only [↓vM lM, j5, ↓mcV_of w, e_X12_readClause_225, ↓mcI_of nf, if_true]
    refine Or.inr ⟨I2, _, 3, skb B e a, ?_, ?_, d3, d4, by rw [up_eq, up_ne (by decide), up_eq], by rw [up_eq, up_eq], by omega, HcF_x (TxO_t c2 d2), HjF_x o4⟩
    · rw [ec, if_pos tm, if_neg z1]
      simp only [↓mcI_of d1, mb0]
    · rw [er, ← f216, e_X12_readClause_157]
      have c40 : c = 40 := by omega
      simp (disch := omega) only [↓vM lM, j165, c40, if_pos (show Int32.ofNat 40 = 40 from rfl)]
  · have cm : c < 40 := by omega
    have f225 : mcal mT (r + 6) 196 [.ref 219] (G2, J, K) = f_X12_readClause (r + 5) 225 [.ref 219, .long (Int64.ofNat (whs B (skb B e a) (wde B e a))), mU, .int 1, mU, mU, mU] [] (G2, J1, K) := by
      have n40 : ¬ Int32.ofNat c = 40 := fun z => by have := (i_eq (b := 40) (by omega) (by decide)).mp z; omega
      rw [er, e_X12_readClause_157]
      simp (disch := omega) only [↓vM lM, j165, if_neg n40, ↓mcL_of (o_room (r + 4)), if_neg (N wd_room lt_room (by decide)), e_X12_readClause_193, ↓mcL_of (o_radiator (r + 4)), if_neg (N wd_radiator lt_radiator (by decide))]
    -- the word passed, the clause counted
    have pa := rk_pass (r + 3) (K := K) lM _ _ J1 rfl g3
    have wq : skr (isL B) e (skb B e a) = wde B e a := rfl
    rw [wq] at pa
    have o3 := RdO_u (k := 5) (v := Int32.ofNat (wde B e a)) g2 (by omega)
    have r3 := RdR_o q2 o3 (a' := wde B e a) (by rw [up_eq, up_eq]) wb.2 (by rw [up_eq, up_ne (by decide)]; exact g3.2.2.2.2.1)
    generalize hJ2 : va_up J1 219 (va_up (J1 219) 5 (Int32.ofNat (wde B e a))) = J2 at pa o3 r3
    have k221 : J2 221 = J 221 := o3.1 221 (by decide)
    have k165 : J2 221 165 = Int32.ofNat c := by rw [k221]; exact a2
    have qh : PrH B e (wde B e a) x nr n (c + 1) (va_up I1 (x + 0) (va_up (I1 x) 0 (Int32.ofNat (c + 1)))) (va_up J2 221 (va_up (J2 221) 165 (Int32.ofNat (c + 1)))) := by
      refine ⟨TxR_u c3 q4, RdR_u r3, ?_, q4, by rw [up_ne (by omega), c5 7 (by decide)]; exact q5⟩
      rw [hrw_u, up_eq, hrw_o c2 q4, k221, show I1 x = I x from c2.1 x (by omega)]
      exact Hr_clause q3 cm
    have k := kr_tap (kd := 1) d r (L := L) (K := K) lX lH lM qh (by decide)
    generalize hI2 : va_up I1 (x + 0) (va_up (I1 x) 0 (Int32.ofNat (c + 1))) = I2 at k qh
    generalize hJ3 : va_up J2 221 (va_up (J2 221) 165 (Int32.ofNat (c + 1))) = J3 at k qh
    have k' := OutK_m (X2 := mcal mT (d + 7) 37 [.ref x, .ref 101, .int (Int32.ofNat 6)] (G, I2, L)) k (fun v Ix hv hX => by
      rw [q_X4_readNumbers_, e_X4_readNumbers_0, if_neg (by decide), if_neg (by decide), if_neg (by decide), if_neg (by decide), if_neg (by decide), if_neg (by decide), if_pos (by decide), e_X4_readNumbers_116]
      have mv : ∀ Z : Option mO, mbool v Z = Z := fun Z => by
        rcases hv with rfl | rfl
        · exact mb0
        · exact mb1
      simp only [↓vH lH, show Int32.ofNat 6 - 5 = Int32.ofNat 1 from by decide, ↓mcI_of hX, mv])
    have t := kc_tail d r lX lM k'
    have ecl : mcal mT (d + 8) 35 [.ref x, .ref 101] (G, I, L) = mcI (mcal mT (d + 7) 37 [.ref x, .ref 101, .int (Int32.ofNat 6)] (G, I2, L)) (fun v10 h9 => (if v10 = 0 then f_X4_readClause (d + 7) 72 [mU, mU, mU] [] h9 else gk h9.1 101 11 (mcI (mcal mT (d + 7) 92 [.ref 101, .int 59] h9) (fun v12 h11 => (if v12 = 0 then f_X4_readClause (d + 7) 72 [mU, mU, mU] [] h11 else f_X4_readClause (d + 7) 73 [mU, mU, mU] [.int 1] h11)) mthr))) mthr := by
      rw [ec, if_neg tm, if_pos rfl, e_X4_readClause_40]
      simp only [↓vH lH, i0, i_one, up2_e]
      rw [show va_up I1 x (va_up (I1 x) 0 (Int32.ofNat (c + 1))) = I2 from hI2]
    have erl : mcal mT (r + 6) 196 [.ref 219] (G2, J, K) = gk G2 219 13 (mcV (mcal mT (r + 5) 195 [.ref 219, .int (Int32.ofNat 1)] (G2, J3, K)) (fun h85 => f_X12_readClause (r + 5) 528 [.ref 219, mU, mU, mU, mU, mU, mU] [] h85) mthr) := by
      rw [f225, e_X12_readClause_225]
      simp (disch := omega) only [↓vM lM, ↓mcI_of fi, if_neg z1, e_X12_readClause_233, ↓mcV_of pa, k165, i_one, show ∀ (F : Nat → Nat → Int32) v w, up2 F (219 + 2) v w = va_up F 221 (va_up (F 221) v w) from fun _ _ _ => rfl, ↓mcL_of (o_room (r + 4)), if_neg (N wd_room lt_room (by decide)), e_X12_readClause_331, ↓mcL_of (o_wall (r + 4)), if_neg (N wd_wall lt_wall (by decide)), e_X12_readClause_348, ↓mcL_of (o_outer (r + 4)), if_neg (N wd_outer lt_outer (by decide)), e_X12_readClause_384, ↓mcL_of (o_window (r + 4)), if_neg (N wd_window lt_window (by decide)), e_X12_readClause_420, ↓mcL_of (o_sun (r + 4)), if_neg (N wd_sun lt_sun (by decide)), e_X12_readClause_437, ↓mcL_of (o_radiator (r + 4)), if_neg (N wd_radiator lt_radiator (by decide)), e_X12_readClause_454, if_neg (show ¬ (1 : Int32) ≤ 0 by decide), hJ3]
      rfl
    rw [ecl, erl]
    rcases t with ⟨I4, J4, a4', m1, m2, y1, y2, y3, y4, y5, y6⟩ | ⟨I4, J4, k4, p4, y1, y2, y3, y4, y5, y6, y7, y8, y9⟩
    · exact Or.inl ⟨I4, J4, a4', m1, m2, y1, y2, y3, HcF_t (by rw [← hI2]; exact HcF_u (HcF_x c2) q4 (by decide)) y4, HjF_t (by rw [← hJ3]; exact HjF_u (HjF_x o3)) y5, by omega⟩
    · exact Or.inr ⟨I4, J4, k4, p4, y1, y2, y3, y4, y5, y6, y7, HcF_t (by rw [← hI2]; exact HcF_u (HcF_x c2) q4 (by decide)) y8, HjF_t (by rw [← hJ3]; exact HjF_u (HjF_x o3)) y9⟩
theorem kd_slow (d r : Nat) (lX : LayX G 101) (lH : LayH G x) (lM : LayM G2 219) (q : PrH B e a x nr n c I J) (hw : isw wd_slow B (skb B e a) (wde B e a)) : OutL B e a x I J G G2 L K (mcal mT (d + 8) 35 [.ref x, .ref 101] (G, I, L)) (mcal mT (r + 6) 196 [.ref 219] (G2, J, K)) (c + 1) := by
  have z1 : ¬ (1 : Int32) = 0 := by decide
  obtain ⟨q1, q2, q3, q4, q5⟩ := id q
  obtain ⟨⟨a1, a2, a3, a4, a5, a6, a7, a8, a9⟩, -⟩ := id q3
  have ae := q1.2.2.1
  have e5 := q1.2.2.2.1
  have bb := skb_b (B := B) (e := e) (a := a) ae
  have wb := wde_b (B := B) (e := e) (a := a) ae
  have lw : (wd_slow).length = wde B e a - skb B e a := hw.1
  have lw2 : 3 ≤ (wd_slow).length := by decide
  have N : ∀ w : List Nat, lets w → ¬ (wd_slow.length = w.length ∧ ∀ k, k < wd_slow.length → wd_slow.getD k 0 = w.getD k 0) → ¬ lg_cmp (Int64.ofNat (whs B (skb B e a) (wde B e a))) (Int64.ofNat (wsm w)) = 0 := fun w l h z => by
    have h' := (wd_cmp (B := B) (e := e) (a := a) l ae).mp z
    exact h ⟨hw.1.trans h'.1.symm, fun k hk => (hw.2 k hk).trans (h'.2 k (by rw [h'.1, ← hw.1]; exact hk)).symm⟩
  have P : lg_cmp (Int64.ofNat (whs B (skb B e a) (wde B e a))) (Int64.ofNat (wsm wd_slow)) = 0 := (wd_cmp (B := B) (e := e) (a := a) lt_slow ae).mpr hw
  -- the class's word
  obtain ⟨I1, c1, c2, c3, c4, c5⟩ := tw_28 (d + 5) (L := L) lX q1
  have NC : ∀ w : List Nat, ¬ (wd_slow.length = w.length ∧ ∀ k, k < wd_slow.length → wd_slow.getD k 0 = w.getD k 0) → ¬ isw w B (skb B e a) (wde B e a) := fun w h h' => h ⟨hw.1.trans h'.1.symm, fun k hk => (hw.2 k hk).trans (h'.2 k (by rw [h'.1, ← hw.1]; exact hk)).symm⟩
  rw [if_neg (NC wd_room (by decide)), if_neg (NC wd_wall (by decide)), if_neg (NC wd_outer (by decide)), if_neg (NC wd_window (by decide)), if_neg (NC wd_sun (by decide)), if_neg (NC wd_radiator (by decide)), if_neg (NC wd_snap (by decide)), if_pos hw] at c1
  have i0 : I1 x 0 = Int32.ofNat c := by rw [c2.1 x (by omega)]; exact a1
  have i1 : I1 x 1 = Int32.ofNat nr := by rw [c2.1 x (by omega)]; exact a4
  have i10 : I1 x 10 = Int32.ofNat n := by rw [c2.1 x (by omega)]; exact a7
  have ma := c_many (d + 6) 7 (G := G) (I := I1) (L := L) lH i0 a3 i1 a6 i10 a9 (by decide)
  have ec : mcal mT (d + 8) 35 [.ref x, .ref 101] (G, I, L) = (if (if c = 40 ∨ (7 = 0 ∧ nr = 8) ∨ (7 = 5 ∧ n = 8) then (1 : Int32) else 0) = 0 then f_X4_readClause (d + 7) 40 [.ref x, .ref 101, .int (Int32.ofNat 7)] [] (G, I1, L) else (mcI (mcal mT (d + 7) 87 [.ref 101, .int 3, .int (Int32.ofNat (skb B e a))] (G, I1, L)) (fun v8 h7 => mbool v8 (some (.inl (some (.int v8)), h7))) mthr)) := by
    rw [q_X4_readClause_, e_X4_readClause_0]
    simp only [↓vX lX, ↓mcI_of c1, if_neg (show ¬ Int32.ofNat 7 = -1 by decide), e_X4_readClause_22, ↓vH lH, ↓mcI_of ma, c4]
  -- the reference's word
  obtain ⟨J1, g1, g2, g3, g4⟩ := rk_word (r + 3) (K := K) lM q2
  have j5 : J1 219 5 = Int32.ofNat (skb B e a) := g3.2.1
  have j221 : J1 221 = J 221 := g2.1 221 (by decide)
  have fi := r_fine (r + 4) (K := K) lM g3.2.2.2.2.1
  have er : mcal mT (r + 6) 196 [.ref 219] (G2, J, K) = f_X12_readClause (r + 5) 157 [.ref 219, .long (Int64.ofNat (whs B (skb B e a) (wde B e a))), mU, .int 2, mU, mU, mU] [] (G2, J1, K) := by
    rw [q_X12_readClause_, e_X12_readClause_0]
    simp only [↓vM lM, ↓mcL_of g1, ↓mcL_of (o_snap (r + 4)), if_neg (N wd_snap lt_snap (by decide)), e_X12_readClause_19, ↓mcL_of (o_slow (r + 4)), if_pos P, e_X12_readClause_48, if_pos (show (0 : Int32) < 2 by decide), e_X12_readClause_133, e_X12_readClause_138, if_neg z1]
  have j165 : J1 221 165 = Int32.ofNat c := by rw [j221]; exact a2
  have j163 : J1 221 163 = Int32.ofNat nr := by rw [j221]; exact a5
  have j164 : J1 221 164 = Int32.ofNat n := by rw [j221]; exact a8
  by_cases tm : c = 40 ∨ (7 = 0 ∧ nr = 8) ∨ (7 = 5 ∧ n = 8)
  · -- one too many
    obtain ⟨I2, d1, d2, d3, d4⟩ := tk_fail (d + 6) (I := I1) (L := L) 3 (Int32.ofNat (skb B e a)) lX
    have w := r_wrong (r + 4) (K := K) 3 (Int32.ofNat (skb B e a)) lM g3.2.2.2.2.1
    have o3 := RdO_u (k := 6) (v := Int32.ofNat (skb B e a)) g2 (by omega)
    have o4 := RdO_u (k := 7) (v := 3) o3 (by omega)
    rw [up_eq, up_up] at o4
    have nf := r_fineN (r + 4) (G := G2) (J := va_up J1 219 (va_up (va_up (J1 219) 6 (Int32.ofNat (skb B e a))) 7 3)) (K := K) lM (by rw [up_eq, up_ne (by decide), up_eq]; exact nm1 (by omega))
    have f216 : f_X12_readClause (r + 5) 216 [.ref 219, .long (Int64.ofNat (whs B (skb B e a) (wde B e a))), mU, .int 2, mU, mU, mU] [] (G2, J1, K) = some (.inl none, (G2, va_up J1 219 (va_up (va_up (J1 219) 6 (Int32.ofNat (skb B e a))) 7 3), K)) := by
      rw [e_X12_readClause_216]
      simp only [↓vM lM, j5, ↓mcV_of w, e_X12_readClause_225, ↓mcI_of nf, if_true]
    refine Or.inr ⟨I2, _, 3, skb B e a, ?_, ?_, d3, d4, by rw [up_eq, up_ne (by decide), up_eq], by rw [up_eq, up_eq], by omega, HcF_x (TxO_t c2 d2), HjF_x o4⟩
    · rw [ec, if_pos tm, if_neg z1]
      simp only [↓mcI_of d1, mb0]
    · rw [er, ← f216, e_X12_readClause_157]
      have c40 : c = 40 := by omega
      simp (disch := omega) only [↓vM lM, j165, c40, if_pos (show Int32.ofNat 40 = 40 from rfl)]
  · have cm : c < 40 := by omega
    have f225 : mcal mT (r + 6) 196 [.ref 219] (G2, J, K) = f_X12_readClause (r + 5) 225 [.ref 219, .long (Int64.ofNat (whs B (skb B e a) (wde B e a))), mU, .int 2, mU, mU, mU] [] (G2, J1, K) := by
      have n40 : ¬ Int32.ofNat c = 40 := fun z => by have := (i_eq (b := 40) (by omega) (by decide)).mp z; omega
      rw [er, e_X12_readClause_157]
      simp (disch := omega) only [↓vM lM, j165, if_neg n40, ↓mcL_of (o_room (r + 4)), if_neg (N wd_room lt_room (by decide)), e_X12_readClause_193, ↓mcL_of (o_radiator (r + 4)), if_neg (N wd_radiator lt_radiator (by decide))]
    -- the word passed, the clause counted
    have pa := rk_pass (r + 3) (K := K) lM _ _ J1 rfl g3
    have wq : skr (isL B) e (skb B e a) = wde B e a := rfl
    rw [wq] at pa
    have o3 := RdO_u (k := 5) (v := Int32.ofNat (wde B e a)) g2 (by omega)
    have r3 := RdR_o q2 o3 (a' := wde B e a) (by rw [up_eq, up_eq]) wb.2 (by rw [up_eq, up_ne (by decide)]; exact g3.2.2.2.2.1)
    generalize hJ2 : va_up J1 219 (va_up (J1 219) 5 (Int32.ofNat (wde B e a))) = J2 at pa o3 r3
    have k221 : J2 221 = J 221 := o3.1 221 (by decide)
    have k165 : J2 221 165 = Int32.ofNat c := by rw [k221]; exact a2
    have qh : PrH B e (wde B e a) x nr n (c + 1) (va_up I1 (x + 0) (va_up (I1 x) 0 (Int32.ofNat (c + 1)))) (va_up J2 221 (va_up (J2 221) 165 (Int32.ofNat (c + 1)))) := by
      refine ⟨TxR_u c3 q4, RdR_u r3, ?_, q4, by rw [up_ne (by omega), c5 7 (by decide)]; exact q5⟩
      rw [hrw_u, up_eq, hrw_o c2 q4, k221, show I1 x = I x from c2.1 x (by omega)]
      exact Hr_clause q3 cm
    have k := kr_tap (kd := 2) d r (L := L) (K := K) lX lH lM qh (by decide)
    generalize hI2 : va_up I1 (x + 0) (va_up (I1 x) 0 (Int32.ofNat (c + 1))) = I2 at k qh
    generalize hJ3 : va_up J2 221 (va_up (J2 221) 165 (Int32.ofNat (c + 1))) = J3 at k qh
    have k' := OutK_m (X2 := mcal mT (d + 7) 37 [.ref x, .ref 101, .int (Int32.ofNat 7)] (G, I2, L)) k (fun v Ix hv hX => by
      rw [q_X4_readNumbers_, e_X4_readNumbers_0, if_neg (by decide), if_neg (by decide), if_neg (by decide), if_neg (by decide), if_neg (by decide), if_neg (by decide), if_neg (by decide), if_pos (by decide), e_X4_readNumbers_116]
      have mv : ∀ Z : Option mO, mbool v Z = Z := fun Z => by
        rcases hv with rfl | rfl
        · exact mb0
        · exact mb1
      simp only [↓vH lH, show Int32.ofNat 7 - 5 = Int32.ofNat 2 from by decide, ↓mcI_of hX, mv])
    have t := kc_tail d r lX lM k'
    have ecl : mcal mT (d + 8) 35 [.ref x, .ref 101] (G, I, L) = mcI (mcal mT (d + 7) 37 [.ref x, .ref 101, .int (Int32.ofNat 7)] (G, I2, L)) (fun v10 h9 => (if v10 = 0 then f_X4_readClause (d + 7) 72 [mU, mU, mU] [] h9 else gk h9.1 101 11 (mcI (mcal mT (d + 7) 92 [.ref 101, .int 59] h9) (fun v12 h11 => (if v12 = 0 then f_X4_readClause (d + 7) 72 [mU, mU, mU] [] h11 else f_X4_readClause (d + 7) 73 [mU, mU, mU] [.int 1] h11)) mthr))) mthr := by
      rw [ec, if_neg tm, if_pos rfl, e_X4_readClause_40]
      simp only [↓vH lH, i0, i_one, up2_e]
      rw [show va_up I1 x (va_up (I1 x) 0 (Int32.ofNat (c + 1))) = I2 from hI2]
    have erl : mcal mT (r + 6) 196 [.ref 219] (G2, J, K) = gk G2 219 13 (mcV (mcal mT (r + 5) 195 [.ref 219, .int (Int32.ofNat 2)] (G2, J3, K)) (fun h85 => f_X12_readClause (r + 5) 528 [.ref 219, mU, mU, mU, mU, mU, mU] [] h85) mthr) := by
      rw [f225, e_X12_readClause_225]
      simp (disch := omega) only [↓vM lM, ↓mcI_of fi, if_neg z1, e_X12_readClause_233, ↓mcV_of pa, k165, i_one, show ∀ (F : Nat → Nat → Int32) v w, up2 F (219 + 2) v w = va_up F 221 (va_up (F 221) v w) from fun _ _ _ => rfl, ↓mcL_of (o_room (r + 4)), if_neg (N wd_room lt_room (by decide)), e_X12_readClause_331, ↓mcL_of (o_wall (r + 4)), if_neg (N wd_wall lt_wall (by decide)), e_X12_readClause_348, ↓mcL_of (o_outer (r + 4)), if_neg (N wd_outer lt_outer (by decide)), e_X12_readClause_384, ↓mcL_of (o_window (r + 4)), if_neg (N wd_window lt_window (by decide)), e_X12_readClause_420, ↓mcL_of (o_sun (r + 4)), if_neg (N wd_sun lt_sun (by decide)), e_X12_readClause_437, ↓mcL_of (o_radiator (r + 4)), if_neg (N wd_radiator lt_radiator (by decide)), e_X12_readClause_454, if_neg (show ¬ (2 : Int32) ≤ 0 by decide), hJ3]
      rfl
    rw [ecl, erl]
    rcases t with ⟨I4, J4, a4', m1, m2, y1, y2, y3, y4, y5, y6⟩ | ⟨I4, J4, k4, p4, y1, y2, y3, y4, y5, y6, y7, y8, y9⟩
    · exact Or.inl ⟨I4, J4, a4', m1, m2, y1, y2, y3, HcF_t (by rw [← hI2]; exact HcF_u (HcF_x c2) q4 (by decide)) y4, HjF_t (by rw [← hJ3]; exact HjF_u (HjF_x o3)) y5, by omega⟩
    · exact Or.inr ⟨I4, J4, k4, p4, y1, y2, y3, y4, y5, y6, y7, HcF_t (by rw [← hI2]; exact HcF_u (HcF_x c2) q4 (by decide)) y8, HjF_t (by rw [← hJ3]; exact HjF_u (HjF_x o3)) y9⟩
theorem kd_draught (d r : Nat) (lX : LayX G 101) (lH : LayH G x) (lM : LayM G2 219) (q : PrH B e a x nr n c I J) (hw : isw wd_draught B (skb B e a) (wde B e a)) : OutL B e a x I J G G2 L K (mcal mT (d + 8) 35 [.ref x, .ref 101] (G, I, L)) (mcal mT (r + 6) 196 [.ref 219] (G2, J, K)) (c + 1) := by
  have z1 : ¬ (1 : Int32) = 0 := by decide
  obtain ⟨q1, q2, q3, q4, q5⟩ := id q
  obtain ⟨⟨a1, a2, a3, a4, a5, a6, a7, a8, a9⟩, -⟩ := id q3
  have ae := q1.2.2.1
  have e5 := q1.2.2.2.1
  have bb := skb_b (B := B) (e := e) (a := a) ae
  have wb := wde_b (B := B) (e := e) (a := a) ae
  have lw : (wd_draught).length = wde B e a - skb B e a := hw.1
  have lw2 : 3 ≤ (wd_draught).length := by decide
  have N : ∀ w : List Nat, lets w → ¬ (wd_draught.length = w.length ∧ ∀ k, k < wd_draught.length → wd_draught.getD k 0 = w.getD k 0) → ¬ lg_cmp (Int64.ofNat (whs B (skb B e a) (wde B e a))) (Int64.ofNat (wsm w)) = 0 := fun w l h z => by
    have h' := (wd_cmp (B := B) (e := e) (a := a) l ae).mp z
    exact h ⟨hw.1.trans h'.1.symm, fun k hk => (hw.2 k hk).trans (h'.2 k (by rw [h'.1, ← hw.1]; exact hk)).symm⟩
  have P : lg_cmp (Int64.ofNat (whs B (skb B e a) (wde B e a))) (Int64.ofNat (wsm wd_draught)) = 0 := (wd_cmp (B := B) (e := e) (a := a) lt_draught ae).mpr hw
  -- the class's word
  obtain ⟨I1, c1, c2, c3, c4, c5⟩ := tw_28 (d + 5) (L := L) lX q1
  have NC : ∀ w : List Nat, ¬ (wd_draught.length = w.length ∧ ∀ k, k < wd_draught.length → wd_draught.getD k 0 = w.getD k 0) → ¬ isw w B (skb B e a) (wde B e a) := fun w h h' => h ⟨hw.1.trans h'.1.symm, fun k hk => (hw.2 k hk).trans (h'.2 k (by rw [h'.1, ← hw.1]; exact hk)).symm⟩
  rw [if_neg (NC wd_room (by decide)), if_neg (NC wd_wall (by decide)), if_neg (NC wd_outer (by decide)), if_neg (NC wd_window (by decide)), if_neg (NC wd_sun (by decide)), if_neg (NC wd_radiator (by decide)), if_neg (NC wd_snap (by decide)), if_neg (NC wd_slow (by decide)), if_pos hw] at c1
  have i0 : I1 x 0 = Int32.ofNat c := by rw [c2.1 x (by omega)]; exact a1
  have i1 : I1 x 1 = Int32.ofNat nr := by rw [c2.1 x (by omega)]; exact a4
  have i10 : I1 x 10 = Int32.ofNat n := by rw [c2.1 x (by omega)]; exact a7
  have ma := c_many (d + 6) 8 (G := G) (I := I1) (L := L) lH i0 a3 i1 a6 i10 a9 (by decide)
  have ec : mcal mT (d + 8) 35 [.ref x, .ref 101] (G, I, L) = (if (if c = 40 ∨ (8 = 0 ∧ nr = 8) ∨ (8 = 5 ∧ n = 8) then (1 : Int32) else 0) = 0 then f_X4_readClause (d + 7) 40 [.ref x, .ref 101, .int (Int32.ofNat 8)] [] (G, I1, L) else (mcI (mcal mT (d + 7) 87 [.ref 101, .int 3, .int (Int32.ofNat (skb B e a))] (G, I1, L)) (fun v8 h7 => mbool v8 (some (.inl (some (.int v8)), h7))) mthr)) := by
    rw [q_X4_readClause_, e_X4_readClause_0]
    simp only [↓vX lX, ↓mcI_of c1, if_neg (show ¬ Int32.ofNat 8 = -1 by decide), e_X4_readClause_22, ↓vH lH, ↓mcI_of ma, c4]
  -- the reference's word
  obtain ⟨J1, g1, g2, g3, g4⟩ := rk_word (r + 3) (K := K) lM q2
  have j5 : J1 219 5 = Int32.ofNat (skb B e a) := g3.2.1
  have j221 : J1 221 = J 221 := g2.1 221 (by decide)
  have fi := r_fine (r + 4) (K := K) lM g3.2.2.2.2.1
  have er : mcal mT (r + 6) 196 [.ref 219] (G2, J, K) = f_X12_readClause (r + 5) 157 [.ref 219, .long (Int64.ofNat (whs B (skb B e a) (wde B e a))), mU, .int 3, mU, mU, mU] [] (G2, J1, K) := by
    rw [q_X12_readClause_, e_X12_readClause_0]
    simp only [↓vM lM, ↓mcL_of g1, ↓mcL_of (o_snap (r + 4)), if_neg (N wd_snap lt_snap (by decide)), e_X12_readClause_19, ↓mcL_of (o_slow (r + 4)), if_neg (N wd_slow lt_slow (by decide)), e_X12_readClause_33, ↓mcL_of (o_draught (r + 4)), if_pos P, e_X12_readClause_48, if_pos (show (0 : Int32) < 3 by decide), e_X12_readClause_133, e_X12_readClause_138, if_neg z1]
  have j165 : J1 221 165 = Int32.ofNat c := by rw [j221]; exact a2
  have j163 : J1 221 163 = Int32.ofNat nr := by rw [j221]; exact a5
  have j164 : J1 221 164 = Int32.ofNat n := by rw [j221]; exact a8
  by_cases tm : c = 40 ∨ (8 = 0 ∧ nr = 8) ∨ (8 = 5 ∧ n = 8)
  · -- one too many
    obtain ⟨I2, d1, d2, d3, d4⟩ := tk_fail (d + 6) (I := I1) (L := L) 3 (Int32.ofNat (skb B e a)) lX
    have w := r_wrong (r + 4) (K := K) 3 (Int32.ofNat (skb B e a)) lM g3.2.2.2.2.1
    have o3 := RdO_u (k := 6) (v := Int32.ofNat (skb B e a)) g2 (by omega)
    have o4 := RdO_u (k := 7) (v := 3) o3 (by omega)
    rw [up_eq, up_up] at o4
    have nf := r_fineN (r + 4) (G := G2) (J := va_up J1 219 (va_up (va_up (J1 219) 6 (Int32.ofNat (skb B e a))) 7 3)) (K := K) lM (by rw [up_eq, up_ne (by decide), up_eq]; exact nm1 (by omega))
    have f216 : f_X12_readClause (r + 5) 216 [.ref 219, .long (Int64.ofNat (whs B (skb B e a) (wde B e a))), mU, .int 3, mU, mU, mU] [] (G2, J1, K) = some (.inl none, (G2, va_up J1 219 (va_up (va_up (J1 219) 6 (Int32.ofNat (skb B e a))) 7 3), K)) := by
      rw [e_X12_readClause_216]
      simp only [↓vM lM, j5, ↓mcV_of w, e_X12_readClause_225, ↓mcI_of nf, if_true]
    refine Or.inr ⟨I2, _, 3, skb B e a, ?_, ?_, d3, d4, by rw [up_eq, up_ne (by decide), up_eq], by rw [up_eq, up_eq], by omega, HcF_x (TxO_t c2 d2), HjF_x o4⟩
    · rw [ec, if_pos tm, if_neg z1]
      simp only [↓mcI_of d1, mb0]
    · rw [er, ← f216, e_X12_readClause_157]
      have c40 : c = 40 := by omega
      simp (disch := omega) only [↓vM lM, j165, c40, if_pos (show Int32.ofNat 40 = 40 from rfl)]
  · have cm : c < 40 := by omega
    have f225 : mcal mT (r + 6) 196 [.ref 219] (G2, J, K) = f_X12_readClause (r + 5) 225 [.ref 219, .long (Int64.ofNat (whs B (skb B e a) (wde B e a))), mU, .int 3, mU, mU, mU] [] (G2, J1, K) := by
      have n40 : ¬ Int32.ofNat c = 40 := fun z => by have := (i_eq (b := 40) (by omega) (by decide)).mp z; omega
      rw [er, e_X12_readClause_157]
      simp (disch := omega) only [↓vM lM, j165, if_neg n40, ↓mcL_of (o_room (r + 4)), if_neg (N wd_room lt_room (by decide)), e_X12_readClause_193, ↓mcL_of (o_radiator (r + 4)), if_neg (N wd_radiator lt_radiator (by decide))]
    -- the word passed, the clause counted
    have pa := rk_pass (r + 3) (K := K) lM _ _ J1 rfl g3
    have wq : skr (isL B) e (skb B e a) = wde B e a := rfl
    rw [wq] at pa
    have o3 := RdO_u (k := 5) (v := Int32.ofNat (wde B e a)) g2 (by omega)
    have r3 := RdR_o q2 o3 (a' := wde B e a) (by rw [up_eq, up_eq]) wb.2 (by rw [up_eq, up_ne (by decide)]; exact g3.2.2.2.2.1)
    generalize hJ2 : va_up J1 219 (va_up (J1 219) 5 (Int32.ofNat (wde B e a))) = J2 at pa o3 r3
    have k221 : J2 221 = J 221 := o3.1 221 (by decide)
    have k165 : J2 221 165 = Int32.ofNat c := by rw [k221]; exact a2
    have qh : PrH B e (wde B e a) x nr n (c + 1) (va_up I1 (x + 0) (va_up (I1 x) 0 (Int32.ofNat (c + 1)))) (va_up J2 221 (va_up (J2 221) 165 (Int32.ofNat (c + 1)))) := by
      refine ⟨TxR_u c3 q4, RdR_u r3, ?_, q4, by rw [up_ne (by omega), c5 7 (by decide)]; exact q5⟩
      rw [hrw_u, up_eq, hrw_o c2 q4, k221, show I1 x = I x from c2.1 x (by omega)]
      exact Hr_clause q3 cm
    have k := kr_tap (kd := 3) d r (L := L) (K := K) lX lH lM qh (by decide)
    generalize hI2 : va_up I1 (x + 0) (va_up (I1 x) 0 (Int32.ofNat (c + 1))) = I2 at k qh
    generalize hJ3 : va_up J2 221 (va_up (J2 221) 165 (Int32.ofNat (c + 1))) = J3 at k qh
    have k' := OutK_m (X2 := mcal mT (d + 7) 37 [.ref x, .ref 101, .int (Int32.ofNat 8)] (G, I2, L)) k (fun v Ix hv hX => by
      rw [q_X4_readNumbers_, e_X4_readNumbers_0, if_neg (by decide), if_neg (by decide), if_neg (by decide), if_neg (by decide), if_neg (by decide), if_neg (by decide), if_neg (by decide), if_neg (by decide), if_pos (by decide), e_X4_readNumbers_116]
      have mv : ∀ Z : Option mO, mbool v Z = Z := fun Z => by
        rcases hv with rfl | rfl
        · exact mb0
        · exact mb1
      simp only [↓vH lH, show Int32.ofNat 8 - 5 = Int32.ofNat 3 from by decide, ↓mcI_of hX, mv])
    have t := kc_tail d r lX lM k'
    have ecl : mcal mT (d + 8) 35 [.ref x, .ref 101] (G, I, L) = mcI (mcal mT (d + 7) 37 [.ref x, .ref 101, .int (Int32.ofNat 8)] (G, I2, L)) (fun v10 h9 => (if v10 = 0 then f_X4_readClause (d + 7) 72 [mU, mU, mU] [] h9 else gk h9.1 101 11 (mcI (mcal mT (d + 7) 92 [.ref 101, .int 59] h9) (fun v12 h11 => (if v12 = 0 then f_X4_readClause (d + 7) 72 [mU, mU, mU] [] h11 else f_X4_readClause (d + 7) 73 [mU, mU, mU] [.int 1] h11)) mthr))) mthr := by
      rw [ec, if_neg tm, if_pos rfl, e_X4_readClause_40]
      simp only [↓vH lH, i0, i_one, up2_e]
      rw [show va_up I1 x (va_up (I1 x) 0 (Int32.ofNat (c + 1))) = I2 from hI2]
    have erl : mcal mT (r + 6) 196 [.ref 219] (G2, J, K) = gk G2 219 13 (mcV (mcal mT (r + 5) 195 [.ref 219, .int (Int32.ofNat 3)] (G2, J3, K)) (fun h85 => f_X12_readClause (r + 5) 528 [.ref 219, mU, mU, mU, mU, mU, mU] [] h85) mthr) := by
      rw [f225, e_X12_readClause_225]
      simp (disch := omega) only [↓vM lM, ↓mcI_of fi, if_neg z1, e_X12_readClause_233, ↓mcV_of pa, k165, i_one, show ∀ (F : Nat → Nat → Int32) v w, up2 F (219 + 2) v w = va_up F 221 (va_up (F 221) v w) from fun _ _ _ => rfl, ↓mcL_of (o_room (r + 4)), if_neg (N wd_room lt_room (by decide)), e_X12_readClause_331, ↓mcL_of (o_wall (r + 4)), if_neg (N wd_wall lt_wall (by decide)), e_X12_readClause_348, ↓mcL_of (o_outer (r + 4)), if_neg (N wd_outer lt_outer (by decide)), e_X12_readClause_384, ↓mcL_of (o_window (r + 4)), if_neg (N wd_window lt_window (by decide)), e_X12_readClause_420, ↓mcL_of (o_sun (r + 4)), if_neg (N wd_sun lt_sun (by decide)), e_X12_readClause_437, ↓mcL_of (o_radiator (r + 4)), if_neg (N wd_radiator lt_radiator (by decide)), e_X12_readClause_454, if_neg (show ¬ (3 : Int32) ≤ 0 by decide), hJ3]
      rfl
    rw [ecl, erl]
    rcases t with ⟨I4, J4, a4', m1, m2, y1, y2, y3, y4, y5, y6⟩ | ⟨I4, J4, k4, p4, y1, y2, y3, y4, y5, y6, y7, y8, y9⟩
    · exact Or.inl ⟨I4, J4, a4', m1, m2, y1, y2, y3, HcF_t (by rw [← hI2]; exact HcF_u (HcF_x c2) q4 (by decide)) y4, HjF_t (by rw [← hJ3]; exact HjF_u (HjF_x o3)) y5, by omega⟩
    · exact Or.inr ⟨I4, J4, k4, p4, y1, y2, y3, y4, y5, y6, y7, HcF_t (by rw [← hI2]; exact HcF_u (HcF_x c2) q4 (by decide)) y8, HjF_t (by rw [← hJ3]; exact HjF_u (HjF_x o3)) y9⟩
theorem kd_pump (d r : Nat) (lX : LayX G 101) (lH : LayH G x) (lM : LayM G2 219) (q : PrH B e a x nr n c I J) (hw : isw wd_pump B (skb B e a) (wde B e a)) : OutL B e a x I J G G2 L K (mcal mT (d + 8) 35 [.ref x, .ref 101] (G, I, L)) (mcal mT (r + 6) 196 [.ref 219] (G2, J, K)) (c + 1) := by
  have z1 : ¬ (1 : Int32) = 0 := by decide
  obtain ⟨q1, q2, q3, q4, q5⟩ := id q
  obtain ⟨⟨a1, a2, a3, a4, a5, a6, a7, a8, a9⟩, -⟩ := id q3
  have ae := q1.2.2.1
  have e5 := q1.2.2.2.1
  have bb := skb_b (B := B) (e := e) (a := a) ae
  have wb := wde_b (B := B) (e := e) (a := a) ae
  have lw : (wd_pump).length = wde B e a - skb B e a := hw.1
  have lw2 : 3 ≤ (wd_pump).length := by decide
  have N : ∀ w : List Nat, lets w → ¬ (wd_pump.length = w.length ∧ ∀ k, k < wd_pump.length → wd_pump.getD k 0 = w.getD k 0) → ¬ lg_cmp (Int64.ofNat (whs B (skb B e a) (wde B e a))) (Int64.ofNat (wsm w)) = 0 := fun w l h z => by
    have h' := (wd_cmp (B := B) (e := e) (a := a) l ae).mp z
    exact h ⟨hw.1.trans h'.1.symm, fun k hk => (hw.2 k hk).trans (h'.2 k (by rw [h'.1, ← hw.1]; exact hk)).symm⟩
  have P : lg_cmp (Int64.ofNat (whs B (skb B e a) (wde B e a))) (Int64.ofNat (wsm wd_pump)) = 0 := (wd_cmp (B := B) (e := e) (a := a) lt_pump ae).mpr hw
  -- the class's word
  obtain ⟨I1, c1, c2, c3, c4, c5⟩ := tw_28 (d + 5) (L := L) lX q1
  have NC : ∀ w : List Nat, ¬ (wd_pump.length = w.length ∧ ∀ k, k < wd_pump.length → wd_pump.getD k 0 = w.getD k 0) → ¬ isw w B (skb B e a) (wde B e a) := fun w h h' => h ⟨hw.1.trans h'.1.symm, fun k hk => (hw.2 k hk).trans (h'.2 k (by rw [h'.1, ← hw.1]; exact hk)).symm⟩
  rw [if_neg (NC wd_room (by decide)), if_neg (NC wd_wall (by decide)), if_neg (NC wd_outer (by decide)), if_neg (NC wd_window (by decide)), if_neg (NC wd_sun (by decide)), if_neg (NC wd_radiator (by decide)), if_neg (NC wd_snap (by decide)), if_neg (NC wd_slow (by decide)), if_neg (NC wd_draught (by decide)), if_pos hw] at c1
  have i0 : I1 x 0 = Int32.ofNat c := by rw [c2.1 x (by omega)]; exact a1
  have i1 : I1 x 1 = Int32.ofNat nr := by rw [c2.1 x (by omega)]; exact a4
  have i10 : I1 x 10 = Int32.ofNat n := by rw [c2.1 x (by omega)]; exact a7
  have ma := c_many (d + 6) 9 (G := G) (I := I1) (L := L) lH i0 a3 i1 a6 i10 a9 (by decide)
  have ec : mcal mT (d + 8) 35 [.ref x, .ref 101] (G, I, L) = (if (if c = 40 ∨ (9 = 0 ∧ nr = 8) ∨ (9 = 5 ∧ n = 8) then (1 : Int32) else 0) = 0 then f_X4_readClause (d + 7) 40 [.ref x, .ref 101, .int (Int32.ofNat 9)] [] (G, I1, L) else (mcI (mcal mT (d + 7) 87 [.ref 101, .int 3, .int (Int32.ofNat (skb B e a))] (G, I1, L)) (fun v8 h7 => mbool v8 (some (.inl (some (.int v8)), h7))) mthr)) := by
    rw [q_X4_readClause_, e_X4_readClause_0]
    simp only [↓vX lX, ↓mcI_of c1, if_neg (show ¬ Int32.ofNat 9 = -1 by decide), e_X4_readClause_22, ↓vH lH, ↓mcI_of ma, c4]
  -- the reference's word
  obtain ⟨J1, g1, g2, g3, g4⟩ := rk_word (r + 3) (K := K) lM q2
  have j5 : J1 219 5 = Int32.ofNat (skb B e a) := g3.2.1
  have j221 : J1 221 = J 221 := g2.1 221 (by decide)
  have fi := r_fine (r + 4) (K := K) lM g3.2.2.2.2.1
  have er : mcal mT (r + 6) 196 [.ref 219] (G2, J, K) = f_X12_readClause (r + 5) 157 [.ref 219, .long (Int64.ofNat (whs B (skb B e a) (wde B e a))), mU, .int 0, mU, mU, mU] [] (G2, J1, K) := by
    rw [q_X12_readClause_, e_X12_readClause_0]
    simp only [↓vM lM, ↓mcL_of g1, ↓mcL_of (o_snap (r + 4)), if_neg (N wd_snap lt_snap (by decide)), e_X12_readClause_19, ↓mcL_of (o_slow (r + 4)), if_neg (N wd_slow lt_slow (by decide)), e_X12_readClause_33, ↓mcL_of (o_draught (r + 4)), if_neg (N wd_draught lt_draught (by decide)), e_X12_readClause_47, e_X12_readClause_48, if_neg (show ¬ (0 : Int32) < 0 by decide), ↓mcL_of (o_room (r + 4)), if_neg (N wd_room lt_room (by decide)), ↓mcL_of (o_wall (r + 4)), if_neg (N wd_wall lt_wall (by decide)), ↓mcL_of (o_outer (r + 4)), if_neg (N wd_outer lt_outer (by decide)), ↓mcL_of (o_window (r + 4)), if_neg (N wd_window lt_window (by decide)), ↓mcL_of (o_sun (r + 4)), if_neg (N wd_sun lt_sun (by decide)), ↓mcL_of (o_radiator (r + 4)), if_neg (N wd_radiator lt_radiator (by decide)), ↓mcL_of (o_pump (r + 4)), if_pos P, e_X12_readClause_133, e_X12_readClause_138, if_neg z1]
  have j165 : J1 221 165 = Int32.ofNat c := by rw [j221]; exact a2
  have j163 : J1 221 163 = Int32.ofNat nr := by rw [j221]; exact a5
  have j164 : J1 221 164 = Int32.ofNat n := by rw [j221]; exact a8
  by_cases tm : c = 40 ∨ (9 = 0 ∧ nr = 8) ∨ (9 = 5 ∧ n = 8)
  · -- one too many
    obtain ⟨I2, d1, d2, d3, d4⟩ := tk_fail (d + 6) (I := I1) (L := L) 3 (Int32.ofNat (skb B e a)) lX
    have w := r_wrong (r + 4) (K := K) 3 (Int32.ofNat (skb B e a)) lM g3.2.2.2.2.1
    have o3 := RdO_u (k := 6) (v := Int32.ofNat (skb B e a)) g2 (by omega)
    have o4 := RdO_u (k := 7) (v := 3) o3 (by omega)
    rw [up_eq, up_up] at o4
    have nf := r_fineN (r + 4) (G := G2) (J := va_up J1 219 (va_up (va_up (J1 219) 6 (Int32.ofNat (skb B e a))) 7 3)) (K := K) lM (by rw [up_eq, up_ne (by decide), up_eq]; exact nm1 (by omega))
    have f216 : f_X12_readClause (r + 5) 216 [.ref 219, .long (Int64.ofNat (whs B (skb B e a) (wde B e a))), mU, .int 0, mU, mU, mU] [] (G2, J1, K) = some (.inl none, (G2, va_up J1 219 (va_up (va_up (J1 219) 6 (Int32.ofNat (skb B e a))) 7 3), K)) := by
      rw [e_X12_readClause_216]
      simp only [↓vM lM, j5, ↓mcV_of w, e_X12_readClause_225, ↓mcI_of nf, if_true]
    refine Or.inr ⟨I2, _, 3, skb B e a, ?_, ?_, d3, d4, by rw [up_eq, up_ne (by decide), up_eq], by rw [up_eq, up_eq], by omega, HcF_x (TxO_t c2 d2), HjF_x o4⟩
    · rw [ec, if_pos tm, if_neg z1]
      simp only [↓mcI_of d1, mb0]
    · rw [er, ← f216, e_X12_readClause_157]
      have c40 : c = 40 := by omega
      simp (disch := omega) only [↓vM lM, j165, c40, if_pos (show Int32.ofNat 40 = 40 from rfl)]
  · have cm : c < 40 := by omega
    have f225 : mcal mT (r + 6) 196 [.ref 219] (G2, J, K) = f_X12_readClause (r + 5) 225 [.ref 219, .long (Int64.ofNat (whs B (skb B e a) (wde B e a))), mU, .int 0, mU, mU, mU] [] (G2, J1, K) := by
      have n40 : ¬ Int32.ofNat c = 40 := fun z => by have := (i_eq (b := 40) (by omega) (by decide)).mp z; omega
      rw [er, e_X12_readClause_157]
      simp (disch := omega) only [↓vM lM, j165, if_neg n40, ↓mcL_of (o_room (r + 4)), if_neg (N wd_room lt_room (by decide)), e_X12_readClause_193, ↓mcL_of (o_radiator (r + 4)), if_neg (N wd_radiator lt_radiator (by decide))]
    -- the word passed, the clause counted
    have pa := rk_pass (r + 3) (K := K) lM _ _ J1 rfl g3
    have wq : skr (isL B) e (skb B e a) = wde B e a := rfl
    rw [wq] at pa
    have o3 := RdO_u (k := 5) (v := Int32.ofNat (wde B e a)) g2 (by omega)
    have r3 := RdR_o q2 o3 (a' := wde B e a) (by rw [up_eq, up_eq]) wb.2 (by rw [up_eq, up_ne (by decide)]; exact g3.2.2.2.2.1)
    generalize hJ2 : va_up J1 219 (va_up (J1 219) 5 (Int32.ofNat (wde B e a))) = J2 at pa o3 r3
    have k221 : J2 221 = J 221 := o3.1 221 (by decide)
    have k165 : J2 221 165 = Int32.ofNat c := by rw [k221]; exact a2
    have qh : PrH B e (wde B e a) x nr n (c + 1) (va_up I1 (x + 0) (va_up (I1 x) 0 (Int32.ofNat (c + 1)))) (va_up J2 221 (va_up (J2 221) 165 (Int32.ofNat (c + 1)))) := by
      refine ⟨TxR_u c3 q4, RdR_u r3, ?_, q4, by rw [up_ne (by omega), c5 7 (by decide)]; exact q5⟩
      rw [hrw_u, up_eq, hrw_o c2 q4, k221, show I1 x = I x from c2.1 x (by omega)]
      exact Hr_clause q3 cm
    have k := kr_pump d r (L := L) (K := K) lX lH lM qh
    generalize hI2 : va_up I1 (x + 0) (va_up (I1 x) 0 (Int32.ofNat (c + 1))) = I2 at k qh
    generalize hJ3 : va_up J2 221 (va_up (J2 221) 165 (Int32.ofNat (c + 1))) = J3 at k qh
    have k' := OutK_m (X2 := mcal mT (d + 7) 37 [.ref x, .ref 101, .int (Int32.ofNat 9)] (G, I2, L)) k (fun v Ix hv hX => by
      rw [q_X4_readNumbers_, e_X4_readNumbers_0, if_neg (by decide), if_neg (by decide), if_neg (by decide), if_neg (by decide), if_neg (by decide), if_neg (by decide), if_neg (by decide), if_neg (by decide), if_neg (by decide), if_pos (by decide), e_X4_readNumbers_104]
      have mv : ∀ Z : Option mO, mbool v Z = Z := fun Z => by
        rcases hv with rfl | rfl
        · exact mb0
        · exact mb1
      simp only [↓vH lH, ↓mcI_of hX, mv])
    have t := kc_tail d r lX lM k'
    have ecl : mcal mT (d + 8) 35 [.ref x, .ref 101] (G, I, L) = mcI (mcal mT (d + 7) 37 [.ref x, .ref 101, .int (Int32.ofNat 9)] (G, I2, L)) (fun v10 h9 => (if v10 = 0 then f_X4_readClause (d + 7) 72 [mU, mU, mU] [] h9 else gk h9.1 101 11 (mcI (mcal mT (d + 7) 92 [.ref 101, .int 59] h9) (fun v12 h11 => (if v12 = 0 then f_X4_readClause (d + 7) 72 [mU, mU, mU] [] h11 else f_X4_readClause (d + 7) 73 [mU, mU, mU] [.int 1] h11)) mthr))) mthr := by
      rw [ec, if_neg tm, if_pos rfl, e_X4_readClause_40]
      simp only [↓vH lH, i0, i_one, up2_e]
      rw [show va_up I1 x (va_up (I1 x) 0 (Int32.ofNat (c + 1))) = I2 from hI2]
    have erl : mcal mT (r + 6) 196 [.ref 219] (G2, J, K) = gk G2 219 13 (gr G2 219 2 (fun b88 => gk G2 219 13 (mcI (mcal mT (r + 5) 187 [.ref 219, .int 1, .int 999] (G2, J3, K)) (fun v90 h89 => gx h89.1 b88 20 160 (fun j91 => f_X12_readClause (r + 5) 528 [.ref 219, mU, mU, mU, mU, mU, mU] [] (h89.1, (up2 h89.2.1 b88 j91 v90), h89.2.2))) mthr))) := by
      rw [f225, e_X12_readClause_225]
      simp (disch := omega) only [↓vM lM, ↓mcI_of fi, if_neg z1, e_X12_readClause_233, ↓mcV_of pa, k165, i_one, show ∀ (F : Nat → Nat → Int32) v w, up2 F (219 + 2) v w = va_up F 221 (va_up (F 221) v w) from fun _ _ _ => rfl, ↓mcL_of (o_room (r + 4)), if_neg (N wd_room lt_room (by decide)), e_X12_readClause_331, ↓mcL_of (o_wall (r + 4)), if_neg (N wd_wall lt_wall (by decide)), e_X12_readClause_348, ↓mcL_of (o_outer (r + 4)), if_neg (N wd_outer lt_outer (by decide)), e_X12_readClause_384, ↓mcL_of (o_window (r + 4)), if_neg (N wd_window lt_window (by decide)), e_X12_readClause_420, ↓mcL_of (o_sun (r + 4)), if_neg (N wd_sun lt_sun (by decide)), e_X12_readClause_437, ↓mcL_of (o_radiator (r + 4)), if_neg (N wd_radiator lt_radiator (by decide)), e_X12_readClause_454, if_pos (show (0 : Int32) ≤ 0 by decide), e_X12_readClause_466, ↓mcL_of (o_pump (r + 4)), if_pos P, hJ3]
    rw [ecl, erl]
    rcases t with ⟨I4, J4, a4', m1, m2, y1, y2, y3, y4, y5, y6⟩ | ⟨I4, J4, k4, p4, y1, y2, y3, y4, y5, y6, y7, y8, y9⟩
    · exact Or.inl ⟨I4, J4, a4', m1, m2, y1, y2, y3, HcF_t (by rw [← hI2]; exact HcF_u (HcF_x c2) q4 (by decide)) y4, HjF_t (by rw [← hJ3]; exact HjF_u (HjF_x o3)) y5, by omega⟩
    · exact Or.inr ⟨I4, J4, k4, p4, y1, y2, y3, y4, y5, y6, y7, HcF_t (by rw [← hI2]; exact HcF_u (HcF_x c2) q4 (by decide)) y8, HjF_t (by rw [← hJ3]; exact HjF_u (HjF_x o3)) y9⟩
theorem kd_boiler (d r : Nat) (lX : LayX G 101) (lH : LayH G x) (lM : LayM G2 219) (q : PrH B e a x nr n c I J) (hw : isw wd_boiler B (skb B e a) (wde B e a)) : OutL B e a x I J G G2 L K (mcal mT (d + 8) 35 [.ref x, .ref 101] (G, I, L)) (mcal mT (r + 6) 196 [.ref 219] (G2, J, K)) (c + 1) := by
  have z1 : ¬ (1 : Int32) = 0 := by decide
  obtain ⟨q1, q2, q3, q4, q5⟩ := id q
  obtain ⟨⟨a1, a2, a3, a4, a5, a6, a7, a8, a9⟩, -⟩ := id q3
  have ae := q1.2.2.1
  have e5 := q1.2.2.2.1
  have bb := skb_b (B := B) (e := e) (a := a) ae
  have wb := wde_b (B := B) (e := e) (a := a) ae
  have lw : (wd_boiler).length = wde B e a - skb B e a := hw.1
  have lw2 : 3 ≤ (wd_boiler).length := by decide
  have N : ∀ w : List Nat, lets w → ¬ (wd_boiler.length = w.length ∧ ∀ k, k < wd_boiler.length → wd_boiler.getD k 0 = w.getD k 0) → ¬ lg_cmp (Int64.ofNat (whs B (skb B e a) (wde B e a))) (Int64.ofNat (wsm w)) = 0 := fun w l h z => by
    have h' := (wd_cmp (B := B) (e := e) (a := a) l ae).mp z
    exact h ⟨hw.1.trans h'.1.symm, fun k hk => (hw.2 k hk).trans (h'.2 k (by rw [h'.1, ← hw.1]; exact hk)).symm⟩
  have P : lg_cmp (Int64.ofNat (whs B (skb B e a) (wde B e a))) (Int64.ofNat (wsm wd_boiler)) = 0 := (wd_cmp (B := B) (e := e) (a := a) lt_boiler ae).mpr hw
  -- the class's word
  obtain ⟨I1, c1, c2, c3, c4, c5⟩ := tw_28 (d + 5) (L := L) lX q1
  have NC : ∀ w : List Nat, ¬ (wd_boiler.length = w.length ∧ ∀ k, k < wd_boiler.length → wd_boiler.getD k 0 = w.getD k 0) → ¬ isw w B (skb B e a) (wde B e a) := fun w h h' => h ⟨hw.1.trans h'.1.symm, fun k hk => (hw.2 k hk).trans (h'.2 k (by rw [h'.1, ← hw.1]; exact hk)).symm⟩
  rw [if_neg (NC wd_room (by decide)), if_neg (NC wd_wall (by decide)), if_neg (NC wd_outer (by decide)), if_neg (NC wd_window (by decide)), if_neg (NC wd_sun (by decide)), if_neg (NC wd_radiator (by decide)), if_neg (NC wd_snap (by decide)), if_neg (NC wd_slow (by decide)), if_neg (NC wd_draught (by decide)), if_neg (NC wd_pump (by decide)), if_pos hw] at c1
  have i0 : I1 x 0 = Int32.ofNat c := by rw [c2.1 x (by omega)]; exact a1
  have i1 : I1 x 1 = Int32.ofNat nr := by rw [c2.1 x (by omega)]; exact a4
  have i10 : I1 x 10 = Int32.ofNat n := by rw [c2.1 x (by omega)]; exact a7
  have ma := c_many (d + 6) 10 (G := G) (I := I1) (L := L) lH i0 a3 i1 a6 i10 a9 (by decide)
  have ec : mcal mT (d + 8) 35 [.ref x, .ref 101] (G, I, L) = (if (if c = 40 ∨ (10 = 0 ∧ nr = 8) ∨ (10 = 5 ∧ n = 8) then (1 : Int32) else 0) = 0 then f_X4_readClause (d + 7) 40 [.ref x, .ref 101, .int (Int32.ofNat 10)] [] (G, I1, L) else (mcI (mcal mT (d + 7) 87 [.ref 101, .int 3, .int (Int32.ofNat (skb B e a))] (G, I1, L)) (fun v8 h7 => mbool v8 (some (.inl (some (.int v8)), h7))) mthr)) := by
    rw [q_X4_readClause_, e_X4_readClause_0]
    simp only [↓vX lX, ↓mcI_of c1, if_neg (show ¬ Int32.ofNat 10 = -1 by decide), e_X4_readClause_22, ↓vH lH, ↓mcI_of ma, c4]
  -- the reference's word
  obtain ⟨J1, g1, g2, g3, g4⟩ := rk_word (r + 3) (K := K) lM q2
  have j5 : J1 219 5 = Int32.ofNat (skb B e a) := g3.2.1
  have j221 : J1 221 = J 221 := g2.1 221 (by decide)
  have fi := r_fine (r + 4) (K := K) lM g3.2.2.2.2.1
  have er : mcal mT (r + 6) 196 [.ref 219] (G2, J, K) = f_X12_readClause (r + 5) 157 [.ref 219, .long (Int64.ofNat (whs B (skb B e a) (wde B e a))), mU, .int 0, mU, mU, mU] [] (G2, J1, K) := by
    rw [q_X12_readClause_, e_X12_readClause_0]
    simp only [↓vM lM, ↓mcL_of g1, ↓mcL_of (o_snap (r + 4)), if_neg (N wd_snap lt_snap (by decide)), e_X12_readClause_19, ↓mcL_of (o_slow (r + 4)), if_neg (N wd_slow lt_slow (by decide)), e_X12_readClause_33, ↓mcL_of (o_draught (r + 4)), if_neg (N wd_draught lt_draught (by decide)), e_X12_readClause_47, e_X12_readClause_48, if_neg (show ¬ (0 : Int32) < 0 by decide), ↓mcL_of (o_room (r + 4)), if_neg (N wd_room lt_room (by decide)), ↓mcL_of (o_wall (r + 4)), if_neg (N wd_wall lt_wall (by decide)), ↓mcL_of (o_outer (r + 4)), if_neg (N wd_outer lt_outer (by decide)), ↓mcL_of (o_window (r + 4)), if_neg (N wd_window lt_window (by decide)), ↓mcL_of (o_sun (r + 4)), if_neg (N wd_sun lt_sun (by decide)), ↓mcL_of (o_radiator (r + 4)), if_neg (N wd_radiator lt_radiator (by decide)), ↓mcL_of (o_pump (r + 4)), if_neg (N wd_pump lt_pump (by decide)), ↓mcL_of (o_boiler (r + 4)), if_pos P, e_X12_readClause_133, e_X12_readClause_138, if_neg z1]
  have j165 : J1 221 165 = Int32.ofNat c := by rw [j221]; exact a2
  have j163 : J1 221 163 = Int32.ofNat nr := by rw [j221]; exact a5
  have j164 : J1 221 164 = Int32.ofNat n := by rw [j221]; exact a8
  by_cases tm : c = 40 ∨ (10 = 0 ∧ nr = 8) ∨ (10 = 5 ∧ n = 8)
  · -- one too many
    obtain ⟨I2, d1, d2, d3, d4⟩ := tk_fail (d + 6) (I := I1) (L := L) 3 (Int32.ofNat (skb B e a)) lX
    have w := r_wrong (r + 4) (K := K) 3 (Int32.ofNat (skb B e a)) lM g3.2.2.2.2.1
    have o3 := RdO_u (k := 6) (v := Int32.ofNat (skb B e a)) g2 (by omega)
    have o4 := RdO_u (k := 7) (v := 3) o3 (by omega)
    rw [up_eq, up_up] at o4
    have nf := r_fineN (r + 4) (G := G2) (J := va_up J1 219 (va_up (va_up (J1 219) 6 (Int32.ofNat (skb B e a))) 7 3)) (K := K) lM (by rw [up_eq, up_ne (by decide), up_eq]; exact nm1 (by omega))
    have f216 : f_X12_readClause (r + 5) 216 [.ref 219, .long (Int64.ofNat (whs B (skb B e a) (wde B e a))), mU, .int 0, mU, mU, mU] [] (G2, J1, K) = some (.inl none, (G2, va_up J1 219 (va_up (va_up (J1 219) 6 (Int32.ofNat (skb B e a))) 7 3), K)) := by
      rw [e_X12_readClause_216]
      simp only [↓vM lM, j5, ↓mcV_of w, e_X12_readClause_225, ↓mcI_of nf, if_true]
    refine Or.inr ⟨I2, _, 3, skb B e a, ?_, ?_, d3, d4, by rw [up_eq, up_ne (by decide), up_eq], by rw [up_eq, up_eq], by omega, HcF_x (TxO_t c2 d2), HjF_x o4⟩
    · rw [ec, if_pos tm, if_neg z1]
      simp only [↓mcI_of d1, mb0]
    · rw [er, ← f216, e_X12_readClause_157]
      have c40 : c = 40 := by omega
      simp (disch := omega) only [↓vM lM, j165, c40, if_pos (show Int32.ofNat 40 = 40 from rfl)]
  · have cm : c < 40 := by omega
    have f225 : mcal mT (r + 6) 196 [.ref 219] (G2, J, K) = f_X12_readClause (r + 5) 225 [.ref 219, .long (Int64.ofNat (whs B (skb B e a) (wde B e a))), mU, .int 0, mU, mU, mU] [] (G2, J1, K) := by
      have n40 : ¬ Int32.ofNat c = 40 := fun z => by have := (i_eq (b := 40) (by omega) (by decide)).mp z; omega
      rw [er, e_X12_readClause_157]
      simp (disch := omega) only [↓vM lM, j165, if_neg n40, ↓mcL_of (o_room (r + 4)), if_neg (N wd_room lt_room (by decide)), e_X12_readClause_193, ↓mcL_of (o_radiator (r + 4)), if_neg (N wd_radiator lt_radiator (by decide))]
    -- the word passed, the clause counted
    have pa := rk_pass (r + 3) (K := K) lM _ _ J1 rfl g3
    have wq : skr (isL B) e (skb B e a) = wde B e a := rfl
    rw [wq] at pa
    have o3 := RdO_u (k := 5) (v := Int32.ofNat (wde B e a)) g2 (by omega)
    have r3 := RdR_o q2 o3 (a' := wde B e a) (by rw [up_eq, up_eq]) wb.2 (by rw [up_eq, up_ne (by decide)]; exact g3.2.2.2.2.1)
    generalize hJ2 : va_up J1 219 (va_up (J1 219) 5 (Int32.ofNat (wde B e a))) = J2 at pa o3 r3
    have k221 : J2 221 = J 221 := o3.1 221 (by decide)
    have k165 : J2 221 165 = Int32.ofNat c := by rw [k221]; exact a2
    have qh : PrH B e (wde B e a) x nr n (c + 1) (va_up I1 (x + 0) (va_up (I1 x) 0 (Int32.ofNat (c + 1)))) (va_up J2 221 (va_up (J2 221) 165 (Int32.ofNat (c + 1)))) := by
      refine ⟨TxR_u c3 q4, RdR_u r3, ?_, q4, by rw [up_ne (by omega), c5 7 (by decide)]; exact q5⟩
      rw [hrw_u, up_eq, hrw_o c2 q4, k221, show I1 x = I x from c2.1 x (by omega)]
      exact Hr_clause q3 cm
    have k := kr_boil d r (L := L) (K := K) lX lH lM qh
    generalize hI2 : va_up I1 (x + 0) (va_up (I1 x) 0 (Int32.ofNat (c + 1))) = I2 at k qh
    generalize hJ3 : va_up J2 221 (va_up (J2 221) 165 (Int32.ofNat (c + 1))) = J3 at k qh
    have k' := OutK_m (X2 := mcal mT (d + 7) 37 [.ref x, .ref 101, .int (Int32.ofNat 10)] (G, I2, L)) k (fun v Ix hv hX => by
      rw [q_X4_readNumbers_, e_X4_readNumbers_0, if_neg (by decide), if_neg (by decide), if_neg (by decide), if_neg (by decide), if_neg (by decide), if_neg (by decide), if_neg (by decide), if_neg (by decide), if_neg (by decide), if_neg (by decide), if_pos (by decide), e_X4_readNumbers_110]
      have mv : ∀ Z : Option mO, mbool v Z = Z := fun Z => by
        rcases hv with rfl | rfl
        · exact mb0
        · exact mb1
      simp only [↓vH lH, ↓mcI_of hX, mv])
    have t := kc_tail d r lX lM k'
    have ecl : mcal mT (d + 8) 35 [.ref x, .ref 101] (G, I, L) = mcI (mcal mT (d + 7) 37 [.ref x, .ref 101, .int (Int32.ofNat 10)] (G, I2, L)) (fun v10 h9 => (if v10 = 0 then f_X4_readClause (d + 7) 72 [mU, mU, mU] [] h9 else gk h9.1 101 11 (mcI (mcal mT (d + 7) 92 [.ref 101, .int 59] h9) (fun v12 h11 => (if v12 = 0 then f_X4_readClause (d + 7) 72 [mU, mU, mU] [] h11 else f_X4_readClause (d + 7) 73 [mU, mU, mU] [.int 1] h11)) mthr))) mthr := by
      rw [ec, if_neg tm, if_pos rfl, e_X4_readClause_40]
      simp only [↓vH lH, i0, i_one, up2_e]
      rw [show va_up I1 x (va_up (I1 x) 0 (Int32.ofNat (c + 1))) = I2 from hI2]
    have erl : mcal mT (r + 6) 196 [.ref 219] (G2, J, K) = f_X12_readClause (r + 5) 495 [.ref 219, mU, mU, mU, mU, mU, mU] [] (G2, J3, K) := by
      rw [f225, e_X12_readClause_225]
      simp (disch := omega) only [↓vM lM, ↓mcI_of fi, if_neg z1, e_X12_readClause_233, ↓mcV_of pa, k165, i_one, show ∀ (F : Nat → Nat → Int32) v w, up2 F (219 + 2) v w = va_up F 221 (va_up (F 221) v w) from fun _ _ _ => rfl, ↓mcL_of (o_room (r + 4)), if_neg (N wd_room lt_room (by decide)), e_X12_readClause_331, ↓mcL_of (o_wall (r + 4)), if_neg (N wd_wall lt_wall (by decide)), e_X12_readClause_348, ↓mcL_of (o_outer (r + 4)), if_neg (N wd_outer lt_outer (by decide)), e_X12_readClause_384, ↓mcL_of (o_window (r + 4)), if_neg (N wd_window lt_window (by decide)), e_X12_readClause_420, ↓mcL_of (o_sun (r + 4)), if_neg (N wd_sun lt_sun (by decide)), e_X12_readClause_437, ↓mcL_of (o_radiator (r + 4)), if_neg (N wd_radiator lt_radiator (by decide)), e_X12_readClause_454, if_pos (show (0 : Int32) ≤ 0 by decide), e_X12_readClause_466, ↓mcL_of (o_pump (r + 4)), if_neg (N wd_pump lt_pump (by decide)), hJ3]
    rw [ecl, erl]
    rcases t with ⟨I4, J4, a4', m1, m2, y1, y2, y3, y4, y5, y6⟩ | ⟨I4, J4, k4, p4, y1, y2, y3, y4, y5, y6, y7, y8, y9⟩
    · exact Or.inl ⟨I4, J4, a4', m1, m2, y1, y2, y3, HcF_t (by rw [← hI2]; exact HcF_u (HcF_x c2) q4 (by decide)) y4, HjF_t (by rw [← hJ3]; exact HjF_u (HjF_x o3)) y5, by omega⟩
    · exact Or.inr ⟨I4, J4, k4, p4, y1, y2, y3, y4, y5, y6, y7, HcF_t (by rw [← hI2]; exact HcF_u (HcF_x c2) q4 (by decide)) y8, HjF_t (by rw [← hJ3]; exact HjF_u (HjF_x o3)) y9⟩
/-- a clause -/
theorem kc_all (d r : Nat) (lX : LayX G 101) (lH : LayH G x) (lM : LayM G2 219) (q : PrH B e a x nr n c I J) : OutL B e a x I J G G2 L K (mcal mT (d + 8) 35 [.ref x, .ref 101] (G, I, L)) (mcal mT (r + 6) 196 [.ref 219] (G2, J, K)) (c + 1) := by
  by_cases h0 : isw wd_room B (skb B e a) (wde B e a)
  · exact kd_room d r lX lH lM q h0
  by_cases h1 : isw wd_wall B (skb B e a) (wde B e a)
  · exact kd_wall d r lX lH lM q h1
  by_cases h2 : isw wd_outer B (skb B e a) (wde B e a)
  · exact kd_outer d r lX lH lM q h2
  by_cases h3 : isw wd_window B (skb B e a) (wde B e a)
  · exact kd_window d r lX lH lM q h3
  by_cases h4 : isw wd_sun B (skb B e a) (wde B e a)
  · exact kd_sun d r lX lH lM q h4
  by_cases h5 : isw wd_radiator B (skb B e a) (wde B e a)
  · exact kd_radiator d r lX lH lM q h5
  by_cases h6 : isw wd_snap B (skb B e a) (wde B e a)
  · exact kd_snap d r lX lH lM q h6
  by_cases h7 : isw wd_slow B (skb B e a) (wde B e a)
  · exact kd_slow d r lX lH lM q h7
  by_cases h8 : isw wd_draught B (skb B e a) (wde B e a)
  · exact kd_draught d r lX lH lM q h8
  by_cases h9 : isw wd_pump B (skb B e a) (wde B e a)
  · exact kd_pump d r lX lH lM q h9
  by_cases h10 : isw wd_boiler B (skb B e a) (wde B e a)
  · exact kd_boiler d r lX lH lM q h10
  have z1 : ¬ (1 : Int32) = 0 := by decide
  obtain ⟨q1, q2, q3, q4, q5⟩ := id q
  have ae := q1.2.2.1
  have e5 := q1.2.2.2.1
  have bb := skb_b (B := B) (e := e) (a := a) ae
  obtain ⟨I1, c1, c2, c3, c4, c5⟩ := tw_28 (d + 5) (L := L) lX q1
  rw [if_neg h0, if_neg h1, if_neg h2, if_neg h3, if_neg h4, if_neg h5, if_neg h6, if_neg h7, if_neg h8, if_neg h9, if_neg h10] at c1
  obtain ⟨J1, g1, g2, g3, g4⟩ := rk_word (r + 3) (K := K) lM q2
  have j5 : J1 219 5 = Int32.ofNat (skb B e a) := g3.2.1
  obtain ⟨I2, d1, d2, d3, d4⟩ := tk_fail (d + 6) (I := I1) (L := L) 1 (Int32.ofNat (skb B e a)) lX
  have w := r_wrong (r + 4) (K := K) 1 (Int32.ofNat (skb B e a)) lM g3.2.2.2.2.1
  have o3 := RdO_u (k := 6) (v := Int32.ofNat (skb B e a)) g2 (by omega)
  have o4 := RdO_u (k := 7) (v := 1) o3 (by omega)
  rw [up_eq, up_up] at o4
  have nf := r_fineN (r + 4) (G := G2) (J := va_up J1 219 (va_up (va_up (J1 219) 6 (Int32.ofNat (skb B e a))) 7 1)) (K := K) lM (by rw [up_eq, up_ne (by decide), up_eq]; exact nm1 (by omega))
  refine Or.inr ⟨I2, va_up J1 219 (va_up (va_up (J1 219) 6 (Int32.ofNat (skb B e a))) 7 1), 1, skb B e a, ?_, ?_, d3, d4, by rw [up_eq, up_ne (by decide), up_eq], by rw [up_eq, up_eq], by omega, HcF_x (TxO_t c2 d2), HjF_x o4⟩
  · rw [q_X4_readClause_, e_X4_readClause_0]
    simp only [↓vX lX, ↓mcI_of c1, if_true, c4, ↓mcI_of d1, mb0]
  · rw [q_X12_readClause_, e_X12_readClause_0]
    simp only [↓vM lM, ↓mcL_of g1, ↓mcL_of (o_snap (r + 4)), if_neg (fun z => h6 ((wd_cmp lt_snap ae).mp z)), e_X12_readClause_19, ↓mcL_of (o_slow (r + 4)), if_neg (fun z => h7 ((wd_cmp lt_slow ae).mp z)), e_X12_readClause_33, ↓mcL_of (o_draught (r + 4)), if_neg (fun z => h8 ((wd_cmp lt_draught ae).mp z)), e_X12_readClause_47, e_X12_readClause_48, if_neg (show ¬ (0 : Int32) < 0 by decide), ↓mcL_of (o_room (r + 4)), if_neg (fun z => h0 ((wd_cmp lt_room ae).mp z)), ↓mcL_of (o_wall (r + 4)), if_neg (fun z => h1 ((wd_cmp lt_wall ae).mp z)), ↓mcL_of (o_outer (r + 4)), if_neg (fun z => h2 ((wd_cmp lt_outer ae).mp z)), ↓mcL_of (o_window (r + 4)), if_neg (fun z => h3 ((wd_cmp lt_window ae).mp z)), ↓mcL_of (o_sun (r + 4)), if_neg (fun z => h4 ((wd_cmp lt_sun ae).mp z)), ↓mcL_of (o_radiator (r + 4)), if_neg (fun z => h5 ((wd_cmp lt_radiator ae).mp z)), ↓mcL_of (o_pump (r + 4)), if_neg (fun z => h9 ((wd_cmp lt_pump ae).mp z)), ↓mcL_of (o_boiler (r + 4)), if_neg (fun z => h10 ((wd_cmp lt_boiler ae).mp z)), e_X12_readClause_137, e_X12_readClause_138, if_true, j5, ↓mcV_of w, e_X12_readClause_225, ↓mcI_of nf]
end
