/-! the words of bills: units, and the whole -/
section
variable {G G2 : mG} {I J : Nat → Nat → Int32} {L K : Nat → Nat → Int64} {B : Nat → Nat} {b e a t s : Nat}
/-- depth told anew -/
theorem PrS_d {t' : Nat} {J' : Nat → Nat → Int32} (q : PrS B b e a t s I J) (h : ∀ x, x ≠ 219 → J' x = J x) (h9 : ∀ k, k ≠ 8 → J' 219 k = J 219 k) (h8 : J' 219 8 = Int32.ofNat t') : PrS B b e a t' s I J' := by
  obtain ⟨q1, ⟨r1, r2, r3, r4, r5, r6⟩, q3, ⟨c1, c2, c3⟩, q5, q6, q7, q8⟩ := q
  refine ⟨q1, ⟨by rw [h9 4 (by decide)]; exact r1, by rw [h9 5 (by decide)]; exact r2, r3, r4, by rw [h9 6 (by decide)]; exact r5, by rw [h 222 (by decide)]; exact r6⟩, h8, ⟨c1, by rw [h9 37 (by decide)]; exact c2, by rw [h 237 (by decide), h 238 (by decide)]; exact c3⟩, q5, q6, q7, q8⟩
theorem BlJ_u {J J' : Nat → Nat → Int32} {k : Nat} {v : Int32} (x : BlJ J J') (h : k = 5 ∨ k = 6 ∨ k = 7 ∨ k = 8 ∨ k = 37) : BlJ J (va_up J' 219 (va_up (J' 219) k v)) := ⟨fun a h1 h2 h3 => by rw [up_ne h1]; exact x.1 a h1 h2 h3, fun j h1 h2 h3 h4 h5 => by rw [up_eq, up_ne (by omega)]; exact x.2 j h1 h2 h3 h4 h5⟩
/-- a number, written down -/
theorem un_num (d r D : Nat) (hD : 1 ≤ D) (lX : LayX G 101) (lW : LayW G 1 b) (lM : LayM G2 219) (q : PrS B b e a t s I J) (hpp : skb B e a = a) : OutB B b e a t s I J G G2 L K (mcI (mcal mT (d + 5) 94 [.ref 101, .int 0, .int 9999] (G, I, L)) (fun v12 h11 => (if v12 = 0 then mbool 0 (some (.inl (some (.int 0)), h11)) else f_X0_readUnit (d + 5) 71 [.ref b, .ref 101, mU, mU] [] h11)) mthr) (mcI (mcal mT (r + 5) 187 [.ref 219, .int 0, .int 9999] (G2, J, K)) (fun v8 h7 => gk h7.1 219 13 (mcV (mcal mT (r + 5) 260 [.ref 219, .int 0, .int v8] h7) (fun h9 => some (.inl none, h9)) mthr)) mthr) (fun J' a' s' => a < a' ∧ s < s' ∧ Sgm (wJ J') s s' D) := by
  obtain ⟨q1, q2, q3, q4, q5, q6, q7, q8⟩ := id q
  have z1 : ¬ (1 : Int32) = 0 := by decide
  have ae := q1.2.2.1
  have lC := lW.2.2
  have h1 := tk_num (d + 3) (L := L) (lo := 0) (h1 := 10000) lX q1 (by decide) (by decide)
  have h2 := rk_num (r + 3) (K := K) (lo := 0) (h1 := 10000) lM q2 (by decide) (by decide)
  rw [hpp] at h1 h2
  have nb := nme_b (B := B) (e := e) (a := a) ae
  rw [hpp] at nb
  have e9 : Int32.ofNat 10000 - 1 = 9999 := by decide
  rw [e9] at h1 h2
  rcases h1 with ⟨n1, I1, c1, c2, c3, c4⟩ | ⟨n1, n2, I1, c1, c2, c3, c4, c5, c6⟩ | ⟨n1, n2, I1, c1, c2, c3, c4⟩
  · rcases h2 with ⟨m1, J1, e1, e2, e3, e4⟩ | ⟨m1, -⟩ | ⟨m1, -⟩
    · have nf : ¬ J1 219 6 = -1 := by rw [e3]; exact nm1 (by omega)
      refine OutB_f (I' := I1) (J' := J1) (k := 1) (p := a) ?_ ?_ c3 c4 e3 e4 (by omega) (BlC_x q7 c2) (BlJ_x e2)
      · refine (mcI_of c1 _ _).trans ?_
        rw [if_pos rfl, mb0]
      · refine (mcI_of e1 _ _).trans ?_
        simp only [↓vM lM, ↓mcV_of (r_emitN (r + 3) (K := K) 0 0 lM nf)]
    · exact absurd n1 m1
    · exact absurd n1 m1
  · rcases h2 with ⟨m1, -⟩ | ⟨m1, m2, J1, e1, e2, e3, e4⟩ | ⟨m1, m2, -⟩
    · exact absurd m1 n1
    · have q' := PrS_x q c2 e2 c3 e3 nb.1 (c6 7 (by decide))
      obtain ⟨I2, J2, y1, y2, y3, y4, y5, y6, y7⟩ := em_pair (d + 4) (r + 3) (w := 0) (N := Int32.ofNat (nmn B e a)) (L := L) (K := K) lW lM q' (by omega) (by decide) (by unfold irng; rw [i_of (by omega)]; omega)
      rw [if_pos rfl] at y1
      refine Or.inl ⟨I2, J2, nme B e a, s + 1, ?_, ?_, y3, BlC_t (BlC_x q7 c2) y4, BlJ_t (BlJ_x e2) y5, SaR_t (SaR_x e2) (Nat.le_refl _) y6, nb.1, Nat.le_succ _, by omega, by omega, Nat.lt_succ_self _, Sgm_1 (by rw [y7]; decide) hD⟩
      · refine (mcI_of c1 _ _).trans ?_
        rw [if_neg z1, e_X0_readUnit_71]
        simp only [↓vW lW, ↓vX lX, ↓vC lC, c4, ↓mcV_of y1, mb1]
      · refine (mcI_of e1 _ _).trans ?_
        have y2' : mcal mT (r + 5) 260 [.ref 219, .int 0, .int (Int32.ofNat (nmn B e a))] (G2, J1, K) = some (.inl none, (G2, J2, K)) := y2
        simp only [↓vM lM, ↓mcV_of y2']
    · exact absurd n2 m2
  · rcases h2 with ⟨m1, -⟩ | ⟨m1, m2, -⟩ | ⟨m1, m2, J1, e1, e2, e3, e4⟩
    · exact absurd m1 n1
    · exact absurd m2 n2
    · have nf : ¬ J1 219 6 = -1 := by rw [e3]; exact nm1 (by omega)
      refine OutB_f (I' := I1) (J' := J1) (k := 2) (p := a) ?_ ?_ c3 c4 e3 e4 (by omega) (BlC_x q7 c2) (BlJ_x e2)
      · refine (mcI_of c1 _ _).trans ?_
        rw [if_pos rfl, mb0]
      · refine (mcI_of e1 _ _).trans ?_
        simp only [↓vM lM, ↓mcV_of (r_emitN (r + 3) (K := K) 0 0 lM nf)]
/-- a name, written down -/
theorem un_word (d r D : Nat) (hD : 1 ≤ D) (lX : LayX G 101) (lW : LayW G 1 b) (lM : LayM G2 219) (q : PrS B b e a t s I J) (hpp : skb B e a = a) : OutB B b e a t s I J G G2 L K (f_X0_readUnit (d + 5) 84 [.ref b, .ref 101, mU, mU] [] (G, I, L)) (f_X12_unit (r + 5) 99 [.ref 219, mU, mU, mU, mU] [] (G2, J, K)) (fun J' a' s' => a < a' ∧ s < s' ∧ Sgm (wJ J') s s' D) := by
  obtain ⟨q1, q2, q3, q4, q5, q6, q7, q8⟩ := id q
  have z1 : ¬ (1 : Int32) = 0 := by decide
  have ae := q1.2.2.1
  have lC := lW.2.2
  obtain ⟨I1, c1, c2, c3, c4, c5⟩ := tw_24 (d + 3) (L := L) lX q1
  obtain ⟨J1, e1, e2, e3, e4⟩ := rk_word (r + 3) (K := K) lM q2
  have wb := wde_b (B := B) (e := e) (a := a) ae
  have cm := fun (w : List Nat) (hw : lets w) => wd_cmp (B := B) (e := e) (a := a) hw ae
  rw [hpp] at c1 c4 e1 e3 wb cm
  -- a word that is told
  have fin : ∀ i, i < 5 → f_X0_readUnit (d + 5) 84 [.ref b, .ref 101, mU, mU] [] (G, I, L) = f_X0_readUnit (d + 5) 106 [.ref b, mU, mU, .int (Int32.ofNat i)] [] (G, I1, L) → f_X12_unit (r + 5) 99 [.ref 219, mU, mU, mU, mU] [] (G2, J, K) = f_X12_unit (r + 5) 180 [.ref 219, mU, mU, mU, mU] [.int (Int32.ofNat (i + 1))] (G2, J1, K) → a < wde B e a → OutB B b e a t s I J G G2 L K (f_X0_readUnit (d + 5) 84 [.ref b, .ref 101, mU, mU] [] (G, I, L)) (f_X12_unit (r + 5) 99 [.ref 219, mU, mU, mU, mU] [] (G2, J, K)) (fun J' a' s' => a < a' ∧ s < s' ∧ Sgm (wJ J') s s' D) := by
    intro i hi ec er lt
    have pa := rk_pass (r + 3) (K := K) lM _ a J1 rfl e3
    have wq : skr (isL B) e a = wde B e a := by unfold wde; rw [hpp]
    rw [wq] at pa
    have o3 := RdO_u (k := 5) (v := Int32.ofNat (wde B e a)) e2 (by omega)
    have r3 := RdR_o q2 o3 (a' := wde B e a) (by rw [up_eq, up_eq]) wb.2 (by rw [up_eq, up_ne (by decide)]; exact e3.2.2.2.2.1)
    have q' := PrS_x q c2 o3 c3 r3 wb.1 (c5 7 (by decide))
    obtain ⟨I2, J2, y1, y2, y3, y4, y5, y6, y7⟩ := em_pair (d + 4) (r + 3) (w := i + 1) (N := 0) (L := L) (K := K) lW lM q' (by omega) (by omega) (by unfold irng; decide)
    rw [if_neg (by omega)] at y1
    have ev : ((-1 : Int32) - Int32.ofNat i) = -Int32.ofNat (i + 1) := by
      have : ∀ i, i < 5 → ((-1 : Int32) - Int32.ofNat i) = -Int32.ofNat (i + 1) := by decide
      exact this i hi
    refine Or.inl ⟨I2, J2, wde B e a, s + 1, ?_, ?_, y3, BlC_t (BlC_x q7 c2) y4, BlJ_t (BlJ_x o3) y5, SaR_t (SaR_x o3) (Nat.le_refl _) y6, wb.1, Nat.le_succ _, by omega, lt, Nat.lt_succ_self _, Sgm_1 (by rw [y7]; omega) hD⟩
    · rw [ec, e_X0_readUnit_106]
      simp only [↓vW lW, ↓vC lC, ev, ↓mcV_of y1, mb1]
    · rw [er, e_X12_unit_180, if_neg (nm1 (by omega)), e_X12_unit_198]
      simp only [↓vM lM, ↓mcV_of pa, ↓mcV_of y2]
  have ne : ∀ w : List Nat, lets w → isw w B a (wde B e a) → a < wde B e a := fun w hw h => by
    have := hw.1
    have := h.1
    omega
  by_cases h0 : isw wd_meter B a (wde B e a)
  · refine fin 0 (by decide) ?_ ?_ (ne wd_meter lt_meter h0)
    · rw [e_X0_readUnit_84]
      simp only [↓vX lX, ↓mcI_of c1, if_pos h0, if_neg (show ¬ Int32.ofNat 0 = -1 by decide)]
    · rw [e_X12_unit_99]
      simp only [↓vM lM, ↓mcL_of e1, ↓mcL_of (o_meter (r + 4)), if_pos ((cm wd_meter lt_meter).mpr h0)]
      rfl
  by_cases h1 : isw wd_size B a (wde B e a)
  · refine fin 1 (by decide) ?_ ?_ (ne wd_size lt_size h1)
    · rw [e_X0_readUnit_84]
      simp only [↓vX lX, ↓mcI_of c1, if_neg h0, if_pos h1, if_neg (show ¬ Int32.ofNat 1 = -1 by decide)]
    · rw [e_X12_unit_99]
      simp only [↓vM lM, ↓mcL_of e1, ↓mcL_of (o_meter (r + 4)), if_neg (fun z => h0 ((cm wd_meter lt_meter).mp z)), e_X12_unit_119, ↓mcL_of (o_size (r + 4)), if_pos ((cm wd_size lt_size).mpr h1)]
      rfl
  by_cases h2 : isw wd_all B a (wde B e a)
  · refine fin 2 (by decide) ?_ ?_ (ne wd_all lt_all h2)
    · rw [e_X0_readUnit_84]
      simp only [↓vX lX, ↓mcI_of c1, if_neg h0, if_neg h1, if_pos h2, if_neg (show ¬ Int32.ofNat 2 = -1 by decide)]
    · rw [e_X12_unit_99]
      simp only [↓vM lM, ↓mcL_of e1, ↓mcL_of (o_meter (r + 4)), if_neg (fun z => h0 ((cm wd_meter lt_meter).mp z)), e_X12_unit_119, ↓mcL_of (o_size (r + 4)), if_neg (fun z => h1 ((cm wd_size lt_size).mp z)), e_X12_unit_134, ↓mcL_of (o_all (r + 4)), if_pos ((cm wd_all lt_all).mpr h2)]
      rfl
  by_cases h3 : isw wd_many B a (wde B e a)
  · refine fin 3 (by decide) ?_ ?_ (ne wd_many lt_many h3)
    · rw [e_X0_readUnit_84]
      simp only [↓vX lX, ↓mcI_of c1, if_neg h0, if_neg h1, if_neg h2, if_pos h3, if_neg (show ¬ Int32.ofNat 3 = -1 by decide)]
    · rw [e_X12_unit_99]
      simp only [↓vM lM, ↓mcL_of e1, ↓mcL_of (o_meter (r + 4)), if_neg (fun z => h0 ((cm wd_meter lt_meter).mp z)), e_X12_unit_119, ↓mcL_of (o_size (r + 4)), if_neg (fun z => h1 ((cm wd_size lt_size).mp z)), e_X12_unit_134, ↓mcL_of (o_all (r + 4)), if_neg (fun z => h2 ((cm wd_all lt_all).mp z)), e_X12_unit_149, ↓mcL_of (o_many (r + 4)), if_pos ((cm wd_many lt_many).mpr h3)]
      rfl
  by_cases h4 : isw wd_set B a (wde B e a)
  · refine fin 4 (by decide) ?_ ?_ (ne wd_set lt_set h4)
    · rw [e_X0_readUnit_84]
      simp only [↓vX lX, ↓mcI_of c1, if_neg h0, if_neg h1, if_neg h2, if_neg h3, if_pos h4, if_neg (show ¬ Int32.ofNat 4 = -1 by decide)]
    · rw [e_X12_unit_99]
      simp only [↓vM lM, ↓mcL_of e1, ↓mcL_of (o_meter (r + 4)), if_neg (fun z => h0 ((cm wd_meter lt_meter).mp z)), e_X12_unit_119, ↓mcL_of (o_size (r + 4)), if_neg (fun z => h1 ((cm wd_size lt_size).mp z)), e_X12_unit_134, ↓mcL_of (o_all (r + 4)), if_neg (fun z => h2 ((cm wd_all lt_all).mp z)), e_X12_unit_149, ↓mcL_of (o_many (r + 4)), if_neg (fun z => h3 ((cm wd_many lt_many).mp z)), e_X12_unit_164, ↓mcL_of (o_set (r + 4)), if_pos ((cm wd_set lt_set).mpr h4)]
      rfl
  -- no such word
  obtain ⟨I2, d1, d2, d3, d4⟩ := tk_fail (d + 4) (I := I1) (L := L) 1 (Int32.ofNat a) lX
  have w := r_wrong (r + 4) (K := K) 1 (Int32.ofNat a) lM e3.2.2.2.2.1
  have e5 : J1 219 5 = Int32.ofNat a := e3.2.1
  have o3 := RdO_u (k := 6) (v := Int32.ofNat a) e2 (by omega)
  have o4 := RdO_u (k := 7) (v := 1) o3 (by omega)
  rw [up_eq, up_up] at o4
  refine OutB_f (I' := I2) (k := 1) (p := a) ?_ ?_ d3 d4 (J' := va_up J1 219 (va_up (va_up (J1 219) 6 (Int32.ofNat a)) 7 1)) (by rw [up_eq, up_ne (by decide), up_eq]) (by rw [up_eq, up_eq]) (by omega) (BlC_x q7 (TxO_t c2 d2)) (BlJ_x o4)
  · rw [e_X0_readUnit_84]
    simp only [↓vX lX, ↓mcI_of c1, if_neg h0, if_neg h1, if_neg h2, if_neg h3, if_neg h4, if_true, c4, ↓mcI_of d1, mb0]
  · rw [e_X12_unit_99]
    simp only [↓vM lM, ↓mcL_of e1, ↓mcL_of (o_meter (r + 4)), if_neg (fun z => h0 ((cm wd_meter lt_meter).mp z)), e_X12_unit_119, ↓mcL_of (o_size (r + 4)), if_neg (fun z => h1 ((cm wd_size lt_size).mp z)), e_X12_unit_134, ↓mcL_of (o_all (r + 4)), if_neg (fun z => h2 ((cm wd_all lt_all).mp z)), e_X12_unit_149, ↓mcL_of (o_many (r + 4)), if_neg (fun z => h3 ((cm wd_many lt_many).mp z)), e_X12_unit_164, ↓mcL_of (o_set (r + 4)), if_neg (fun z => h4 ((cm wd_set lt_set).mp z)), e_X12_unit_179, e_X12_unit_180, if_true, e5, ↓mcV_of w]
theorem un_all (d r u : Nat) (lX : LayX G 101) (lW : LayW G 1 b) (lM : LayM G2 219) (hu : u ≤ 6) (HS : 0 < u → ∀ I J a s, PrS B b e a (6 - u + 1) s I J → OutB B b e a (6 - u + 1) s I J G G2 L K (mcal mT (d + 5) 2 [.ref b, .ref 101, .int (Int32.ofNat (6 - u + 1))] (G, I, L)) (mcal mT (r + 5) 263 [.ref 219] (G2, J, K)) (fun J' a' s' => a < a' ∧ s < s' ∧ Sgm (wJ J') s s' (1 + 2 * u))) (q : PrS B b e a (6 - u) s I J) : OutB B b e a (6 - u) s I J G G2 L K (mcal mT (d + 6) 4 [.ref b, .ref 101, .int (Int32.ofNat (6 - u))] (G, I, L)) (mcal mT (r + 6) 261 [.ref 219] (G2, J, K)) (fun J' a' s' => a < a' ∧ s < s' ∧ Sgm (wJ J') s s' (1 + 2 * u)) := by
  have z1 : ¬ (1 : Int32) = 0 := by decide
  obtain ⟨q1, q2, q3, q4, q5, q6, q7, q8⟩ := id q
  have ae := q1.2.2.1
  have bb := skb_b (B := B) (e := e) (a := a) ae
  have pp := skb_i (B := B) (e := e) (a := a) ae
  have fi := r_fine (r + 4) (K := K) lM q2.2.2.2.2.1
  obtain ⟨J1, e1, e2, e3, e4⟩ := rk_here (r + 4) (K := K) lM q2
  have hb := hre_b q2
  have dg := r_digit (r + 4) (G := G2) (J := J1) (K := K) hb
  obtain ⟨I1, c1, c2, c3, c4, c5⟩ := tk_sign (d + 2) (L := L) (x := 40) lX q1 (by decide)
  rw [q_X0_readUnit_, e_X0_readUnit_0, q_X12_unit_, e_X12_unit_0]
  by_cases n1 : skb B e a < e ∧ B (skb B e a) = 40
  · -- a bracket
    have hv : hre B e a = 40 := (hre_x (by decide)).mpr n1
    rw [hv] at e1 dg
    rw [if_neg (show ¬ (48 ≤ 40 ∧ 40 ≤ 57) by decide)] at dg
    rw [if_pos n1] at c1 c3
    have c1' : mcal mT (d + 5) 91 [.ref 101, .int 40] (G, I, L) = some (.inl (some (.int 1)), (G, I1, L)) := c1
    have c5' := c5 n1
    have j5 : J1 219 5 = Int32.ofNat (skb B e a) := e3.2.1
    have j8 : J1 219 8 = Int32.ofNat (6 - u) := by rw [e4 8 (by decide)]; exact q3
    by_cases u0 : u = 0
    · -- too deep
      obtain ⟨I2, d1, d2, d3, d4⟩ := tk_fail (d + 4) (I := I1) (L := L) 3 (Int32.ofNat (skb B e a)) lX
      have w := r_wrong (r + 4) (K := K) 3 (Int32.ofNat (skb B e a)) lM e3.2.2.2.2.1
      generalize hJ2 : va_up J1 219 (va_up (va_up (J1 219) 6 (Int32.ofNat (skb B e a))) 7 3) = J2 at w
      have b2 : BlJ J J2 := by
        have o3 := RdO_u (k := 6) (v := Int32.ofNat (skb B e a)) e2 (by omega)
        have o4 := RdO_u (k := 7) (v := 3) o3 (by omega)
        rw [up_eq, up_up, hJ2] at o4
        exact BlJ_x o4
      generalize hJ3 : va_up J2 219 (va_up (va_up (J2 219) 8 (J2 219 8 + 1)) 5 (J2 219 5 + 1)) = J3
      have b3 : BlJ J J3 := by
        have := BlJ_u (k := 5) (v := J2 219 5 + 1) (BlJ_u (k := 8) (v := J2 219 8 + 1) b2 (by omega)) (by omega)
        rw [up_eq, up_up, hJ3] at this
        exact this
      have j36 : J3 219 6 = Int32.ofNat (skb B e a) := by rw [← hJ3, up_eq, up_ne (by decide), up_ne (by decide), ← hJ2, up_eq, up_ne (by decide), up_eq]
      have j37 : J3 219 7 = 3 := by rw [← hJ3, up_eq, up_ne (by decide), up_ne (by decide), ← hJ2, up_eq, up_eq]
      have nf : ¬ J3 219 6 = -1 := by rw [j36]; exact nm1 (by omega)
      have su := su_N (r + 1) (K := K) lM nf
      have nd := rk_needN (r + 3) (K := K) 41 lM nf
      have t6 : ¬ Int32.ofNat (6 - u) < 6 := by rw [u0]; decide
      have j86 : J1 219 8 = 6 := by rw [j8, u0]; rfl
      refine OutB_f (I' := I2) (J' := va_up J3 219 (va_up (J3 219) 8 (J3 219 8 - 1))) (k := 3) (p := skb B e a) ?_ ?_ d3 d4 (by rw [up_eq, up_ne (by decide)]; exact j36) (by rw [up_eq, up_ne (by decide)]; exact j37) (by omega) (BlC_x q7 (TxO_t c2 d2)) (BlJ_u b3 (by omega))
      · simp only [↓vX lX, ↓mcI_of c1', if_neg z1, if_neg t6, c5', ↓mcI_of d1, mb0]
      · simp only [↓vM lM, ↓mcI_of fi, if_neg z1, e_X12_unit_8, ↓mcI_of e1, ↓mcI_of dg, if_true, e_X12_unit_34, if_pos (show Int32.ofNat 40 = 40 from rfl), j86, j5, ↓mcV_of w, e_X12_unit_58]
        have ne : (8 : Nat) ≠ 5 := by decide
        have h85 : va_up J2 219 (va_up (J2 219) 8 (J2 219 8 + 1)) 219 5 = J2 219 5 := by rw [up_eq, up_ne (by decide)]
        simp only [up2_e, h85]
        rw [show va_up (va_up J2 219 (va_up (J2 219) 8 (J2 219 8 + 1))) 219 (va_up (va_up J2 219 (va_up (J2 219) 8 (J2 219 8 + 1)) 219) 5 (J2 219 5 + 1)) = J3 from by rw [up_eq, up_up]; exact hJ3]
        simp only [↓mcV_of su, ↓vM lM, ↓mcV_of nd]
    · have t6 : Int32.ofNat (6 - u) < 6 := (i_lt (b := 6) (by omega) (by decide)).mpr (by omega)
      have j86 : ¬ Int32.ofNat (6 - u) = 6 := fun z => by have := (i_eq (b := 6) (by omega) (by decide)).mp z; omega
      generalize hJ3 : va_up J1 219 (va_up (va_up (J1 219) 8 (Int32.ofNat (6 - u + 1))) 5 (Int32.ofNat (skb B e a + 1))) = J3
      have o3 := RdO_u (k := 5) (v := Int32.ofNat (skb B e a + 1)) e2 (by omega)
      have r3 := RdR_o q2 o3 (a' := skb B e a + 1) (by rw [up_eq, up_eq]) (by omega) (by rw [up_eq, up_ne (by decide)]; exact e3.2.2.2.2.1)
      have q' := PrS_x q c2 o3 c3 r3 (by omega) (c4 7 (by decide))
      have q'' : PrS B b e (skb B e a + 1) (6 - u + 1) s I1 J3 := PrS_d q' (fun x hx => by rw [← hJ3, up_ne hx, up_ne hx]) (fun k hk => by
        rw [← hJ3, up_eq, up_eq]
        by_cases c : k = 5
        · rw [c, up_eq, up_eq]
        · rw [up_ne c, up_ne c, up_ne hk]) (by rw [← hJ3, up_eq, up_ne (by decide), up_eq])
      have b3 : BlJ J J3 := by
        have := BlJ_u (k := 5) (v := Int32.ofNat (skb B e a + 1)) (BlJ_u (k := 8) (v := Int32.ofNat (6 - u + 1)) (BlJ_x e2) (by omega)) (by omega)
        rw [up_eq, up_up, hJ3] at this
        exact this
      have s3 : SaR s J J3 := fun j hj => by rw [← hJ3, up_ne (by decide), up_ne (by decide), e2.1 237 (by decide), e2.1 238 (by decide)]; exact ⟨rfl, rfl⟩
      have er : ∀ J4, mcal mT (r + 5) 263 [.ref 219] (G2, J3, K) = some (.inl none, (G2, J4, K)) → ∀ J5, mcal mT (r + 5) 188 [.ref 219, .int 41] (G2, J4, K) = some (.inl none, (G2, J5, K)) → (gk G2 219 13 (mcI (mcal mT (r + 5) 179 [.ref 219] (G2, J, K)) (fun v2 h1 => (if v2 = 0 then some (.inl none, h1) else f_X12_unit (r + 5) 8 [.ref 219, mU, mU, mU, mU] [] h1)) mthr)) = some (.inl none, (G2, va_up J5 219 (va_up (J5 219) 8 (J5 219 8 - 1)), K)) := by
        intro J4 h4 J5 h5
        simp only [↓vM lM, ↓mcI_of fi, if_neg z1, e_X12_unit_8, ↓mcI_of e1, ↓mcI_of dg, if_true, e_X12_unit_34, if_pos (show Int32.ofNat 40 = 40 from rfl), j8, if_neg j86, e_X12_unit_58]
        have h85 : va_up J1 219 (va_up (J1 219) 8 (Int32.ofNat (6 - u) + 1)) 219 5 = J1 219 5 := by rw [up_eq, up_ne (by decide)]
        simp only [up2_e, j8, h85, j5]
        rw [show va_up (va_up J1 219 (va_up (J1 219) 8 (Int32.ofNat (6 - u) + 1))) 219 (va_up (va_up J1 219 (va_up (J1 219) 8 (Int32.ofNat (6 - u) + 1)) 219) 5 (Int32.ofNat (skb B e a) + 1)) = J3 from by rw [up_eq, up_up, i_one, i_one]; exact hJ3]
        simp only [↓mcV_of h4, ↓vM lM, ↓mcV_of h5]
      have ec : gk G 101 11 (mcI (mcal mT (d + 5) 91 [.ref 101, .int 40] (G, I, L)) (fun v2 h1 => (if v2 = 0 then f_X0_readUnit (d + 5) 51 [.ref b, .ref 101, mU, mU] [] h1 else (if Int32.ofNat (6 - u) < 6 then f_X0_readUnit (d + 5) 25 [.ref b, .ref 101, .int (Int32.ofNat (6 - u)), mU] [] h1 else gk h1.1 101 11 (gk h1.1 101 11 (mcI (mcal mT (d + 5) 87 [.ref 101, .int 3, .int (h1.2.1 101 4)] h1) (fun v4 h3 => mbool v4 (some (.inl (some (.int v4)), h3))) mthr))))) mthr) = f_X0_readUnit (d + 5) 25 [.ref b, .ref 101, .int (Int32.ofNat (6 - u)), mU] [] (G, I1, L) := by
        simp only [↓vX lX, ↓mcI_of c1', if_neg z1, if_pos t6]
      rcases HS (by omega) I1 J3 _ s q'' with ⟨I4, J4, a4, s4, x1, x2, x3, x4, x5, x6, x7, x8, x9, x10, x11, x12⟩ | ⟨I4, J4, k4, p4, x1, x2, x3, x4, x5, x6, x7, x8, x9⟩
      · have bb4 := skb_b (B := B) (e := e) (a := a4) x3.1.2.2.1
        have h1 := tk_must (d + 1) (L := L) (x := 41) lX x3.1 (by decide)
        have h2 := rk_need (r + 3) (K := K) (x := 41) lM x3.2.1 (by decide) (by decide)
        rcases h1 with ⟨n2, I5, y1, y2, y3, y4⟩ | ⟨n2, I5, y1, y2, y3, y4⟩
        · rcases h2 with ⟨m2, J5, w1, w2, w3, w4⟩ | ⟨m2, -⟩
          · have j58 : J5 219 8 = Int32.ofNat (6 - u + 1) := by rw [w2.2 8 (by decide) (by decide) (by decide)]; exact x3.2.2.1
            have q5' := PrS_x x3 y2 w2 y3 w3 (by omega) (y4 7 (by decide))
            have q6' : PrS B b e (skb B e a4 + 1) (6 - u) s4 I5 (va_up J5 219 (va_up (J5 219) 8 (J5 219 8 - 1))) := PrS_d q5' (fun x hx => up_ne hx) (fun k hk => by rw [up_eq, up_ne hk]) (by rw [up_eq, up_eq, j58, i_pred])
            have s5 : SaR s4 J4 (va_up J5 219 (va_up (J5 219) 8 (J5 219 8 - 1))) := fun j hj => by rw [up_ne (by decide), up_ne (by decide)]; exact SaR_x w2 j hj
            refine Or.inl ⟨I5, _, skb B e a4 + 1, s4, ?_, er J4 x2 J5 w1, q6', BlC_t (BlC_t (BlC_x q7 c2) x4) (BlC_x q7 y2), BlJ_t (BlJ_t b3 x5) (BlJ_u (BlJ_x w2) (by omega)), SaR_t (SaR_t s3 (Nat.le_refl _) x6) (by omega) s5, by omega, by omega, by omega, by omega, by omega, Sgm_c x12 (wJ_s s5) (by omega) (Nat.le_refl _)⟩
            rw [ec, e_X0_readUnit_25, i_one]
            have y1' : mcal mT (d + 5) 92 [.ref 101, .int 41] (G, I4, L) = some (.inl (some (.int 1)), (G, I5, L)) := y1
            simp only [↓vW lW, ↓mcI_of x1, if_neg z1, ↓vX lX, ↓mcI_of y1', e_X0_readUnit_50, mb1]
          · exact absurd n2 m2
        · rcases h2 with ⟨m2, -⟩ | ⟨m2, J5, w1, w2, w3, w4⟩
          · exact absurd m2 n2
          · refine OutB_f (I' := I5) (k := 1) (p := skb B e a4) ?_ (er J4 x2 J5 w1) y3 y4 (by rw [up_eq, up_ne (by decide)]; exact w3) (by rw [up_eq, up_ne (by decide)]; exact w4) (by omega) (BlC_t (BlC_t (BlC_x q7 c2) x4) (BlC_x q7 y2)) (BlJ_t (BlJ_t b3 x5) (BlJ_u (BlJ_x w2) (by omega)))
            rw [ec, e_X0_readUnit_25, i_one]
            have y1' : mcal mT (d + 5) 92 [.ref 101, .int 41] (G, I4, L) = some (.inl (some (.int 0)), (G, I5, L)) := y1
            simp only [↓vW lW, ↓mcI_of x1, if_neg z1, ↓vX lX, ↓mcI_of y1', if_true, e_X0_readUnit_49, e_X0_readUnit_50, mb0]
      · have nf : ¬ J4 219 6 = -1 := by rw [x5]; exact nm1 (by omega)
        refine OutB_f (I' := I4) (k := k4) (p := p4) ?_ (er J4 x2 J4 (rk_needN (r + 3) (K := K) 41 lM nf)) x3 x4 (by rw [up_eq, up_ne (by decide)]; exact x5) (by rw [up_eq, up_ne (by decide)]; exact x6) x7 (BlC_t (BlC_x q7 c2) x8) (BlJ_u (BlJ_t b3 x9) (by omega))
        rw [ec, e_X0_readUnit_25, i_one]
        simp only [↓vW lW, ↓mcI_of x1, if_true, e_X0_readUnit_49, e_X0_readUnit_50, mb0]
  · -- no bracket
    rw [if_neg n1] at c1 c3
    have c1' : mcal mT (d + 5) 91 [.ref 101, .int 40] (G, I, L) = some (.inl (some (.int 0)), (G, I1, L)) := c1
    obtain ⟨I2, d1, d2, d3, d4⟩ := tk_digit (d + 2) (L := L) lX c3
    rw [pp] at d1 d3
    have oI := TxO_t c2 d2
    have q' := PrS_x q oI e2 d3 e3 bb.1 (by rw [d4 7 (by decide), c4 7 (by decide)])
    -- from what was read behind the blanks
    have wid : ∀ X Y, OutB B b e (skb B e a) (6 - u) s I2 J1 G G2 L K X Y (fun J' a' s' => skb B e a < a' ∧ s < s' ∧ Sgm (wJ J') s s' (1 + 2 * u)) → OutB B b e a (6 - u) s I J G G2 L K X Y (fun J' a' s' => a < a' ∧ s < s' ∧ Sgm (wJ J') s s' (1 + 2 * u)) := by
      intro X Y h
      rcases h with ⟨I4, J4, a4, s4, x1, x2, x3, x4, x5, x6, x7, x8, x9, x10, x11, x12⟩ | ⟨I4, J4, k4, p4, x1, x2, x3, x4, x5, x6, x7, x8, x9⟩
      · exact Or.inl ⟨I4, J4, a4, s4, x1, x2, x3, BlC_t (BlC_x q7 oI) x4, BlJ_t (BlJ_x e2) x5, SaR_t (SaR_x e2) (Nat.le_refl _) x6, by omega, x8, by omega, by omega, x11, x12⟩
      · exact OutB_f x1 x2 x3 x4 x5 x6 x7 (BlC_t (BlC_x q7 oI) x8) (BlJ_t (BlJ_x e2) x9)
    by_cases n2 : skb B e a < e ∧ isD B (skb B e a) = true
    · rw [if_pos n2] at d1
      rw [if_pos (hre_d.mpr n2)] at dg
      have := wid _ _ (un_num d r (1 + 2 * u) (by omega) (L := L) (K := K) lX lW lM q' pp)
      simp only [↓vX lX, ↓mcI_of c1', if_true, e_X0_readUnit_51, ↓mcI_of d1, if_neg z1, ↓vM lM, ↓mcI_of fi, e_X12_unit_8, ↓mcI_of e1, ↓mcI_of dg]
      exact this
    · rw [if_neg n2] at d1
      rw [if_neg (fun z => n2 (hre_d.mp z))] at dg
      have hv : ¬ Int32.ofNat (hre B e a) = 40 := fun z => n1 ((hre_x (by decide)).mp ((i_eq (b := 40) (by omega) (by decide)).mp z))
      have := wid _ _ (un_word d r (1 + 2 * u) (by omega) (L := L) (K := K) lX lW lM q' pp)
      simp only [↓vX lX, ↓mcI_of c1', if_true, e_X0_readUnit_51, ↓mcI_of d1, ↓vM lM, ↓mcI_of fi, if_neg z1, e_X12_unit_8, ↓mcI_of e1, ↓mcI_of dg, e_X12_unit_34, if_neg hv]
      exact this
/-- sums of every depth -/
theorem sum_all (lX : LayX G 101) (lW : LayW G 1 b) (lM : LayM G2 219) : ∀ u, u ≤ 6 → ∀ d r I J a s, PrS B b e a (6 - u) s I J → OutB B b e a (6 - u) s I J G G2 L K (mcal mT (d + 3 * u + 8) 2 [.ref b, .ref 101, .int (Int32.ofNat (6 - u))] (G, I, L)) (mcal mT (r + 3 * u + 8) 263 [.ref 219] (G2, J, K)) (fun J' a' s' => a < a' ∧ s < s' ∧ Sgm (wJ J') s s' (3 + 2 * u)) := by
  intro u
  induction u with
  | zero =>
    intro _ d r I J a s q
    exact su_all (d + 2) (r + 2) lX lW lM (fun I J a s q => pr_all (d + 1) (r + 1) lX lW lM (fun I J a s q => un_all d r 0 lX lW lM (by decide) (fun h => absurd h (Nat.lt_irrefl _)) q) q) q
  | succ u ih =>
    intro hu d r I J a s q
    have e1 : 6 - (u + 1) + 1 = 6 - u := by omega
    have HS : 0 < u + 1 → ∀ I J a s, PrS B b e a (6 - (u + 1) + 1) s I J → OutB B b e a (6 - (u + 1) + 1) s I J G G2 L K (mcal mT (d + 3 * u + 3 + 5) 2 [.ref b, .ref 101, .int (Int32.ofNat (6 - (u + 1) + 1))] (G, I, L)) (mcal mT (r + 3 * u + 3 + 5) 263 [.ref 219] (G2, J, K)) (fun J' a' s' => a < a' ∧ s < s' ∧ Sgm (wJ J') s s' (1 + 2 * (u + 1))) := by
      intro _ I J a s q
      rw [e1] at q ⊢
      have := ih (by omega) d r I J a s q
      rw [show 1 + 2 * (u + 1) = 3 + 2 * u by omega]
      exact this
    have hsum := su_all (d + 3 * u + 5) (r + 3 * u + 5) (L := L) (K := K) (Du := 1 + 2 * (u + 1) + 1) lX lW lM (fun I J a s q => pr_all (d + 3 * u + 4) (r + 3 * u + 4) lX lW lM (fun I J a s q => un_all (d + 3 * u + 3) (r + 3 * u + 3) (u + 1) lX lW lM hu HS q) q) q
    rw [show d + 3 * (u + 1) + 8 = d + 3 * u + 5 + 6 by omega, show r + 3 * (u + 1) + 8 = r + 3 * u + 5 + 6 by omega, show 3 + 2 * (u + 1) = 1 + 2 * (u + 1) + 1 + 1 by omega]
    exact hsum
end
