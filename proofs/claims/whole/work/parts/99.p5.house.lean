/-! a house read: the beginning and the clauses -/
def hcl (I : Nat → Nat → Int32) (x : Nat) : Nat → Nat → Int32 := fil (fil (fil (fil (fil (fil (va_up I x (va_up (va_up (va_up (va_up (va_up (va_up (I x) 0 0) 1 0) 10 0) 16 100) 17 9999) 18 600)) (x + 3) 64 0) (x + 4) 8 0) (x + 5) 8 0) (x + 6) 8 0) (x + 12) 8 0) (x + 13) 8 0
def hcs (S : Nat → Int32) : Nat → Int32 := va_up (va_up (va_up (pre 166 (fun _ => 0) S) 160 100) 161 9999) 162 600
section
variable {G G2 : mG} {I J : Nat → Nat → Int32} {L K : Nat → Nat → Int64} {B : Nat → Nat} {e a x nr n c : Nat}
theorem c_hclear (d : Nat) (lH : LayH G x) : mcal mT (d + 2) 34 [.ref x] (G, I, L) = some (.inl none, (G, hcl I x, L)) := by
  obtain ⟨-, -, -, -, -, -, -, -, p3, q3, -, p4, q4, -, p5, q5, -, p6, q6, -, -, -, -, -, -, -, -, -, -, -, -, -, -, -, -, p12, q12, -, p13, q13⟩ := id lH
  have f3 : ∀ (F : Nat → Nat → Int32) (f : mH → Option mO) (g : String → mH → Option mO), mcV (mcal mT (d + 1) 293 [.ref (x + 3), .int 0] (G, F, L)) f g = f (G, fil F (x + 3) 64 0, L) := fun F f g => mcV_of (c_fillI d 0 p3 q3 (by decide)) f g
  have f4 : ∀ (F : Nat → Nat → Int32) (f : mH → Option mO) (g : String → mH → Option mO), mcV (mcal mT (d + 1) 293 [.ref (x + 4), .int 0] (G, F, L)) f g = f (G, fil F (x + 4) 8 0, L) := fun F f g => mcV_of (c_fillI d 0 p4 q4 (by decide)) f g
  have f5 : ∀ (F : Nat → Nat → Int32) (f : mH → Option mO) (g : String → mH → Option mO), mcV (mcal mT (d + 1) 293 [.ref (x + 5), .int 0] (G, F, L)) f g = f (G, fil F (x + 5) 8 0, L) := fun F f g => mcV_of (c_fillI d 0 p5 q5 (by decide)) f g
  have f6 : ∀ (F : Nat → Nat → Int32) (f : mH → Option mO) (g : String → mH → Option mO), mcV (mcal mT (d + 1) 293 [.ref (x + 6), .int 0] (G, F, L)) f g = f (G, fil F (x + 6) 8 0, L) := fun F f g => mcV_of (c_fillI d 0 p6 q6 (by decide)) f g
  have f12 : ∀ (F : Nat → Nat → Int32) (f : mH → Option mO) (g : String → mH → Option mO), mcV (mcal mT (d + 1) 293 [.ref (x + 12), .int 0] (G, F, L)) f g = f (G, fil F (x + 12) 8 0, L) := fun F f g => mcV_of (c_fillI d 0 p12 q12 (by decide)) f g
  have f13 : ∀ (F : Nat → Nat → Int32) (f : mH → Option mO) (g : String → mH → Option mO), mcV (mcal mT (d + 1) 293 [.ref (x + 13), .int 0] (G, F, L)) f g = f (G, fil F (x + 13) 8 0, L) := fun F f g => mcV_of (c_fillI d 0 p13 q13 (by decide)) f g
  rw [q_X4_clear_, e_X4_clear_0]
  simp only [↓vH lH, up2_e, up_eq, up_up, ↓f3, ↓f4, ↓f5, ↓f6, ↓f12, ↓f13]
  rfl
theorem hcl_o {y : Nat} (h : ¬ (x ≤ y ∧ y < x + 14)) : hcl I x y = I y := by
  unfold hcl
  simp (disch := omega) only [fil_ne, up_ne]
theorem hcl_H : HrI 0 0 0 (hrw (hcl I x) x) (hcs (J 221)) := by
  have h0 : hrw (hcl I x) x 0 = va_up (va_up (va_up (va_up (va_up (va_up (I x) 0 0) 1 0) 10 0) 16 100) 17 9999) 18 600 := by
    show hcl I x (x + 0) = _
    unfold hcl
    rw [Nat.add_zero x]
    simp (disch := omega) only [fil_ne, up_eq]
  have h3 : hrw (hcl I x) x 3 = pre 64 (fun _ => 0) (I (x + 3)) := by
    show hcl I x (x + 3) = _
    unfold hcl
    simp (disch := omega) only [fil_ne, fil_eq, up_ne]
  have h4 : hrw (hcl I x) x 4 = pre 8 (fun _ => 0) (I (x + 4)) := by
    show hcl I x (x + 4) = _
    unfold hcl
    simp (disch := omega) only [fil_ne, fil_eq, up_ne]
  have h5 : hrw (hcl I x) x 5 = pre 8 (fun _ => 0) (I (x + 5)) := by
    show hcl I x (x + 5) = _
    unfold hcl
    simp (disch := omega) only [fil_ne, fil_eq, up_ne]
  have h6 : hrw (hcl I x) x 6 = pre 8 (fun _ => 0) (I (x + 6)) := by
    show hcl I x (x + 6) = _
    unfold hcl
    simp (disch := omega) only [fil_ne, fil_eq, up_ne]
  have h12 : hrw (hcl I x) x 12 = pre 8 (fun _ => 0) (I (x + 12)) := by
    show hcl I x (x + 12) = _
    unfold hcl
    simp (disch := omega) only [fil_ne, fil_eq, up_ne]
  have h13 : hrw (hcl I x) x 13 = pre 8 (fun _ => 0) (I (x + 13)) := by
    show hcl I x (x + 13) = _
    unfold hcl
    simp (disch := omega) only [fil_ne, fil_eq, up_ne]
  have s0 : ∀ k, k < 166 → k ≠ 160 → k ≠ 161 → k ≠ 162 → hcs (J 221) k = 0 := fun k hk k1 k2 k3 => by
    unfold hcs
    rw [up_ne k3, up_ne k2, up_ne k1, pre_lt hk]
  have s1 : hcs (J 221) 160 = 100 := by
    unfold hcs
    rw [up_ne (by decide), up_ne (by decide), up_eq]
  have s2 : hcs (J 221) 161 = 9999 := by
    unfold hcs
    rw [up_ne (by decide), up_eq]
  have s3 : hcs (J 221) 162 = 600 := by
    unfold hcs
    rw [up_eq]
  refine ⟨⟨?_, s0 165 (by decide) (by decide) (by decide) (by decide), by decide, ?_, s0 163 (by decide) (by decide) (by decide) (by decide), by decide, ?_, s0 164 (by decide) (by decide) (by decide) (by decide), by decide⟩, ⟨?_, ?_, ?_, ?_, ?_, ?_⟩, fun r hr => absurd hr (Nat.not_lt_zero _), ?_, ?_, ?_, fun r hr => absurd hr (Nat.not_lt_zero _), ?_⟩
  · rw [h0]; simp (disch := decide) only [up_eq, up_ne]; rfl
  · rw [h0]; simp (disch := decide) only [up_eq, up_ne]; rfl
  · rw [h0]; simp (disch := decide) only [up_eq, up_ne]; rfl
  · rw [h0, s1]; simp (disch := decide) only [up_eq, up_ne]
  · rw [s1]; unfold irng; decide
  · rw [h0, s2]; simp (disch := decide) only [up_eq, up_ne]
  · rw [s2]; unfold irng; decide
  · rw [h0, s3]; simp (disch := decide) only [up_eq, up_ne]
  · rw [s3]; unfold irng; decide
  · intro r hr
    rw [h4, h5, pre_lt hr, pre_lt hr, s0 (16 + r) (by omega) (by omega) (by omega) (by omega), s0 (24 + r) (by omega) (by omega) (by omega) (by omega)]
    exact ⟨rfl, rfl⟩
  · intro r hr
    rw [h6, pre_lt hr, s0 (32 + r) (by omega) (by omega) (by omega) (by omega)]
    exact Or.inl ⟨rfl, rfl⟩
  · intro p q hp hq
    rw [h3, pre_lt (by omega), s0 (56 + 8 * p + q) (by omega) (by omega) (by omega) (by omega), s0 (56 + 8 * q + p) (by omega) (by omega) (by omega) (by omega)]
    exact ⟨rfl, rfl, by unfold irng; decide⟩
  · intro k _ hk
    rw [h12, h13, pre_lt hk, pre_lt hk]
    exact ⟨rfl, rfl⟩
/-- the reference clears its row -/
theorem r_hclear (r : Nat) (lM : LayM G2 219) : f_X12_house r 39 [.ref 219, mU, .int 0] [] (G2, J, K) = f_X12_house r 91 [.ref 219, mU, mU] [] (G2, va_up J 221 (hcs (J 221)), K) := by
  have A := loopy (fun i (q : Nat → Int32) => f_X12_house r 39 [.ref 219, mU, .int i] [] (G2, va_up J 221 q, K)) (fun k => pre k (fun _ => 0) (J 221)) 166 _ pre_0 (by
    intro k hk
    try dsimp only
    rw [e_X12_house_39, if_neg (show ¬ (166 : Int32) ≤ Int32.ofNat k from i_ng (a := 166) hk (by decide))]
    simp (disch := omega) only [↓vM lM, show ∀ (F : Nat → Nat → Int32) v w, up2 F (219 + 2) v w = va_up F 221 (va_up (F 221) v w) from fun _ _ _ => rfl, up_eq, up_up, i_one]
    rw [pre_s rfl])
  try dsimp only at A
  rw [up_id] at A
  rw [A, e_X12_house_39, if_pos (by decide), e_X12_house_59]
  simp only [↓vM lM, show ∀ (F : Nat → Nat → Int32) v w, up2 F (219 + 2) v w = va_up F 221 (va_up (F 221) v w) from fun _ _ _ => rfl, up_eq, up_up]
  rfl
def OutM (x : Nat) (I J : Nat → Nat → Int32) (G G2 : mG) (L K : Nat → Nat → Int64) (R : Nat) (X Y : Option mO) : Prop := (∃ I' J' nr n c, X = some (.inl (some (.int 1)), (G, I', L)) ∧ Y = f_X12_house R 139 [.ref 219, mU, mU] [] (G2, J', K) ∧ 0 < nr ∧ HrI nr n c (hrw I' x) (J' 221) ∧ I' 101 7 = -1 ∧ J' 219 6 = -1 ∧ HcF x I I' ∧ HjF J J') ∨ (∃ I' J' k p, X = some (.inl (some (.int 0)), (G, I', L)) ∧ Y = f_X12_house R 139 [.ref 219, mU, mU] [] (G2, J', K) ∧ I' 101 6 = k ∧ I' 101 7 = Int32.ofNat p ∧ J' 219 6 = Int32.ofNat p ∧ J' 219 7 = k ∧ p ≤ 500 ∧ HcF x I I' ∧ HjF J J')
theorem OutM_t {I1 J1 : Nat → Nat → Int32} {R : Nat} {X Y : Option mO} (c1 : HcF x I I1) (c2 : HjF J J1) (o : OutM x I1 J1 G G2 L K R X Y) : OutM x I J G G2 L K R X Y := by
  rcases o with ⟨I2, J2, nr, n, c, h1, h2, h3, h4, h5, h6, h7, h8⟩ | ⟨I2, J2, k, p, h1, h2, h3, h4, h5, h6, h7, h8, h9⟩
  · exact Or.inl ⟨I2, J2, nr, n, c, h1, h2, h3, h4, h5, h6, HcF_t c1 h7, HjF_t c2 h8⟩
  · exact Or.inr ⟨I2, J2, k, p, h1, h2, h3, h4, h5, h6, h7, HcF_t c1 h8, HjF_t c2 h9⟩
/-- the text is at its end -/
theorem hl_end (d r : Nat) (lX : LayX G 101) (lH : LayH G x) (lM : LayM G2 219) (q : PrH B e a x nr n c I J) : OutM x I J G G2 L K (r + 6) (f_X4_readFrom (d + 8) 35 [.ref x, .ref 101, mU] [] (G, I, L)) (f_X12_house (r + 6) 112 [.ref 219, mU, mU] [] (G2, J, K)) := by
  obtain ⟨q1, q2, q3, q4, q5⟩ := id q
  have z1 : ¬ (1 : Int32) = 0 := by decide
  have fi := r_fine (r + 5) (G := G2) (J := J) (K := K) lM q2.2.2.2.2.1
  have i1 : I x 1 = Int32.ofNat nr := q3.1.2.2.2.1
  have j1 : J 221 163 = Int32.ofNat nr := q3.1.2.2.2.2.1
  have n8 := q3.1.2.2.2.2.2.1
  rw [e_X4_readFrom_35, e_X12_house_112]
  simp only [↓vH lH, ↓vX lX, ↓vM lM, ↓mcI_of fi, if_neg z1, i1, j1]
  by_cases h0 : nr = 0
  · have f := tk_fail (d + 7) (I := I) (L := L) 4 (I 101 2) lX
    obtain ⟨I1, d1, d2, d3, d4⟩ := f
    have w := r_wrong (r + 5) (K := K) 4 (J 219 4) lM q2.2.2.2.2.1
    have o3 := RdO_u (k := 6) (v := J 219 4) (show RdO J J from ⟨fun _ _ => rfl, fun _ _ _ _ => rfl⟩) (by omega)
    have o4 := RdO_u (k := 7) (v := 4) o3 (by omega)
    rw [up_eq, up_up] at o4
    rw [h0, if_neg (by decide), if_pos (show Int32.ofNat 0 = 0 from rfl)]
    simp only [↓mcI_of d1, if_true, e_X4_readFrom_58, e_X4_readFrom_59, mb0, ↓mcV_of w]
    exact Or.inr ⟨I1, _, 4, e, rfl, rfl, d3, by rw [d4]; exact q1.1, by rw [up_eq, up_ne (by decide), up_eq]; exact q2.1, by rw [up_eq, up_eq], q1.2.2.2.1, HcF_x d2, HjF_x o4⟩
  · rw [if_pos (show (0 : Int32) < Int32.ofNat nr from (i_lt (a := 0) (by decide) (by omega)).mpr (by omega)), if_neg (show ¬ Int32.ofNat nr = 0 from fun z => h0 ((i_eq (b := 0) (by omega) (by decide)).mp z)), e_X4_readFrom_54, e_X4_readFrom_59, mb1]
    exact Or.inl ⟨I, J, nr, n, c, rfl, rfl, by omega, q3, q5, q2.2.2.2.2.1, HcF_i, HjF_i⟩
/-- clause upon clause -/
theorem hl_all (d r : Nat) (lX : LayX G 101) (lH : LayH G x) (lM : LayM G2 219) : ∀ f c a nr n I J, c + f = 41 → PrH B e a x nr n c I J → OutM x I J G G2 L K (r + 6) (f_X4_readFrom (d + 8) 6 [.ref x, .ref 101, .int (Int32.ofNat c)] [] (G, I, L)) (f_X12_house (r + 6) 91 [.ref 219, mU, mU] [] (G2, J, K)) := by
  have z1 : ¬ (1 : Int32) = 0 := by decide
  intro f
  induction f with
  | zero =>
    intro c a nr n I J hf q
    have := q.2.2.1.1.2.2.1
    omega
  | succ f ih =>
    intro c a nr n I J hf q
    obtain ⟨q1, q2, q3, q4, q5⟩ := id q
    have hc := q3.1.2.2.1
    have fi := r_fine (r + 5) (G := G2) (J := J) (K := K) lM q2.2.2.2.2.1
    obtain ⟨I1, c1, c2, c3, c4⟩ := tk_atEnd (d + 6) (L := L) lX q1
    obtain ⟨J1, g1, g2, g3, g4⟩ := rk_more (r + 4) (K := K) lM q2
    have k221 : J1 221 = J 221 := g2.1 221 (by decide)
    have q' : PrH B e (skb B e a) x nr n c I1 J1 := ⟨c3, g3, by rw [hrw_o c2 q4, k221]; exact q3, q4, by rw [c4 7 (by decide)]; exact q5⟩
    rw [e_X4_readFrom_6, e_X12_house_91, if_neg (show ¬ (40 : Int32) < Int32.ofNat c from fun z => by have := (i_lt (a := 40) (by decide) (by omega)).mp z; omega)]
    apply OutM_t (HcF_x c2) (HjF_x g2)
    by_cases s : skb B e a < e
    · rw [if_pos s] at c1 g1
      simp only [↓vX lX, ↓vH lH, ↓vM lM, ↓mcI_of c1, ↓mcI_of fi, ↓mcI_of g1, if_neg z1, if_true]
      rcases kc_all d r (L := L) (K := K) lX lH lM q' with ⟨I2, J2, a2, m1, m2, y1, y2, y3, y4, y5, -⟩ | ⟨I2, J2, k, p, y1, y2, y3, y4, y5, y6, y7, y8, y9⟩
      · simp only [↓mcI_of y1, ↓mcV_of y2, if_neg z1, e_X4_readFrom_29, i_one]
        exact OutM_t y4 y5 (ih (c + 1) a2 m1 m2 I2 J2 (by omega) y3)
      · have nf := r_fineN (r + 5) (G := G2) (J := J2) (K := K) lM (by rw [y5]; exact nm1 (by omega))
        simp only [↓mcI_of y1, ↓mcV_of y2, if_true, mb0, e_X12_house_91, e_X12_house_112, ↓vM lM, ↓mcI_of nf]
        exact Or.inr ⟨I2, J2, k, p, rfl, rfl, y3, y4, y5, y6, y7, y8, y9⟩
    · rw [if_neg s] at c1 g1
      simp only [↓vX lX, ↓vM lM, ↓mcI_of c1, ↓mcI_of fi, ↓mcI_of g1, if_neg z1, if_true]
      exact hl_end d r lX lH lM q'
end
