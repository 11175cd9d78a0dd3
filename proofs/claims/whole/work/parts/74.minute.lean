/-! the reference: a minute, its second half -/
theorem rof_c {nn : Int32} {S S' : Nat → Int32} {nh : Nat} (hnh4 : nh ≤ 4) (o : ∀ j, 68 ≤ j ∧ j < 168 → S' j = S j) : rof nn S' nh = rof nn S nh := by
  have h : ∀ x k, k ≤ 4 → rho S' x k = rho S x k := by
    intro x k
    induction k with
    | zero => intro _; rfl
    | succ k ih =>
      intro hk
      unfold rho
      rw [ih (by omega), o 71 (by omega), o (155 + 3 * k) (by omega), o (155 + 3 * k + 1) (by omega), o (155 + 3 * k + 2) (by omega)]
  unfold rof
  rw [o 70 (by omega), o 68 (by omega), o 69 (by omega), o 71 (by omega), h _ nh hnh4]
theorem rnw_c {w1 w2 wt wm off : Int32} {H S S' : Nat → Int32} {sr k : Nat} (h1 : S' (8 + k) = S (8 + k)) (h2 : S' sr = S sr) (h3 : S' (32 + sr) = S (32 + sr)) : rnw w1 w2 wt wm off H S' sr k = rnw w1 w2 wt wm off H S sr k := by
  unfold rnw ree
  rw [h1, h2, raj_c h3]
theorem r_min222 (d : Nat) {G : mG} {I : Nat → Nat → Int32} {L : Nat → Nat → Int64} {m n nh : Nat} {sb sr : Nat → Nat} {all : Int32} (hM : LayM G m) (hn : I (m + 1) 164 = Int32.ofNat n) (hn8 : n ≤ 8) (hnh : I (m + 4) 154 = Int32.ofNat nh) (hnh4 : nh ≤ 4) (hsb : ∀ k, k < n → rsb (I m 15) (I m 16) (Int32.ofNat k) = Int32.ofNat (sb k) ∧ sb k < 8 ∧ I (m + 1) (120 + sb k) = Int32.ofNat (sr k) ∧ sr k < 8) : f_X12_minute (d + 4) 222 [.ref m, .int all, .int 0] [] (G, I, L) = f_X12_minute (d + 4) 241 [.ref m, .int all, mU] [] (G, va_up I (m + 4) (mS6 I m (I (m + 4)) sr nh n), va_up L (m + 6) (pre n (mTu I m (I (m + 4)) (L (m + 6)) sr nh) (L (m + 6)))) := by
  have A := loopy (fun i (q : (Nat → Int32) × (Nat → Int64)) => f_X12_minute (d + 4) 222 [.ref m, .int all, .int i] [] (G, va_up I (m + 4) q.1, va_up L (m + 6) q.2)) (fun k => (mS6 I m (I (m + 4)) sr nh k, pre k (mTu I m (I (m + 4)) (L (m + 6)) sr nh) (L (m + 6)))) n (I (m + 4), L (m + 6)) (by unfold mS6; simp only [seg_0, pre_0]) (by
    intro k hk
    try dsimp only
    obtain ⟨s1, s2, s3, s4⟩ := hsb k hk
    have o : ∀ j, j < 8 ∨ (8 + k ≤ j ∧ j < 16) ∨ 16 + k ≤ j → mS6 I m (I (m + 4)) sr nh k j = I (m + 4) j := by
      intro j hj
      unfold mS6
      rw [seg_out (by omega), seg_out (by omega)]
    have of : rof (I m 21) (mS6 I m (I (m + 4)) sr nh k) nh = rof (I m 21) (I (m + 4)) nh := rof_c hnh4 fun j hj => o j (by omega)
    have mv := r_moves d (I := va_up I (m + 4) (mS6 I m (I (m + 4)) sr nh k)) (L := va_up L (m + 6) (pre k (mTu I m (I (m + 4)) (L (m + 6)) sr nh) (L (m + 6)))) (k := k) (nh := nh) (sb := sb k) (sr := sr k) (off := rof (I m 21) (I (m + 4)) nh) hM (by omega) (by rw [up_eq, o _ (by omega)]; exact hnh) hnh4 (by simp (disch := omega) only [up_ne, up_eq]; exact of.symm) (by simp (disch := omega) only [up_ne]; exact s1) s2 (by simp (disch := omega) only [up_ne]; exact s3) s4
    simp (disch := omega) only [up_ne, up_eq, up_up] at mv
    rw [rnw_c (o _ (by omega)) (o _ (by omega)) (o _ (by omega)), o (8 + k) (by omega), o (16 + k) (by omega), pre_ge (by omega)] at mv
    rw [e_X12_minute_222]
    simp (disch := omega) only [↓vM hM, ↓mcI_of (r_radiators (d + 3) hM), up_ne, hn, if_neg (i_ng hk (by omega)), ↓mcV_of mv, i_one]
    have a1 : va_up (va_up (mS6 I m (I (m + 4)) sr nh k) (16 + k) (mDr I m (I (m + 4)) sr nh k)) (8 + k) (mNw I m (I (m + 4)) sr nh k) = mS6 I m (I (m + 4)) sr nh (k + 1) := by
      unfold mS6
      simp (disch := omega) only [seg_t, seg_up]
    have a2 : va_up (pre k (mTu I m (I (m + 4)) (L (m + 6)) sr nh) (L (m + 6))) k (mTu I m (I (m + 4)) (L (m + 6)) sr nh k) = pre (k + 1) (mTu I m (I (m + 4)) (L (m + 6)) sr nh) (L (m + 6)) := pre_s rfl
    rw [← a1, ← a2]
    rfl)
  try dsimp only at A
  rw [up_id, up_id] at A
  rw [A, e_X12_minute_222]
  simp (disch := omega) only [↓vM hM, ↓mcI_of (r_radiators (d + 3) hM), up_ne, hn, if_pos i_rf]
theorem r_min153 (d : Nat) {G : mG} {I : Nat → Nat → Int32} {L : Nat → Nat → Int64} {m n hr : Nat} {all : Int32} (hM : LayM G m) (hn : I (m + 1) 164 = Int32.ofNat n) (hn8 : n ≤ 8) (hh : hou (I (m + 4) 71) = Int32.ofNat hr) (h24 : hr < 24) : f_X12_minute (d + 3) 153 [.ref m, .int all, mU] [] (G, I, L) = f_X12_minute (d + 3) 222 [.ref m, .int all, .int 0] [] (G, va_up I (m + 4) (isg 168 4 (rdd (I (m + 1)) (mSt (I (m + 4)) all) hr n) (mSt (I (m + 4)) all)), L) := by
  have fo := r_flowsOn d (I := va_up I (m + 4) (mSt (I (m + 4)) all)) (L := L) (n := n) (hr := hr) hM (by simp (disch := omega) only [up_ne]; exact hn) hn8 (by
    rw [up_eq]
    unfold mSt
    simp (disch := omega) only [up_ne]
    exact hh) h24
  simp (disch := omega) only [up_ne, up_eq, up_up] at fo
  have t180 : ∀ y : Int32, y = (if all ≤ 0 then 0 else if I (m + 4) 73 = 0 then 1 else 0) → f_X12_minute (d + 3) 180 [.ref m, .int all, mU] [.int y, .int (I (m + 4) 72), .int 72, .ref (m + 4)] (G, I, L) = f_X12_minute (d + 3) 222 [.ref m, .int all, .int 0] [] (G, va_up I (m + 4) (isg 168 4 (rdd (I (m + 1)) (mSt (I (m + 4)) all) hr n) (mSt (I (m + 4)) all)), L) := by
    intro y hy
    have t197 : ∀ z : Int32, z = (if all ≤ 0 then 0 else 1) → f_X12_minute (d + 3) 197 [.ref m, .int all, mU] [.int z, .int 73, .ref (m + 4)] (G, va_up I (m + 4) (va_up (I (m + 4)) 72 (I (m + 4) 72 + y)), L) = f_X12_minute (d + 3) 222 [.ref m, .int all, .int 0] [] (G, va_up I (m + 4) (isg 168 4 (rdd (I (m + 1)) (mSt (I (m + 4)) all) hr n) (mSt (I (m + 4)) all)), L) := by
      intro z hz
      have e : mSt (I (m + 4)) all = va_up (va_up (va_up (I (m + 4)) 72 (I (m + 4) 72 + y)) 73 z) 172 (I (m + 4) 172 + z) := by
        unfold mSt
        rw [← hy, ← hz]
      rw [e_X12_minute_197]
      simp (disch := omega) only [↓vM hM, up2_e, up_eq, up_up, up_ne]
      rw [← e]
      simp only [↓mcV_of fo]
    rw [e_X12_minute_180]
    simp (disch := omega) only [↓vM hM, up2_e]
    by_cases c : all ≤ 0
    · rw [if_pos c, e_X12_minute_196]
      exact t197 0 (by rw [if_pos c])
    · rw [if_neg c]
      exact t197 1 (by rw [if_neg c])
  rw [e_X12_minute_153]
  simp (disch := omega) only [↓vM hM]
  by_cases c : all ≤ 0
  · rw [if_pos c, e_X12_minute_179]
    exact t180 0 (by rw [if_pos c])
  rw [if_neg c]
  by_cases c2 : I (m + 4) 73 = 0
  · rw [if_pos c2]
    exact t180 1 (by rw [if_neg c, if_pos c2])
  · rw [if_neg c2, e_X12_minute_179]
    exact t180 0 (by rw [if_neg c, if_neg c2])
theorem mS2_o {I : Nat → Nat → Int32} {m : Nat} {pi rm : Nat → Nat} {hr nr n j : Nat} (hnr8 : nr ≤ 8) (h : j < 74 ∨ 114 ≤ j) : mS2 I m pi rm hr nr n j = mS1 I m pi rm hr n j := by
  unfold mS2 mSs
  simp (disch := omega) only [seg_out]
theorem mS3_o {I : Nat → Nat → Int32} {m : Nat} {pi rm : Nat → Nat} {hr nr n j : Nat} (hnr8 : nr ≤ 8) (hn8 : n ≤ 8) (h : (8 ≤ j ∧ j < 74) ∨ 130 ≤ j) : mS3 I m pi rm hr nr n j = I (m + 4) j := by
  unfold mS3
  rw [pre_ge (by omega), mS2_o hnr8 (by omega), mS1_o hn8 (by omega)]
theorem mS4_o {I : Nat → Nat → Int32} {m : Nat} {pi rm : Nat → Nat} {hr nr n j : Nat} (hnr8 : nr ≤ 8) (hn8 : n ≤ 8) (h : (8 ≤ j ∧ j < 72) ∨ (130 ≤ j ∧ j < 172)) : mS4 I m pi rm hr nr n j = I (m + 4) j := by
  unfold mS4 mSt
  rw [up_ne (by omega), up_ne (by omega), up_ne (by omega), mS3_o hnr8 hn8 (by omega)]
theorem mS5_o {I : Nat → Nat → Int32} {m : Nat} {pi rm : Nat → Nat} {hr nr n j : Nat} (hnr8 : nr ≤ 8) (hn8 : n ≤ 8) (h : (8 ≤ j ∧ j < 72) ∨ (130 ≤ j ∧ j < 168)) : mS5 I m pi rm hr nr n j = I (m + 4) j := by
  unfold mS5
  rw [seg_out (by omega), mS4_o hnr8 hn8 (by omega)]
/-- a minute up to the writing of the diary -/
theorem r_min241 (d : Nat) {G : mG} {I : Nat → Nat → Int32} {L : Nat → Nat → Int64} {m nr n hr nh : Nat} {pi rm sb sr : Nat → Nat} (hM : LayM G m) (hnr : I (m + 1) 163 = Int32.ofNat nr) (hnr8 : nr ≤ 8) (hn : I (m + 1) 164 = Int32.ofNat n) (hn8 : n ≤ 8) (hP : ∀ k, k < n → I (m + 1) (128 + k) = Int32.ofNat (pi k) ∧ pi k < 4) (hR : ∀ k, k < n → I (m + 1) (120 + k) = Int32.ofNat (rm k) ∧ rm k < 8) (hh : hou (I (m + 4) 71) = Int32.ofNat hr) (h24 : hr < 24) (hq : 0 < lg_cmp (sml n fun j => Int32.toInt64 (rh0 (I m 15) (I m 16) (I (m + 1)) (I (m + 4)) pi rm hr n j)) (Int32.toInt64 (I (m + 1) 161)) → ¬ (sml n fun j => Int32.toInt64 (rh0 (I m 15) (I m 16) (I (m + 1)) (I (m + 4)) pi rm hr n j)) = 0) (hms : ∀ r, r < nr → ¬ I (m + 1) r = 0) (hnh : I (m + 4) 154 = Int32.ofNat nh) (hnh4 : nh ≤ 4) (hsb : ∀ k, k < n → rsb (I m 15) (I m 16) (Int32.ofNat k) = Int32.ofNat (sb k) ∧ sb k < 8 ∧ I (m + 1) (120 + sb k) = Int32.ofNat (sr k) ∧ sr k < 8) : mcal mT (d + 5) 214 [.ref m] (G, I, L) = f_X12_minute (d + 4) 241 [.ref m, .int (mAl I m pi rm hr n), mU] [] (G, va_up (va_up I (m + 8) (pre nr (mTe I m pi rm hr nr n) (I (m + 8)))) (m + 4) (mS6 I m (mS5 I m pi rm hr nr n) sr nh n), va_up L (m + 6) (mL2 I (L (m + 6)) m pi rm sr hr nr n nh)) := by
  have eA : mcal mT (d + 4) 222 [.ref m] (G, I, L) = some (.inl none, (G, va_up I (m + 4) (mS1 I m pi rm hr n), L)) := r_heats (d + 1) hM hn hn8 hP hR hh h24 hq
  simp only [q_X12_minute_, e_X12_minute_0, ↓vM hM, ↓mcV_of eA]
  have o1 : ∀ j, j < 114 ∨ 130 ≤ j → mS1 I m pi rm hr n j = I (m + 4) j := fun j hj => mS1_o hn8 hj
  have B := r_min8 (d + 3) (I := va_up I (m + 4) (mS1 I m pi rm hr n)) (L := L) (n := n) hM (by simp (disch := omega) only [up_ne]; exact hn) hn8
  simp only [up_eq] at B
  rw [B]
  have C := r_min98 (d + 1) (I := va_up I (m + 4) (mS1 I m pi rm hr n)) (L := va_up L (m + 6) (mL1 (mS1 I m pi rm hr n) (L (m + 6)) n)) (nr := nr) (n := n) (hr := hr) (out := rou (I m 20) (I m 17) (I (m + 4)) hr) (all := sm n (fun k => mS1 I m pi rm hr n (122 + k))) hM (by simp (disch := omega) only [up_ne]; exact hnr) hnr8 (by simp (disch := omega) only [up_ne]; exact hn) hn8 (by rw [up_eq, o1 _ (by omega)]; exact hh) h24 (by
    simp (disch := omega) only [up_ne, up_eq]
    unfold rou
    rw [o1 _ (by omega)]) (fun r hr => by simp (disch := omega) only [up_ne]; exact hms r hr)
  simp (disch := omega) only [up_ne, up_eq, up_mid] at C
  rw [C]
  have D := r_min153 (d + 1) (I := va_up (va_up I (m + 8) (pre nr (mTe I m pi rm hr nr n) (I (m + 8)))) (m + 4) (mS3 I m pi rm hr nr n)) (L := va_up L (m + 6) (mL1 (mS1 I m pi rm hr n) (L (m + 6)) n)) (n := n) (hr := hr) (all := mAl I m pi rm hr n) hM (by simp (disch := omega) only [up_ne]; exact hn) hn8 (by rw [up_eq, mS3_o hnr8 hn8 (by omega)]; exact hh) h24
  simp (disch := omega) only [up_ne, up_eq, up_up] at D
  refine Eq.trans D ?_
  have E := r_min222 d (I := va_up (va_up I (m + 8) (pre nr (mTe I m pi rm hr nr n) (I (m + 8)))) (m + 4) (mS5 I m pi rm hr nr n)) (L := va_up L (m + 6) (mL1 (mS1 I m pi rm hr n) (L (m + 6)) n)) (n := n) (nh := nh) (sb := sb) (sr := sr) (all := mAl I m pi rm hr n) hM (by simp (disch := omega) only [up_ne]; exact hn) hn8 (by rw [up_eq, mS5_o hnr8 hn8 (by omega)]; exact hnh) hnh4 (fun k hk => by simp (disch := omega) only [up_ne]; exact hsb k hk)
  simp (disch := omega) only [up_eq, up_up] at E
  refine Eq.trans E ?_
  have w : ∀ S : Nat → Int32, mS6 (va_up (va_up I (m + 8) (pre nr (mTe I m pi rm hr nr n) (I (m + 8)))) (m + 4) (mS5 I m pi rm hr nr n)) m S sr nh n = mS6 I m S sr nh n := by
    intro S
    unfold mS6 mDr mNw
    simp (disch := omega) only [up_ne]
  have w2 : mTu (va_up (va_up I (m + 8) (pre nr (mTe I m pi rm hr nr n) (I (m + 8)))) (m + 4) (mS5 I m pi rm hr nr n)) m (mS5 I m pi rm hr nr n) (mL1 (mS1 I m pi rm hr n) (L (m + 6)) n) sr nh = mTu I m (mS5 I m pi rm hr nr n) (mL1 (mS1 I m pi rm hr n) (L (m + 6)) n) sr nh := by
    funext k
    unfold mTu mNw
    simp (disch := omega) only [up_ne]
  rw [w, w2]
  rfl
theorem r_minTrial (d : Nat) {G : mG} {I : Nat → Nat → Int32} {L : Nat → Nat → Int64} {m nr n hr nh : Nat} {pi rm sb sr : Nat → Nat} (hM : LayM G m) (hnr : I (m + 1) 163 = Int32.ofNat nr) (hnr8 : nr ≤ 8) (hn : I (m + 1) 164 = Int32.ofNat n) (hn8 : n ≤ 8) (hP : ∀ k, k < n → I (m + 1) (128 + k) = Int32.ofNat (pi k) ∧ pi k < 4) (hR : ∀ k, k < n → I (m + 1) (120 + k) = Int32.ofNat (rm k) ∧ rm k < 8) (hh : hou (I (m + 4) 71) = Int32.ofNat hr) (h24 : hr < 24) (hq : 0 < lg_cmp (sml n fun j => Int32.toInt64 (rh0 (I m 15) (I m 16) (I (m + 1)) (I (m + 4)) pi rm hr n j)) (Int32.toInt64 (I (m + 1) 161)) → ¬ (sml n fun j => Int32.toInt64 (rh0 (I m 15) (I m 16) (I (m + 1)) (I (m + 4)) pi rm hr n j)) = 0) (hms : ∀ r, r < nr → ¬ I (m + 1) r = 0) (hnh : I (m + 4) 154 = Int32.ofNat nh) (hnh4 : nh ≤ 4) (hsb : ∀ k, k < n → rsb (I m 15) (I m 16) (Int32.ofNat k) = Int32.ofNat (sb k) ∧ sb k < 8 ∧ I (m + 1) (120 + sb k) = Int32.ofNat (sr k) ∧ sr k < 8) (ht : ¬ I m 24 = 0) : mcal mT (d + 5) 214 [.ref m] (G, I, L) = some (.inl (some (.int (mAl I m pi rm hr n))), (G, va_up (va_up I (m + 8) (pre nr (mTe I m pi rm hr nr n) (I (m + 8)))) (m + 4) (mS7 I m pi rm sr hr nr n nh), va_up L (m + 6) (mL2 I (L (m + 6)) m pi rm sr hr nr n nh))) := by
  rw [r_min241 d hM hnr hnr8 hn hn8 hP hR hh h24 hq hms hnh hnh4 hsb, e_X12_minute_241]
  simp (disch := omega) only [↓vM hM, up2_e, up_eq, up_ne, up_up, if_neg ht, e_X12_minute_263]
  rfl
