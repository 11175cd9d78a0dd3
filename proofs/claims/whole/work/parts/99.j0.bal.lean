/-! balancing: ways of putting screws -/
def mq (n : Nat) : Nat := if 4 ≤ n then 4 else n
def dgt (m c k : Nat) : Nat := 4 * (c / 4 ^ (m - 1 - k) % 4) + 4
def tsm (m c : Nat) (sk : Nat → Nat) : Nat → Nat
  | 0 => 0
  | k + 1 => tsm m c sk k + ((dgt m c k - sk k) + (sk k - dgt m c k))
theorem mq_le (n : Nat) : mq n ≤ 4 ∧ mq n ≤ n := by
  unfold mq
  by_cases c : 4 ≤ n
  · rw [if_pos c]; omega
  · rw [if_neg c]; omega
theorem mq_i : ∀ n, n < 9 → jmin 4 (Int32.ofNat n) = Int32.ofNat (mq n) := by decide +kernel
theorem dgt_b (m c k : Nat) : 4 ≤ dgt m c k ∧ dgt m c k ≤ 16 := by
  unfold dgt
  have := Nat.mod_lt (c / 4 ^ (m - 1 - k)) (show 4 > 0 by decide)
  omega
theorem scw : ∀ c, c < 256 → ∀ j, j < 4 → (4 : Int32) + 4 * ((Int32.ofNat c >>> (Int32.ofNat (2 * j) &&& 31)) &&& 3) = Int32.ofNat (4 * (c / 4 ^ j % 4) + 4) := by decide +kernel
theorem scv : ∀ m, m < 5 → ∀ k, k < m → 2 * ((Int32.ofNat m - 1) - Int32.ofNat k) = Int32.ofNat (2 * (m - 1 - k)) := by decide +kernel
theorem sca : ∀ a, a < 17 → ∀ b, b < 17 → jabs (Int32.ofNat a - Int32.ofNat b) = Int32.ofNat ((a - b) + (b - a)) := by decide +kernel
theorem scr_r : ∀ a, a < 17 → ∀ b, b < 17 → (if (0 : Int32) ≤ Int32.ofNat a - Int32.ofNat b then Int32.ofNat a - Int32.ofNat b else -(Int32.ofNat a - Int32.ofNat b)) = Int32.ofNat ((a - b) + (b - a)) := by decide +kernel
theorem scp : ∀ m, m < 5 → (1 : Int32) <<< ((2 * Int32.ofNat m) &&& 31) = Int32.ofNat (4 ^ m) := by decide +kernel
theorem p4 {m : Nat} (h : m ≤ 4) : 4 ^ m ≤ 256 ∧ 1 ≤ 4 ^ m := by
  have : ∀ m, m < 5 → 4 ^ m ≤ 256 ∧ 1 ≤ 4 ^ m := by decide
  exact this m (by omega)
theorem tsm_b {m c : Nat} {sk : Nat → Nat} : ∀ k, (∀ j, j < k → 1 ≤ sk j ∧ sk j ≤ 16) → tsm m c sk k ≤ 15 * k := by
  intro k
  induction k with
  | zero => intro _; exact Nat.le_refl _
  | succ k ih =>
    intro h
    have a := ih (fun j hj => h j (by omega))
    have b := h k (by omega)
    have e := dgt_b m c k
    unfold tsm
    omega
theorem tsm_m {m c : Nat} {sk : Nat → Nat} : ∀ k j, tsm m c sk k ≤ tsm m c sk (k + j) := by
  intro k j
  induction j with
  | zero => exact Nat.le_refl _
  | succ j ih =>
    have : tsm m c sk (k + (j + 1)) = tsm m c sk (k + j) + ((dgt m c (k + j) - sk (k + j)) + (sk (k + j) - dgt m c (k + j))) := rfl
    omega
section
variable {G : mG} {I : Nat → Nat → Int32} {L : Nat → Nat → Int64} {h hs bl bs cl cs n c : Nat} {sk : Nat → Nat}
theorem c_bR (d : Nat) (lB : LayB G hs bl bs cl cs) (lP : LayP G 117 h 132 139 153) (lH : LayH G h) (s4 : I h 10 = Int32.ofNat n) (s6 : n ≤ 8) : mcal mT (d + 1) 138 [.ref 100] (G, I, L) = some (.inl (some (.int (Int32.ofNat (mq n)))), (G, I, L)) := by
  simp only [q_X11_balancedRadiators_, e_X11_balancedRadiators_0, ↓vB lB, ↓vP lP, ↓vH lH, s4, mq_i n (by omega)]
theorem c_sW (d : Nat) {k : Nat} (lB : LayB G hs bl bs cl cs) (lP : LayP G 117 h 132 139 153) (lH : LayH G h) (s4 : I h 10 = Int32.ofNat n) (s6 : n ≤ 8) (hc : c < 256) (hk : k < mq n) : mcal mT (d + 2) 139 [.ref 100, .int (Int32.ofNat c), .int (Int32.ofNat k)] (G, I, L) = some (.inl (some (.int (Int32.ofNat (dgt (mq n) c k)))), (G, I, L)) := by
  have m4 := (mq_le n).1
  rw [q_X11_screwByWay_, e_X11_screwByWay_0]
  simp only [↓vB lB, ↓mcI_of (c_bR d (L := L) lB lP lH s4 s6), scv (mq n) (by omega) k hk, scw c hc (mq n - 1 - k) (by omega)]
  rfl
theorem c_tO (d : Nat) (lB : LayB G hs bl bs cl cs) (lP : LayP G 117 h 132 139 153) (lH : LayH G h) (lS : LayS G 132) (s4 : I h 10 = Int32.ofNat n) (s6 : n ≤ 8) (hc : c < 256) (hs : ∀ k, k < n → I 133 k = Int32.ofNat (sk k) ∧ sk k ≤ 16) : mcal mT (d + 3) 140 [.ref 100, .int (Int32.ofNat c)] (G, I, L) = some (.inl (some (.int (Int32.ofNat (tsm (mq n) c sk (mq n))))), (G, I, L)) := by
  have m4 := mq_le n
  rw [q_X11_turningOf_, e_X11_turningOf_0]
  have lp := loopx (fun k (s : Int32) => f_X11_turningOf (d + 2) 4 [.ref 100, .int (Int32.ofNat c), .int s, .int k] [] (G, I, L)) (fun k => Int32.ofNat (tsm (mq n) c sk k)) (mq n) (fun k hk => by
    obtain ⟨a1, a2⟩ := hs k (by omega)
    have a1' : I (132 + 1) k = Int32.ofNat (sk k) := a1
    have e := dgt_b (mq n) c k
    have nn : ¬ Int32.ofNat (mq n) ≤ Int32.ofNat k := fun p => by have := (i_le (by omega) (by omega)).mp p; omega
    show f_X11_turningOf (d + 2) 4 _ _ _ = _
    rw [e_X11_turningOf_4]
    simp (disch := omega) only [↓vB lB, ↓mcI_of (c_bR (d + 1) (L := L) lB lP lH s4 s6), if_neg nn, ↓mcI_of (c_sW d (L := L) lB lP lH s4 s6 hc hk), ↓vP lP, ↓vS lS, a1', sca (dgt (mq n) c k) (by omega) (sk k) (by omega), i_add, i_one]
    rfl)
  refine Eq.trans lp ?_
  show f_X11_turningOf (d + 2) 4 _ _ _ = _
  rw [e_X11_turningOf_4]
  simp only [↓vB lB, ↓mcI_of (c_bR (d + 1) (L := L) lB lP lH s4 s6), if_pos i_rf, e_X11_turningOf_43]
end
/-- a trial whose air outside is told -/
theorem CoR_out {I I' J J' : Nat → Nat → Int32} {nr n mm nh M : Nat} {sb sr : Nat → Nat} {out : Int32} (q : CoR I J 171 178 192 219 nr n mm nh sb sr M) (hI : ∀ a, a ≠ 173 → I' a = I a) (hO : ∀ hr, hr < 24 → I' 173 hr = out) (hJ : ∀ a, a ≠ 219 → J' a = J a) (hF : ∀ k, k ≠ 17 → k ≠ 20 → J' 219 k = J 219 k) (h20 : J' 219 20 = 1) (h17 : J' 219 17 = out) : CoR I' J' 171 178 192 219 nr n mm nh sb sr M := by
  obtain ⟨q1, q2, q3, q4, q5, q6, q7, q8, q9, q10, q11, q12, q13⟩ := q
  have a15 := hF 15 (by decide) (by decide)
  have a16 := hF 16 (by decide) (by decide)
  have a18 := hF 18 (by decide) (by decide)
  have a19 := hF 19 (by decide) (by decide)
  have a21 := hF 21 (by decide) (by decide)
  have j0 : J' (219 + 1) = J (219 + 1) := hJ _ (by decide)
  have j3 : J' (219 + 4) = J (219 + 4) := hJ _ (by decide)
  refine ⟨?_, ?_, ?_, ?_, ?_, ?_, ?_, ?_, ?_, ?_, ?_, ?_, ?_⟩
  · rw [hI 178 (by decide), j3]; exact q1
  · rw [hI (178 + 1) (by decide), j3]; exact q2
  · rw [hI (178 + 7) (by decide), j3, j0, a15, a16]; exact q3
  · rw [hI (171 + 1) (by decide), j3]; exact q4
  · rw [hI 171 (by decide), j3]; exact q5
  · rw [hI (171 + 3) (by decide), j3]; exact q6
  · rw [hI 178 (by decide), j3, a15, a16]; exact q7
  · rw [hI 178 (by decide), j3, a15, a16]; exact q8
  · intro hr h24
    unfold rou
    rw [h20, if_neg (by decide), h17]
    exact hO hr h24
  · obtain ⟨b1, b2, b3, b4, b5⟩ := q10
    rw [hI 171 (by decide), j3]
    refine ⟨b1, b2, b3, b4, fun x => ?_⟩
    have e : ngt I' 171 (hou x) = ngt I 171 (hou x) := by unfold ngt; rw [hI 171 (by decide)]
    rw [hof_c (I := I) (hI _ (by decide)) (hI _ (by decide)) (hI _ (by decide)), e, a21]
    exact b5 x
  · rw [hI (192 + 1) (by decide), j0, a15, a16]; exact q11
  · rw [hI 192 (by decide), j0, a15, a16]; exact q12
  · rw [hI (192 + 2) (by decide), j0, a18, a19]; exact q13
/-- screws changed -/
theorem SeR_scr {I I' : Nat → Nat → Int32} {s n nh : Nat} {sv sv' : Nat → Int32} (q : SeR I s sv n nh) (hn8 : n ≤ 8) (hI : ∀ a, s ≤ a → a < s + 7 → a ≠ s + 1 → I' a = I a) (hs : ∀ j, (44 ≤ j ∧ j < 71) ∨ (130 ≤ j ∧ j < 168) → sv' j = sv j) (hk : ∀ k, k < n → I' (s + 1) k = sv' (24 + k) ∧ irng (sv' (24 + k)) 1 16) : SeR I' s sv' n nh := by
  obtain ⟨q1, q2, q3, q4, q5, q6, q7⟩ := q
  refine ⟨hk, ?_, ?_, ?_, ?_, ?_, ?_⟩
  · rw [hI s (by omega) (by omega) (by omega), hs 167 (by omega)]; exact q2
  · intro hr h24; rw [hI (s + 2) (by omega) (by omega) (by omega), hs (44 + hr) (by omega)]; exact q3 hr h24
  · intro hr h24; rw [hI (s + 3) (by omega) (by omega) (by omega), hs (130 + hr) (by omega)]; exact q4 hr h24
  · rw [hI s (by omega) (by omega) (by omega), hs 68 (by omega), hs 69 (by omega), hs 70 (by omega)]; exact q5
  · rw [hI s (by omega) (by omega) (by omega), hs 154 (by omega)]; exact q6
  · intro k hk'
    have := q6.2.2
    rw [hI (s + 4) (by omega) (by omega) (by omega), hI (s + 5) (by omega) (by omega) (by omega), hI (s + 6) (by omega) (by omega) (by omega), hs (155 + 3 * k) (by omega), hs (155 + 3 * k + 1) (by omega), hs (155 + 3 * k + 2) (by omega)]
    exact q7 k hk'
/-- the reference's heap before the minutes of a way's trial -/
def Jcn (J : Nat → Nat → Int32) (n c : Nat) (out : Int32) : Nat → Nat → Int32 := va_up (va_up (va_up (va_up J 223 (fun j => if 24 ≤ j ∧ j < 24 + mq n then Int32.ofNat (dgt (mq n) c (j - 24)) else J 223 j)) 219 (va_up (J 219) 24 1)) 223 (rbg (J 220) ((va_up (va_up J 223 (fun j => if 24 ≤ j ∧ j < 24 + mq n then Int32.ofNat (dgt (mq n) c (j - 24)) else J 223 j)) 219 (va_up (J 219) 24 1)) 223) n)) 219 (va_up (va_up ((va_up (va_up J 223 (fun j => if 24 ≤ j ∧ j < 24 + mq n then Int32.ofNat (dgt (mq n) c (j - 24)) else J 223 j)) 219 (va_up (J 219) 24 1)) 219) 20 1) 17 out)
section
variable {G G2 : mG} {I J : Nat → Nat → Int32} {L K : Nat → Nat → Int64} {h hs bl bs cl cs nr n nh M kc c : Nat} {rm pi mk : Nat → Nat}
/-- the class's trial of a way, up to its minutes -/
theorem bw_c (d : Nat) (out want : Int32) (q : LyR G h hs bl bs cl cs kc mk) (hb : 103 ≤ h ∧ h + 14 ≤ 132) (s4 : I h 10 = Int32.ofNat n) (s6 : n ≤ 8) (hc : c < 256) : f_X11_warmByWay (d + 5) 0 [.ref 100, .int (Int32.ofNat c), .int out, .int want, mU] [] (G, I, L) = f_X11_warmByWay (d + 5) 56 [.ref 100, mU, mU, .int want, mU] [] (gS G 156 0 (some h), va_up (va_up (tBg I h n) 173 (pre 24 (fun _ => out) (tBg I h n 173))) 172 (pre (mq n) (fun k => Int32.ofNat (dgt (mq n) c k)) (tBg I h n 172)), fil L 187 8 0) := by
  have m4 := mq_le n
  obtain ⟨q2, p2⟩ := LyR_T q h
  have hh := q.2.2.2.2.2.2.2.2.2.2.2.2.2.2.1
  obtain ⟨lB2, -, lP2, -, ⟨lH1, lH2⟩, ⟨-, lS2⟩, -⟩ := id q2
  have lH : LayH (gS G 156 0 (some h)) h := by
    rcases hh with ⟨a, -⟩ | ⟨a, -⟩
    · rw [a] at lH1 ⊢; exact lH1
    · rw [a] at lH2 ⊢; exact lH2
  have lB := q.1
  have tb := c_tryBeg (d + 2) (I := I) (L := L) q s4 s6
  have fl := c_fillI (d + 4) (G := gS G 156 0 (some h)) (I := tBg I h n) (L := fil L (178 + 9) 8 0) (a := 171 + 2) (n := 24) out lS2.2.2.2.2.2.1 lS2.2.2.2.2.2.2.1 (by decide)
  rw [e_X11_warmByWay_0]
  simp only [↓vB lB, ↓mcV_of tb, ↓vB lB2, ↓vP p2, ↓vS lS2, ↓mcV_of fl]
  generalize hI1 : va_up (tBg I h n) (171 + 2) (pre 24 (fun _ => out) (tBg I h n (171 + 2))) = I1
  have e172 : tBg I h n 172 = I1 172 := by rw [← hI1, up_ne (by decide)]
  rw [e172]
  have t4 : ∀ R, (va_up I1 172 R) h 10 = Int32.ofNat n := fun R => by
    rw [up_ne (by omega), ← hI1, up_ne (by omega), tBg_fr (by omega)]; exact s4
  have lp := loopy (fun k (s : mH) => f_X11_warmByWay (d + 5) 21 [.ref 100, .int (Int32.ofNat c), mU, .int want, .int k] [] s) (fun k => (gS G 156 0 (some h), va_up I1 172 (pre k (fun k => Int32.ofNat (dgt (mq n) c k)) (I1 172)), fil L (178 + 9) 8 0)) (mq n) (gS G 156 0 (some h), I1, fil L (178 + 9) 8 0) (by rw [pre_0, up_id]) (fun k hk => by
    have nn : ¬ Int32.ofNat (mq n) ≤ Int32.ofNat k := fun p => by have := (i_le (by omega) (by omega)).mp p; omega
    show f_X11_warmByWay (d + 5) 21 _ _ _ = f_X11_warmByWay (d + 5) 21 _ _ _
    rw [e_X11_warmByWay_21]
    simp (disch := omega) only [↓vB lB2, ↓mcI_of (c_bR (d + 4) (L := fil L (178 + 9) 8 0) lB2 lP2 lH (t4 _) s6), if_neg nn, ↓vP p2, ↓vS lS2, ↓mcI_of (c_sW (d + 3) (L := fil L (178 + 9) 8 0) lB2 lP2 lH (t4 _) s6 hc hk), i_one]
    simp only [show (171 : Nat) + 1 = 172 from rfl, up2_e, up_eq, up_up]
    rw [pre_s]
    rfl)
  refine Eq.trans lp ?_
  show f_X11_warmByWay (d + 5) 21 _ _ _ = _
  rw [e_X11_warmByWay_21]
  simp only [↓vB lB2, ↓mcI_of (c_bR (d + 4) (L := fil L (178 + 9) 8 0) lB2 lP2 lH (t4 _) s6), if_pos i_rf]
/-- a way tried by both -/
theorem bw_pair (d e : Nat) (out want : Int32) (q : LyR G h hs bl bs cl cs kc mk) (lM : LayM G2 219) (hb : 103 ≤ h ∧ h + 14 ≤ 132) (hB : BsR I J L K h nr n nh M rm pi) (hr2 : ∀ r, r < nr → I (h + 2) r = J 220 (8 + r) ∧ irng (J 220 (8 + r)) 0 4000) (hc : c < 256) : ∃ b I' L', (b = 0 ∨ b = 1) ∧ mcal mT (d + 6) 142 [.ref 100, .int (Int32.ofNat c), .int out, .int want] (G, I, L) = some (.inl (some (.int b)), (gS G 156 0 (some h), I', L')) ∧ QuC I I' L L' ∧ (∃ v J' K', mcal mT (e + 6) 227 [.ref 219, .int 180] (G2, Jcn J n c out, K) = some (.inl (some (.int v)), (G2, J', K')) ∧ mcal mT (e + 6) 252 [.ref 219, .int want] (G2, va_up J' 219 (va_up (J' 219) 20 0), K') = some (.inl (some (.int b)), (G2, va_up J' 219 (va_up (J' 219) 20 0), K'))) ∧ ∀ (J1 : Nat → Nat → Int32) (K1 : Nat → Nat → Int64) (x3 x4 t : Int32), J1 220 = J 220 → (∀ k, k ≠ 17 → k ≠ 24 → k ≠ 34 → J1 219 k = J 219 k) → J1 219 24 = 1 → (∀ j, j < 173 → J1 223 j = if 24 ≤ j ∧ j < 24 + mq n then Int32.ofNat (dgt (mq n) c (j - 24)) else J 223 j) → ∃ J2 K2, f_X12_findBalanced (e + 6) 172 [.ref 219, .int out, .int want, .int x3, .int x4, .int (Int32.ofNat c), .int t, mU, mU, mU] [] (G2, J1, K1) = (if b = 0 then f_X12_findBalanced (e + 6) 250 [.ref 219, .int out, .int want, .int x3, .int x4, .int (Int32.ofNat c), mU, mU, mU, mU] [] (G2, J2, K2) else f_X12_findBalanced (e + 6) 211 [.ref 219, .int out, .int want, .int x3, .int x4, .int (Int32.ofNat c), .int t, mU, mU, mU] [] (G2, J2, K2)) ∧ (∀ a, a ≠ 219 → a ≠ 223 → a ≠ 227 → J2 a = J1 a) ∧ (∀ k, k ≠ 17 → J2 219 k = J1 219 k) ∧ (∀ a, a ≠ 225 → K2 a = K1 a) ∧ ∀ k, k < n → J2 223 (24 + k) = if k < mq n then Int32.ofNat (dgt (mq n) c k) else J 223 (24 + k) := by
  obtain ⟨hH, ⟨f15, f16, f18, f20, f21, f24⟩, hS, hT⟩ := id hB
  have hn8 := hH.1.2.2.2.2.2
  have hnr8 := hH.1.2.2.1
  have z1 : ¬ (1 : Int32) = 0 := by decide
  have m4 := mq_le n
  have bc := bw_c d (L := L) out want q hb hH.1.2.2.2.1 hn8 hc
  obtain ⟨q2, p2⟩ := LyR_T q h
  have hh := q.2.2.2.2.2.2.2.2.2.2.2.2.2.2.1
  obtain ⟨lB2, -, -, -, ⟨lH1, lH2⟩, ⟨-, lS2⟩, ⟨-, lT2⟩, ⟨-, lU2⟩, -⟩ := id q2
  have lH : LayH (gS G 156 0 (some h)) h := by
    rcases hh with ⟨a, -⟩ | ⟨a, -⟩
    · rw [a] at lH1 ⊢; exact lH1
    · rw [a] at lH2 ⊢; exact lH2
  generalize hI4 : va_up (tBg I h n) 172 (pre (mq n) (fun k => Int32.ofNat (dgt (mq n) c k)) (tBg I h n 172)) = I4
  generalize hI5 : va_up (va_up (tBg I h n) 173 (pre 24 (fun _ => out) (tBg I h n 173))) 172 (pre (mq n) (fun k => Int32.ofNat (dgt (mq n) c k)) (tBg I h n 172)) = I5 at bc
  have e45 : ∀ a, a ≠ 173 → I5 a = I4 a := by
    intro a ha
    rw [← hI5, ← hI4]
    by_cases c : a = 172
    · rw [c, up_eq, up_eq]
    · rw [up_ne c, up_ne c, up_ne ha]
  have o5 : ∀ hr, hr < 24 → I5 173 hr = out := fun hr h24 => by rw [← hI5, up_ne (by decide), up_eq, pre_lt h24]
  have f4 : ∀ a, a ≠ 172 → I4 a = tBg I h n a := fun a ha => by rw [← hI4, up_ne ha]
  have s4 : ∀ k, k < 8 → I4 172 k = if k < mq n then Int32.ofNat (dgt (mq n) c k) else I 133 k := by
    intro k hk
    rw [← hI4, up_eq]
    by_cases p : k < mq n
    · rw [pre_lt p, if_pos p]
    · rw [pre_ge p, if_neg p, tBg_s (by decide) (by decide)]
      have r1 := (cpS_r (I := I) (s := 171) (o := 132) (by decide)).1
      rw [show cpS I 171 132 172 = pre 8 (I 133) (I 172) from r1, pre_lt hk]
  have key : ∀ (J1 : Nat → Nat → Int32) (K1 : Nat → Nat → Int64), J1 220 = J 220 → (∀ k, k ≠ 17 → k ≠ 24 → k ≠ 34 → J1 219 k = J 219 k) → J1 219 24 = 1 → (∀ j, j < 173 → J1 223 j = if 24 ≤ j ∧ j < 24 + mq n then Int32.ofNat (dgt (mq n) c (j - 24)) else J 223 j) → ∃ b v I' L' J' K', (b = 0 ∨ b = 1) ∧ mcal mT (d + 5) 55 [.ref 156, .int 180] (gS G 156 0 (some h), I5, fil L 187 8 0) = some (.inl (some (.int v)), (gS G 156 0 (some h), I', L')) ∧ mcal mT (d + 5) 73 [.ref 156, .int want] (gS G 156 0 (some h), I', L') = some (.inl (some (.int b)), (gS G 156 0 (some h), I', L')) ∧ mcal mT (e + 6) 227 [.ref 219, .int 180] (G2, va_up (va_up J1 223 (rbg (J 220) (J1 223) n)) 219 (va_up (va_up (J1 219) 20 1) 17 out), K1) = some (.inl (some (.int v)), (G2, J', K')) ∧ mcal mT (e + 6) 252 [.ref 219, .int want] (G2, va_up J' 219 (va_up (J' 219) 20 0), K') = some (.inl (some (.int b)), (G2, va_up J' 219 (va_up (J' 219) 20 0), K')) ∧ QuC I I' L L' ∧ FrM (va_up (va_up J1 223 (rbg (J 220) (J1 223) n)) 219 (va_up (va_up (J1 219) 20 1) 17 out)) J' K1 K' 219 ∧ ∀ k, k < n → J' 223 (24 + k) = if k < mq n then Int32.ofNat (dgt (mq n) c k) else J 223 (24 + k) := by
    intro J1 K1 e0 e9 e24 e3
    generalize hJ3 : va_up J1 223 (rbg (J 220) (J1 223) n) = J3
    have o3 : J3 223 = rbg (J 220) (J1 223) n := by rw [← hJ3, up_eq]
    have oo : ∀ a, a ≠ 223 → J3 a = J1 a := fun a h1 => by rw [← hJ3, up_ne h1]
    have o9 : ∀ k, k ≠ 17 → k ≠ 24 → k ≠ 34 → J3 219 k = J 219 k := fun k h1 h2 h3 => by rw [oo 219 (by decide), e9 k h1 h2 h3]
    have o220 : J3 220 = J 220 := by rw [oo 220 (by decide), e0]
    obtain ⟨t1, -, t3, -, -, -, -, t8⟩ := tBg_r (I := I) (h := h) (n := n) hb.2
    have fo : ∀ a, ¬ (171 ≤ a ∧ a < 195) → I4 a = I a := fun a ha => by rw [f4 a (by omega), tBg_fr ha]
    obtain ⟨r1, r2, r3, r4, r5, r6⟩ := cpS_r (I := I) (s := 171) (o := 132) (by decide)
    have ff := cpS_f (I := I) (s := 171) (o := 132) (by decide)
    have fs : ∀ a, 171 ≤ a → a < 178 → tBg I h n a = cpS I 171 132 a := fun a h1 h2 => tBg_s h1 h2
    have hSb : SeR (tBg I h n) 171 (J 223) n nh := by
      refine SeR_cp hS hn8 ?_ ?_ ?_ ?_ ?_ ?_ ?_ (fun j hj => rfl)
      · intro k hk; rw [fs _ (by decide) (by decide), r1, pre_lt hk]
      · intro k hk; rw [fs _ (by decide) (by decide), r2, pre_lt hk]
      · intro k hk; rw [fs _ (by decide) (by decide), r3, pre_lt hk]
      · intro k hk; rw [fs _ (by decide) (by decide), r4, pre_lt hk]
      · intro k hk; rw [fs _ (by decide) (by decide), r5, pre_lt hk]
      · intro k hk; rw [fs _ (by decide) (by decide), r6, pre_lt hk]
      · rw [fs _ (by decide) (by decide)]; exact ff
    have sc3 : ∀ k, k < n → J3 223 (24 + k) = if k < mq n then Int32.ofNat (dgt (mq n) c k) else J 223 (24 + k) := by
      intro k hk
      rw [o3, rbg_s (by omega), e3 _ (by omega)]
      by_cases p : k < mq n
      · rw [if_pos p, if_pos (by omega), Nat.add_sub_cancel_left]
      · rw [if_neg p, if_neg (by omega)]
    have hS4 : SeR I4 171 (J3 223) n nh := by
      refine SeR_scr hSb hn8 (fun a h1 h2 h3 => f4 a (by omega)) (fun j hj => ?_) (fun k hk => ?_)
      · rw [o3, rbg_s (by omega), e3 j (by omega), if_neg (by omega)]
      · rw [sc3 k hk]
        rw [show (171 : Nat) + 1 = 172 from rfl, s4 k (by omega)]
        by_cases p : k < mq n
        · rw [if_pos p, if_pos p]
          have := dgt_b (mq n) c k
          refine ⟨rfl, ?_⟩
          unfold irng
          rw [i_of (by omega)]
          omega
        · rw [if_neg p, if_neg p]
          exact hS.1 k hk
    have hH4 : HsR I4 J3 h 219 nr n rm pi := HsR_c (fun a h1 h2 => fo a (by omega)) o220 hH
    have w0 := tBg_w (n := n) hb.2 hn8 (fun k hk => (hH.2.2.2.2.2.1 k hk).1)
    have w4 : WR I4 h n (-1) (-1) rm (fun k => k) := by
      unfold WR at w0 ⊢
      have tp : ∀ k, tap I4 h n k = tap (tBg I h n) h n k := fun k => by unfold tap; rw [f4 (h + 12) (by omega)]
      rw [f4 185 (by decide), f4 178 (by decide), f4 192 (by decide), f4 193 (by decide)]
      obtain ⟨a1, a2⟩ := w0
      exact ⟨fun k hk => by rw [tp]; exact a1 k hk, a2⟩
    have cor : CoR I4 J3 171 178 192 219 nr n nh nh (fun k => k) (fun k => rm k) 0 := by
      refine bg_cor (sg := fun k => k) hH4 hS4 ?_ ?_ ?_ ?_ ?_ ?_ ?_ ?_ ?_ ?_ ?_ ?_
      · rw [o9 15 (by decide) (by decide) (by decide), o9 16 (by decide) (by decide) (by decide), f15, f16]; exact w4
      · intro k hk
        rw [o9 15 (by decide) (by decide) (by decide), o9 16 (by decide) (by decide) (by decide), f15, f16]
        unfold rsb
        rw [if_pos (Int32.le_refl _), if_pos rfl, rex_n]
      · rw [f4 178 (by decide)]; exact t3
      · rw [o3]; exact rbg_m
      · intro r hr
        obtain ⟨a1, a2, a3⟩ := hr2 r hr
        rw [f4 179 (by decide), t1 r (by omega), o3, rbg_r (by omega)]
        exact ⟨a1, by omega, by omega⟩
      · intro k hk hz
        rw [o220] at hz
        rw [o3, rbg_o (by omega), if_pos hk, if_neg hz]
      · intro p hp; rw [o3]; exact rbg_p hp
      · intro r hr; rw [o3]; exact rbg_a hr
      · rw [o9 18 (by decide) (by decide) (by decide)]; exact f18
      · rw [o9 20 (by decide) (by decide) (by decide)]; exact f20
      · rw [o9 21 (by decide) (by decide) (by decide)]; exact f21
      · intro k hk
        rw [f4 194 (by decide), t8 k (by omega), o220]
        exact (hH.2.2.2.2.2.2.2.1 k hk).2.2.2
    have e9' : J3 219 = J1 219 := oo 219 (by decide)
    generalize hJ4 : va_up J3 219 (va_up (va_up (J1 219) 20 1) 17 out) = J4
    have o4 : ∀ a, a ≠ 219 → J4 a = J3 a := fun a h1 => by rw [← hJ4, up_ne h1]
    have cor5 := CoR_out (I' := I5) (J' := J4) (out := out) cor e45 o5 o4 (fun k h1 h2 => by rw [← hJ4, up_eq, up_ne h1, up_ne h2, e9']) (by rw [← hJ4, up_eq, up_ne (by decide), up_eq]) (by rw [← hJ4, up_eq, up_eq])
    have hH5 : HsR I5 J4 h 219 nr n rm pi := HsR_c (fun a h1 h2 => by rw [e45 a (by omega), fo a (by omega)]) (by rw [o4 220 (by decide), o220]) hH
    have j24 : ¬ J4 219 24 = 0 := by
      rw [← hJ4, up_eq, up_ne (by decide), up_ne (by decide), e24]
      exact z1
    obtain ⟨v, I', L', J', K', a1, a2, a3, a4, a5, a6⟩ := run_t d e (L := fil L 187 8 0) (K := K1) p2 lH lS2 lT2 lU2 lM (by omega) (by decide) (by decide) hH5 cor5 180 (by decide) j24
    have rmk : ∀ k, k < n → rm k < nr := fun k hk => (hH.2.2.2.2.2.1 k hk).2.2
    obtain ⟨b, b1, b2⟩ := c_isWarm (d + 4) (L := L') (rm := rm) want p2 lH lT2 a3.1.2.2.2.1 hn8 (fun k hk => ⟨(a3.2.2.2.2.2.1 k hk).1, by have := rmk k hk; omega⟩)
    have j220 : J' 220 = J 220 := by rw [a6.1 220 (by decide) (by decide), o4 220 (by decide), o220]
    obtain ⟨b', b3, b4⟩ := r_areWarm (G2 := G2) (J := va_up J' 219 (va_up (J' 219) 20 0)) (K := K') (n := n) (rm := rm) (e + 4) want lM (by rw [up_ne (by decide), j220]; exact hH.1.2.2.2.2.1) hn8 (fun k hk => by rw [up_ne (by decide), j220]; exact ⟨(hH.2.2.2.2.2.1 k hk).2.1, by have := rmk k hk; omega⟩)
    rw [show va_up J' 219 (va_up (J' 219) 20 0) 223 = J' 223 from up_ne (by decide)] at b4
    have te : ∀ k, k < n → I' (178 + 1) (rm k) = J' 223 (rm k) := fun k hk => (a4.2.1 (rm k) (rmk k hk)).1
    have same : wmn I' 178 want rm n ↔ ∀ k, k < n → want ≤ J' 223 (rm k) := by
      unfold wmn
      exact ⟨fun p k hk => by rw [← te k hk]; exact p k hk, fun p k hk => by rw [te k hk]; exact p k hk⟩
    have bb : b' = b ∧ (b = 0 ∨ b = 1) := by
      rcases b2 with ⟨rfl, p⟩ | ⟨rfl, p⟩
      · rcases b4 with ⟨rfl, p'⟩ | ⟨rfl, p'⟩
        · exact ⟨rfl, Or.inr rfl⟩
        · exact absurd (same.mp p) p'
      · rcases b4 with ⟨rfl, p'⟩ | ⟨rfl, p'⟩
        · exact absurd (same.mpr p') p
        · exact ⟨rfl, Or.inl rfl⟩
    obtain ⟨rfl, b01⟩ := bb
    refine ⟨b', v, I', L', J', K', b01, a1, b1, a2, b3, ⟨fun a ha => ?_, fun a ha => ?_⟩, a6, fun k hk => ?_⟩
    · rw [a5.1 a (by omega), e45 a (by omega), fo a ha]
    · rw [a5.2 a ha, fil_ne ha]
    · have x1 := (a4.2.2.2.1 k hk).1
      have x2 : I' 172 = I5 172 := a5.1 172 (by omega)
      have x1' : I' 172 k = J' 223 (24 + k) := x1
      rw [← x1', x2, e45 172 (by decide), s4 k (by omega)]
      by_cases p : k < mq n
      · rw [if_pos p, if_pos p]
      · rw [if_neg p, if_neg p]
        exact (hS.1 k hk).1
  -- one run, for the class's side
  obtain ⟨b, v, I', L', Jc, Kc, b01, c1, c2, c3, c4, c5, -, -⟩ := key (va_up (va_up J 223 (fun j => if 24 ≤ j ∧ j < 24 + mq n then Int32.ofNat (dgt (mq n) c (j - 24)) else J 223 j)) 219 (va_up (J 219) 24 1)) K (by rw [up_ne (by decide), up_ne (by decide)]) (fun k h1 h2 h3 => by rw [up_eq, up_ne h2]) (by rw [up_eq, up_eq]) (fun j hj => by rw [up_ne (by decide), up_eq])
  have mbb : ∀ X : Option mO, mbool b X = X := fun X => by
    rcases b01 with rfl | rfl
    · exact mb0
    · exact mb1
  refine ⟨b, I', L', b01, ?_, c5, ⟨v, Jc, Kc, c3, c4⟩, fun J1 K1 x3 x4 t e0 e9 e24 e3 => ?_⟩
  · rw [q_X11_warmByWay_]
    refine bc.trans ?_
    rw [e_X11_warmByWay_56]
    simp only [↓vB lB2, ↓vP p2, ↓mcI_of c1, ↓mcI_of c2, mbb]
  · have bg := r_begins (e + 4) (J := J1) (K := K1) (n := n) lM (by rw [e0]; exact hH.1.2.2.2.2.1) hn8
    rw [e0] at bg
    obtain ⟨b', v', I'', L'', J', K', -, d1, d2, d3, d4, -, d6, d7⟩ := key J1 (va_up K1 225 (pre 8 (fun _ => 0) (K1 225))) e0 e9 e24 e3
    obtain ⟨rfl, -, rfl, rfl⟩ := some_i c1 d1
    obtain ⟨rfl, -⟩ := some_i c2 d2
    refine ⟨va_up J' 219 (va_up (J' 219) 20 0), K', ?_, fun a h1 h2 h3 => ?_, fun k h1 => ?_, fun a h1 => ?_, fun k hk => ?_⟩
    · rw [e_X12_findBalanced_172]
      have u9 : va_up J1 223 (rbg (J 220) (J1 223) n) 219 = J1 219 := up_ne (by decide)
      simp only [↓vM lM, ↓mcV_of bg, mb1, mb0, up2_e, up_eq, up_up, u9, ↓mcI_of d3, ↓mcI_of d4]
    · rw [up_ne h1, d6.1 a h2 h3, up_ne h1, up_ne h2]
    · rw [up_eq]
      by_cases p : k = 20
      · rw [p, up_eq, e9 20 (by decide) (by decide) (by decide)]
        exact f20.symm
      · rw [up_ne p, d6.1 219 (by decide) (by decide), up_eq, up_ne h1, up_ne p]
    · rw [d6.2 a h1, up_ne h1]
    · rw [up_ne (by decide)]
      exact d7 k hk
end
