/-! claims judged -/
def tau (a : Nat) : Int32 := if a = 0 then 0 else if a = 2 then 1 else -1
def jnd (x y z : Int32) : Int32 := if x = z then z else if y = z then z else if x = -1 then -1 else if y = -1 then -1 else 1 - z
theorem jnd_a : ∀ a, a < 3 → ∀ b, b < 3 → jnd (tau b) (tau a) 0 = tau (if b ≤ a then b else a) := by decide
theorem jnd_o : ∀ a, a < 3 → ∀ b, b < 3 → jnd (tau b) (tau a) 1 = tau (if a ≤ b then b else a) := by decide
theorem tau_n : ∀ a, a < 3 → (if tau a = -1 then (-1 : Int32) else 1 - tau a) = tau (2 - a) := by decide
/-- what a code makes of the two at hand -/
def opj (w a b : Nat) : Nat := if w = 4 then (if b ≤ a then b else a) else (if a ≤ b then b else a)
/-- the stack after j sayings -/
def evj (W : Nat → Nat) (V : Nat → Nat) : Nat → Nat → Nat
  | 0 => fun _ => 0
  | j + 1 => if W j ≤ 3 then va_up (evj W V j) (hgc W j) (V j) else if W j = 6 then va_up (evj W V j) (hgc W j - 1) (2 - evj W V j (hgc W j - 1)) else va_up (evj W V j) (hgc W j - 2) (opj (W j) (evj W V j (hgc W j - 2)) (evj W V j (hgc W j - 1)))
theorem opj_b {w a b : Nat} (ha : a < 3) (hb : b < 3) : opj w a b < 3 := by
  unfold opj
  split <;> split <;> omega
theorem evj_b {W V : Nat → Nat} (hV : ∀ j, V j < 3) : ∀ j i, evj W V j i < 3 := by
  intro j
  induction j with
  | zero => intro i; exact (by decide : 0 < 3)
  | succ j ih =>
    intro i
    unfold evj
    split
    · by_cases c : i = hgc W j
      · rw [c, up_eq]; exact hV j
      · rw [up_ne c]; exact ih i
    · split
      · by_cases c : i = hgc W j - 1
        · rw [c, up_eq]; omega
        · rw [up_ne c]; exact ih i
      · by_cases c : i = hgc W j - 2
        · rw [c, up_eq]; exact opj_b (ih _) (ih _)
        · rw [up_ne c]; exact ih i
theorem hgc_b {W : Nat → Nat} {c : Nat} (h : ∀ j, j < c → (W j ≤ 3 → hgc W j < 15)) : ∀ j, j ≤ c → hgc W j ≤ 15 := by
  intro j
  induction j with
  | zero => intro _; exact Nat.zero_le _
  | succ j ih =>
    intro hj
    have a := ih (by omega)
    have b := h j (by omega)
    show (if W j ≤ 3 then hgc W j + 1 else if W j = 6 then hgc W j else hgc W j - 1) ≤ 15
    by_cases p : W j ≤ 3
    · rw [if_pos p]; have := b p; omega
    · rw [if_neg p]
      split <;> omega
theorem pos_s {W : Nat → Nat} {j c : Nat} (h : j < c) : pos W (j + 1) ≤ pos W c ∧ pos W j < pos W (j + 1) := by
  have st : ∀ i, pos W i < pos W (i + 1) := fun i => by
    show pos W i < (if W i ≤ 3 then pos W i + 5 else pos W i + 1)
    split <;> omega
  refine ⟨?_, st j⟩
  have : ∀ m, pos W (j + 1) ≤ pos W (j + 1 + m) := fun m => by
    induction m with
    | zero => exact Nat.le_refl _
    | succ m ih => exact Nat.le_trans ih (Nat.le_of_lt (st _))
  have e := this (c - (j + 1))
  rwa [show j + 1 + (c - (j + 1)) = c by omega] at e
/-- what is said of an hour -/
def hlb (w : Nat) (D : Nat → Nat → Int32) (q b : Nat) : Nat := if w = 0 then (if Int32.ofNat (10 * q) ≤ D 0 b then 0 else 1) else if w = 1 then (if D 1 b ≤ Int32.ofNat (10 * q) then 0 else 1) else if w = 2 then (if D 2 b ≤ 0 then 0 else 1) else (if D 3 b ≤ 0 then 0 else 1)
theorem hlb_b {w q b : Nat} {D : Nat → Nat → Int32} : hlb w D q b ≤ 1 := by
  unfold hlb
  split
  · split <;> omega
  · split
    · split <;> omega
    · split
      · split <;> omega
      · split <;> omega
/-- a saying's value -/
def sav (w : Nat) (D : Nat → Nat → Int32) (nr hN r q f t : Nat) : Nat := if nr ≤ r then 1 else if t < hN then (if w ≤ 1 then (if sN (fun i => hlb w D q (f + i)) (t - f + 1) = t - f + 1 then 2 else 0) else (if sN (fun i => hlb w D q (f + i)) (t - f + 1) = 0 then 0 else 2)) else 1
theorem sav_b {w nr hN r q f t : Nat} {D : Nat → Nat → Int32} : sav w D nr hN r q f t < 3 := by
  unfold sav
  split
  · omega
  · split
    · split
      · split <;> omega
      · split <;> omega
    · omega
theorem i_s1 {h : Nat → Nat} (hb : ∀ i, h i ≤ 1) : ∀ m i, i ≤ m → sN h m ≤ sN h i + (m - i) ∧ sN h i ≤ sN h m := by
  intro m
  induction m with
  | zero => intro i hi; rw [show i = 0 by omega]; exact ⟨Nat.le_refl _, Nat.le_refl _⟩
  | succ m ih =>
    intro i hi
    by_cases c : i = m + 1
    · rw [c]; exact ⟨by omega, Nat.le_refl _⟩
    · have a := ih i (by omega)
      have b := hb m
      have e : sN h (m + 1) = sN h m + h m := rfl
      omega
section
variable {G : mG} {I : Nat → Nat → Int32} {L : Nat → Nat → Int64}
theorem c_jnd (d : Nat) (x y z : Int32) : mcal mT (d + 1) 16 [.int x, .int y, .int z] (G, I, L) = some (.inl (some (.int (jnd x y z))), (G, I, L)) := by
  rw [q_X1_joined_, e_X1_joined_0]
  unfold jnd
  by_cases c1 : x = z
  · rw [if_pos c1, if_pos c1, e_X1_joined_10]
  rw [if_neg c1, if_neg c1]
  by_cases c2 : y = z
  · rw [if_pos c2, if_pos c2, e_X1_joined_10]
  rw [if_neg c2, if_neg c2, e_X1_joined_12]
  by_cases c3 : x = -1
  · rw [if_pos c3, if_pos c3, e_X1_joined_22, e_X1_joined_29]
  rw [if_neg c3, if_neg c3]
  by_cases c4 : y = -1
  · rw [if_pos c4, if_pos c4, e_X1_joined_22, e_X1_joined_29]
  rw [if_neg c4, if_neg c4, e_X1_joined_26, e_X1_joined_29]
/-- one hour's saying, by the class -/
theorem c_holds (d : Nat) {w q b r hw : Nat} {D : Nat → Nat → Int32} (lD : LayD G 195) (h1 : I 195 1 = Int32.ofNat hw) (h48 : hw < 48) (hb : b < 48) (hr : r < 8) (hD : ∀ c, c < 4 → cEn I 195 hw b r c = D c b) (hw3 : w ≤ 3) : mcal mT (d + 2) 18 [.int (Int32.ofNat w), .ref 195, .int (Int32.ofNat r), .int (Int32.ofNat b), .int (Int32.ofNat (10 * q))] (G, I, L) = some (.inl (some (.int (Int32.ofNat (hlb w D q b)))), (G, I, L)) := by
  have en : ∀ c, c < 4 → mcal mT (d + 1) 30 [.ref 195, .int (Int32.ofNat r), .int (Int32.ofNat b), .int (Int32.ofNat c)] (G, I, L) = some (.inl (some (.int (D c b))), (G, I, L)) := fun c hc => by rw [← hD c hc]; exact c_entry d lD h1 h48 hb hr (by omega)
  have e0 : mcal mT (d + 1) 30 [.ref 195, .int (Int32.ofNat r), .int (Int32.ofNat b), .int 0] (G, I, L) = _ := en 0 (by decide)
  have e1 : mcal mT (d + 1) 30 [.ref 195, .int (Int32.ofNat r), .int (Int32.ofNat b), .int 1] (G, I, L) = _ := en 1 (by decide)
  have e2 : mcal mT (d + 1) 30 [.ref 195, .int (Int32.ofNat r), .int (Int32.ofNat b), .int 2] (G, I, L) = _ := en 2 (by decide)
  have e3 : mcal mT (d + 1) 30 [.ref 195, .int (Int32.ofNat r), .int (Int32.ofNat b), .int 3] (G, I, L) = _ := en 3 (by decide)
  have n1 : Int32.ofNat 1 = 1 := rfl
  have n0 : Int32.ofNat 0 = 0 := rfl
  rw [q_X1_holds_, e_X1_holds_0]
  unfold hlb
  obtain rfl | rfl | rfl | rfl : w = 0 ∨ w = 1 ∨ w = 2 ∨ w = 3 := by omega
  · rw [if_pos (by decide), e_X1_holds_28, if_pos rfl]
    simp only [↓vD lD, ↓mcI_of e0]
    by_cases c : Int32.ofNat (10 * q) ≤ D 0 b
    · rw [if_pos c, if_pos c, e_X1_holds_44, e_X1_holds_45, mb0, n0]
    · rw [if_neg c, if_neg c, e_X1_holds_45, mb1, n1]
  · rw [if_neg (by decide), if_pos (by decide), e_X1_holds_46, if_neg (by decide), if_pos rfl]
    simp only [↓vD lD, ↓mcI_of e1]
    by_cases c : D 1 b ≤ Int32.ofNat (10 * q)
    · rw [if_pos c, if_pos c, e_X1_holds_62, e_X1_holds_63, mb0, n0]
    · rw [if_neg c, if_neg c, e_X1_holds_63, mb1, n1]
  · rw [if_neg (by decide), if_neg (by decide), if_pos (by decide), e_X1_holds_64, if_neg (by decide), if_neg (by decide), if_pos rfl]
    simp only [↓vD lD, ↓mcI_of e2]
    by_cases c : D 2 b ≤ 0
    · rw [if_pos c, if_pos c, e_X1_holds_78, e_X1_holds_79, mb0, n0]
    · rw [if_neg c, if_neg c, e_X1_holds_79, mb1, n1]
  · rw [if_neg (by decide), if_neg (by decide), if_neg (by decide), e_X1_holds_80, if_neg (by decide), if_neg (by decide), if_neg (by decide)]
    simp only [↓vD lD, ↓mcI_of e3]
    by_cases c : D 3 b ≤ 0
    · rw [if_pos c, if_pos c, e_X1_holds_94, e_X1_holds_95, mb0, n0]
    · rw [if_neg c, if_neg c, e_X1_holds_95, mb1, n1]
/-- a saying, by the class -/
theorem c_said (d : Nat) {b p z w r q f t nr hN hw : Nat} {D : Nat → Nat → Int32} (lW : LayW G 2 b) (lD : LayD G 195) (hz : I (b + 1) 1 = Int32.ofNat z) (z2 : z ≤ 200) (hp : p + 5 ≤ z) (hw3 : w ≤ 3) (i0 : I (b + 2) p = Int32.ofNat w) (i1 : I (b + 2) (p + 1) = Int32.ofNat r) (i2 : I (b + 2) (p + 2) = Int32.ofNat q) (i3 : I (b + 2) (p + 3) = Int32.ofNat f) (i4 : I (b + 2) (p + 4) = Int32.ofNat t) (hr : r ≤ 7) (hq : q ≤ 400) (hf : f ≤ t) (ht : t ≤ 47) (hnr : nr ≤ 8) (hN48 : hN ≤ 48) (d0 : I 195 0 = Int32.ofNat hN) (h1 : I 195 1 = Int32.ofNat hw) (h48 : hw < 48) (hD : r < nr → ∀ b, b < hN → ∀ c, c < 4 → cEn I 195 hw b r c = D c b) : mcal mT (d + 3) 17 [.ref b, .int (Int32.ofNat p), .ref 195, .int (Int32.ofNat nr)] (G, I, L) = some (.inl (some (.int (tau (sav w D nr hN r q f t)))), (G, I, L)) := by
  have lC := lW.2.2
  have at_ := fun j (hj : j < z) => c_at (d + 1) (G := G) (I := I) (L := L) (c := b + 1) (z := z) (j := j) lC hz z2 hj
  have a0 : mcal mT (d + 2) 21 [.ref (b + 1), .int (Int32.ofNat p)] (G, I, L) = some (.inl (some (.int (Int32.ofNat w))), (G, I, L)) := by rw [← i0]; exact at_ p (by omega)
  have a1 : mcal mT (d + 2) 21 [.ref (b + 1), .int (Int32.ofNat (p + 1))] (G, I, L) = some (.inl (some (.int (Int32.ofNat r))), (G, I, L)) := by rw [← i1]; exact at_ (p + 1) (by omega)
  have a2 : mcal mT (d + 2) 21 [.ref (b + 1), .int (Int32.ofNat (p + 2))] (G, I, L) = some (.inl (some (.int (Int32.ofNat q))), (G, I, L)) := by rw [← i2]; exact at_ (p + 2) (by omega)
  have a3 : mcal mT (d + 2) 21 [.ref (b + 1), .int (Int32.ofNat (p + 3))] (G, I, L) = some (.inl (some (.int (Int32.ofNat f))), (G, I, L)) := by rw [← i3]; exact at_ (p + 3) (by omega)
  have a4 : mcal mT (d + 2) 21 [.ref (b + 1), .int (Int32.ofNat (p + 4))] (G, I, L) = some (.inl (some (.int (Int32.ofNat t))), (G, I, L)) := by rw [← i4]; exact at_ (p + 4) (by omega)
  have s1 : Int32.ofNat p + 1 = Int32.ofNat (p + 1) := i_add p 1
  have s2 : Int32.ofNat p + 2 = Int32.ofNat (p + 2) := i_add p 2
  have s3 : Int32.ofNat p + 3 = Int32.ofNat (p + 3) := i_add p 3
  have s4 : Int32.ofNat p + 4 = Int32.ofNat (p + 4) := i_add p 4
  have s10 : Int32.ofNat q * 10 = Int32.ofNat (10 * q) := by rw [show (10 : Int32) = Int32.ofNat 10 from rfl, i_mul, Nat.mul_comm]
  rw [q_X1_verdictOf_, e_X1_verdictOf_0]
  simp only [↓vW lW, ↓vC lC, s1, s2, s4, ↓mcI_of a0, ↓mcI_of a1, ↓mcI_of a2, ↓mcI_of a4]
  unfold sav
  by_cases c1 : nr ≤ r
  · rw [if_pos ((i_le (by omega) (by omega)).mpr c1), if_pos c1, e_X1_verdictOf_64]
    rfl
  rw [if_neg (fun p => c1 ((i_le (by omega) (by omega)).mp p)), if_neg c1]
  simp only [↓vD lD, d0]
  by_cases c2 : t < hN
  case neg =>
    rw [if_neg (fun p => c2 ((i_lt (by omega) (by omega)).mp p)), if_neg c2, e_X1_verdictOf_64]
    rfl
  rw [if_pos ((i_lt (by omega) (by omega)).mpr c2), if_pos c2, s10]
  have ho : ∀ bb, bb < hN → mcal mT (d + 2) 18 [.int (Int32.ofNat w), .ref 195, .int (Int32.ofNat r), .int (Int32.ofNat bb), .int (Int32.ofNat (10 * q))] (G, I, L) = some (.inl (some (.int (Int32.ofNat (hlb w D q bb)))), (G, I, L)) := fun bb hbb => c_holds d lD h1 h48 (by omega) (by omega) (hD (by omega) bb hbb) hw3
  -- the loop
  have lp : ∀ fe, (fe = 0 ∨ fe = 1) → ∀ m i, i + m = t - f + 1 → (∀ j, j < i → hlb w D q (f + j) = fe) → f_X1_verdictOf (d + 2) 96 [mU, mU, .ref 195, mU, .int (Int32.ofNat w), .int (Int32.ofNat r), .int (Int32.ofNat (10 * q)), .int (Int32.ofNat t), .int (Int32.ofNat fe), .int (Int32.ofNat (f + i))] [] (G, I, L) = some (.inl (some (.int (if fe = 1 then (if sN (fun i => hlb w D q (f + i)) (t - f + 1) = t - f + 1 then 1 else 0) else (if sN (fun i => hlb w D q (f + i)) (t - f + 1) = 0 then 0 else 1)))), (G, I, L)) := by
    intro fe hfe m
    have hs : ∀ i, (∀ j, j < i → hlb w D q (f + j) = fe) → sN (fun i => hlb w D q (f + i)) i = fe * i := by
      intro i
      induction i with
      | zero => intro _; rfl
      | succ i ih =>
        intro hj
        show sN (fun i => hlb w D q (f + i)) i + hlb w D q (f + i) = fe * (i + 1)
        rw [ih (fun j hj' => hj j (by omega)), hj i (by omega), Nat.mul_add, Nat.mul_one]
    induction m with
    | zero =>
      intro i hi hj
      have ei : i = t - f + 1 := by omega
      have sv := hs i hj
      rw [ei] at sv
      rw [ei, e_X1_verdictOf_96, if_pos ((i_lt (by omega) (by omega)).mpr (by omega)), e_X1_verdictOf_137, sv]
      rcases hfe with rfl | rfl
      · rw [if_pos (show Int32.ofNat 0 = 0 from rfl), e_X1_verdictOf_146, e_X1_verdictOf_147, if_neg (by decide), Nat.zero_mul, if_pos rfl]
      · rw [if_neg (show ¬ Int32.ofNat 1 = 0 by decide), e_X1_verdictOf_147, if_pos rfl, Nat.one_mul, if_pos rfl]
    | succ m ih =>
      intro i hi hj
      have sv := hs i hj
      have lo := i_s1 (h := fun i => hlb w D q (f + i)) (fun _ => hlb_b) (t - f + 1) (i + 1) (by omega)
      have es : sN (fun i => hlb w D q (f + i)) (i + 1) = sN (fun i => hlb w D q (f + i)) i + hlb w D q (f + i) := rfl
      have hb1 := hlb_b (w := w) (D := D) (q := q) (b := f + i)
      rw [e_X1_verdictOf_96, if_neg (fun p => by have := (i_lt (by omega) (by omega)).mp p; omega)]
      simp only [↓mcI_of (ho (f + i) (by omega))]
      by_cases c : hlb w D q (f + i) = fe
      · rw [if_pos (by rw [c]), e_X1_verdictOf_131, i_one]
        refine ih (i + 1) (by omega) (fun j hj' => ?_)
        by_cases e : j = i
        · rw [e]; exact c
        · exact hj j (by omega)
      · have c' : ¬ Int32.ofNat (hlb w D q (f + i)) = Int32.ofNat fe := fun p => c ((i_eq (by omega) (by omega)).mp p)
        rw [if_neg c']
        rcases hfe with rfl | rfl
        · rw [if_pos (show Int32.ofNat 0 = 0 from rfl), e_X1_verdictOf_129, e_X1_verdictOf_130, if_neg (by decide), if_neg (by omega)]
        · rw [if_neg (show ¬ Int32.ofNat 1 = 0 by decide), e_X1_verdictOf_130, if_pos rfl, if_neg (by omega)]
  have go : ∀ fe, (fe = 0 ∨ fe = 1) → f_X1_verdictOf (d + 2) 82 [.ref b, .int (Int32.ofNat p), .ref 195, mU, .int (Int32.ofNat w), .int (Int32.ofNat r), .int (Int32.ofNat (10 * q)), .int (Int32.ofNat t), mU, mU] [.int (Int32.ofNat fe)] (G, I, L) = some (.inl (some (.int (if fe = 1 then (if sN (fun i => hlb w D q (f + i)) (t - f + 1) = t - f + 1 then 1 else 0) else (if sN (fun i => hlb w D q (f + i)) (t - f + 1) = 0 then 0 else 1)))), (G, I, L)) := by
    intro fe hfe
    rw [e_X1_verdictOf_82]
    simp only [↓vW lW, ↓vC lC, s3, ↓mcI_of a3]
    exact lp fe hfe (t - f + 1) 0 (Nat.zero_add _) (fun j hj => absurd hj (Nat.not_lt_zero _))
  rw [e_X1_verdictOf_66]
  have g1 := go 1 (Or.inr rfl)
  have g0 := go 0 (Or.inl rfl)
  rw [if_pos rfl] at g1
  rw [if_neg (by decide)] at g0
  have fin1 : (if sN (fun i => hlb w D q (f + i)) (t - f + 1) = t - f + 1 then (1 : Int32) else 0) = tau (if sN (fun i => hlb w D q (f + i)) (t - f + 1) = t - f + 1 then 2 else 0) := by
    split <;> rfl
  have fin0 : (if sN (fun i => hlb w D q (f + i)) (t - f + 1) = 0 then (0 : Int32) else 1) = tau (if sN (fun i => hlb w D q (f + i)) (t - f + 1) = 0 then 0 else 2) := by
    split <;> rfl
  rw [fin1] at g1
  rw [fin0] at g0
  by_cases w0 : w = 0
  · rw [if_pos (by rw [w0]; rfl), e_X1_verdictOf_77, if_pos (by omega)]
    exact g1
  rw [if_neg (show ¬ Int32.ofNat w = 0 from fun p => w0 ((i_eq (b := 0) (by omega) (by decide)).mp p))]
  by_cases w1 : w = 1
  · rw [if_pos (by rw [w1]; rfl), e_X1_verdictOf_77, if_pos (by omega)]
    exact g1
  rw [if_neg (show ¬ Int32.ofNat w = 1 from fun p => w1 ((i_eq (b := 1) (by omega) (by decide)).mp p)), e_X1_verdictOf_81, if_neg (by omega)]
  exact g0
end
