/-! settings, states and diaries of class and reference -/
def SeR (I : Nat → Nat → Int32) (s : Nat) (sv : Nat → Int32) (n nh : Nat) : Prop :=
  (∀ k, k < n → I (s + 1) k = sv (24 + k) ∧ irng (sv (24 + k)) 1 16) ∧
  (I s 10 = sv 167 ∧ irng (sv 167) 1 999) ∧
  (∀ hr, hr < 24 → I (s + 2) hr = sv (44 + hr)) ∧
  (∀ hr, hr < 24 → I (s + 3) hr = sv (130 + hr) ∧ (sv (130 + hr) = 0 ∨ irng (sv (130 + hr)) 200 900)) ∧
  (I s 3 = sv 68 ∧ I s 4 = sv 69 ∧ I s 5 = sv 70 ∧ irng (sv 70) 0 200) ∧
  (I s 6 = Int32.ofNat nh ∧ sv 154 = Int32.ofNat nh ∧ nh ≤ 4) ∧
  (∀ k, k < nh → I (s + 4) k = sv (155 + 3 * k) ∧ I (s + 5) k = sv (155 + 3 * k + 1) ∧ I (s + 6) k = sv (155 + 3 * k + 2))
def btv (x : Int32) (k : Nat) : Int32 := (x >>> (Int32.ofNat k &&& 31)) &&& 1
def StR (I : Nat → Nat → Int32) (L : Nat → Nat → Int64) (t : Nat) (H sv : Nat → Int32) (lv : Nat → Int64) (nr n M : Nat) : Prop :=
  (I t 0 = Int32.ofNat M ∧ sv 71 = Int32.ofNat M) ∧
  (∀ r, r < nr → I (t + 1) r = sv r ∧ irng (sv r) (-9999) 9999) ∧
  (irng (I t 1) 0 255 ∧ ∀ r, r < 8 → sv (32 + r) = btv (I t 1) r) ∧
  (irng (I t 2) 0 15 ∧ ∀ p, p < 4 → sv (40 + p) = btv (I t 2) p) ∧
  (I t 3 = sv 72 ∧ I t 4 = sv 73 ∧ (I t 4 = 0 ∨ I t 4 = 1) ∧ I t 5 = sv 172) ∧
  (∀ r, r < nr → I (t + 2) r = sv (74 + r) ∧ I (t + 3) r = sv (82 + r) ∧ I (t + 4) r = sv (90 + r) ∧ I (t + 5) r = sv (98 + r) ∧ I (t + 6) r = sv (106 + r)) ∧
  (∀ k, k < n → I (t + 7) k = sv (8 + k) ∧ irng (sv (8 + k)) 0 16 ∧ (H (144 + k) = 0 → sv (8 + k) = 16) ∧ I (t + 8) k = sv (16 + k) ∧ I (t + 10) k = sv (114 + k) ∧ I (t + 11) k = sv (122 + k)) ∧
  (∀ k, k < n → Int32.toInt64 (I (t + 12) k) = lv (8 + k) ∧ irng (I (t + 12) k) 0 100000000 ∧ L (t + 9) k = lv k ∧ L (t + 9) k &&& 1152921504606846975 = L (t + 9) k) ∧
  (∀ p, p < 4 → I (t + 13) p = sv (168 + p))
def DiR (I : Nat → Nat → Int32) (e : Nat) (dv pv : Nat → Int32) (hN w nr M : Nat) : Prop :=
  (I e 0 = Int32.ofNat hN ∧ hN ≤ 48 ∧ I e 1 = Int32.ofNat w ∧ w < 48) ∧
  (∀ b j, b < hN → j < 7 * nr → I (e + 1) (56 * ((w + 48 - b) % 48) + j) = dv (56 * (hN - 1 - b) + j)) ∧
  (¬ M % 60 = 0 → ∀ j, j < 7 * nr → I (e + 2) j = pv j) ∧
  (M % 60 = 0 → ∀ j, j < 7 * nr → pv j = iclr 10000 j)
theorem rwr_n {k : Nat} (a : Nat) (ha : a < 4) (hk : k < 8) : rwr (-1) (-1) (10 * Int32.ofNat a + Int32.ofNat k) = 0 := by
  have e : (10 : Int32) * Int32.ofNat a + Int32.ofNat k = Int32.ofNat (10 * a + k) := by rw [(ixM a).2.2.2.2.1, i_add]
  have q : ¬ (-1 : Int32) = Int32.ofNat (10 * a + k) := by
    intro p
    have := congrArg Int32.toInt p
    rw [i_of (by omega), show (-1 : Int32).toInt = -1 by decide] at this
    omega
  unfold rwr
  rw [e, if_neg q, if_neg q]
theorem btv_0 {x : Int32} {k : Nat} : btv x k = 0 ∨ btv x k = 1 := by
  unfold btv
  generalize x >>> (Int32.ofNat k &&& 31) = y
  have : y &&& 1 = 0 ∨ y &&& 1 = 1 := by
    have h : ∀ z : BitVec 32, z &&& 1#32 = 0#32 ∨ z &&& 1#32 = 1#32 := by
      intro z
      by_cases c : z.getLsbD 0 = true
      · right
        apply BitVec.eq_of_getLsbD_eq
        intro i hi
        rw [BitVec.getLsbD_and, BitVec.getLsbD_one]
        by_cases q : i = 0
        · rw [q, c]; decide
        · simp [q]
      · left
        apply BitVec.eq_of_getLsbD_eq
        intro i hi
        rw [BitVec.getLsbD_and, BitVec.getLsbD_one]
        by_cases q : i = 0
        · rw [q, eq_false_of_ne_true c]; rfl
        · simp [q]
    rcases h y.toBitVec with q | q
    · left
      apply Int32.toBitVec_inj.mp
      rw [Int32.toBitVec_and]
      exact q
    · right
      apply Int32.toBitVec_inj.mp
      rw [Int32.toBitVec_and]
      exact q
  exact this
theorem hof_e {I : Nat → Nat → Int32} {s : Nat} {sv : Nat → Int32} {x y : Int32} (hx : sv 71 = x) : ∀ k, (∀ j, j < k → I (s + 4) j = sv (155 + 3 * j) ∧ I (s + 5) j = sv (155 + 3 * j + 1) ∧ I (s + 6) j = sv (155 + 3 * j + 2)) → hof I s x y k = rho sv y k := by
  intro k
  induction k with
  | zero => intro _; rfl
  | succ k ih =>
    intro h
    obtain ⟨a, b, c⟩ := h k (by omega)
    unfold hof rho
    rw [ih fun j hj => h j (by omega), a, b, c, hx, jmax_r]
theorem off_e {I : Nat → Nat → Int32} {s n nh : Nat} {sv : Nat → Int32} (hS : SeR I s sv n nh) (x : Int32) : hof I s x (if ngt I s (hou x) = 0 then 0 else I s 5) nh = rof 0 (va_up sv 71 x) nh := by
  obtain ⟨-, -, -, -, ⟨a1, a2, a3, a4⟩, ⟨-, -, b3⟩, c⟩ := hS
  have sv' : ∀ j, j ≠ 71 → va_up sv 71 x j = sv j := fun j hj => up_ne hj
  unfold rof
  rw [if_pos rfl, sv' 70 (by decide), sv' 68 (by decide), sv' 69 (by decide), up_eq]
  have e1 : ngt I s (hou x) = rni (sv 68) (sv 69) (hou x) := by
    unfold ngt rni
    rw [a1, a2]
    by_cases q : sv 68 = sv 69
    · rw [if_pos q, q, if_pos (Int32.le_refl _)]
      by_cases q2 : sv 69 ≤ hou x
      · rw [if_pos q2]
      · rw [if_neg q2, if_neg q2]
    · rw [if_neg q]
  have e2 : (if ngt I s (hou x) = 0 then 0 else I s 5) = (if sv 70 ≤ 0 then 0 else if rni (sv 68) (sv 69) (hou x) = 0 then 0 else sv 70) := by
    rw [e1, a3]
    by_cases q : sv 70 ≤ 0
    · have z : sv 70 = 0 := by
        rw [Int32.le_iff_toInt_le, k0] at q
        exact i_inj (by rw [k0]; have := a4.1; omega)
      rw [if_pos q, z, ite_self]
    · rw [if_neg q]
  rw [e2]
  refine hof_e (up_eq) nh fun j hj => ?_
  obtain ⟨c1, c2, c3⟩ := c j hj
  rw [sv' _ (by omega), sv' _ (by omega), sv' _ (by omega)]
  exact ⟨c1, c2, c3⟩
/-- between calls the reference tries nothing -/
def FlR (J : Nat → Nat → Int32) (m : Nat) : Prop := J m 15 = -1 ∧ J m 16 = -1 ∧ J m 18 = -1 ∧ J m 20 = 0 ∧ J m 21 = 0 ∧ J m 24 = 0
/-- the real house's taps -/
def TaR (I : Nat → Nat → Int32) (u : Nat) (H : Nat → Int32) (n : Nat) (rm : Nat → Nat) : Prop := I u 0 = 0 ∧ (∀ k, k < n → I (u + 1) k = Int32.ofNat (rm k) ∧ I (u + 2) k = H (152 + k))
theorem bit0 {k : Nat} (hk : k < 8) : (((0 : Int32) >>> (Int32.ofNat k &&& 31)) &&& 1) = 0 := by
  have h : ∀ j, j < 8 → (((0 : Int32) >>> (Int32.ofNat j &&& 31)) &&& 1) = 0 := by decide
  exact h k hk
theorem live_c {I J : Nat → Nat → Int32} {L : Nat → Nat → Int64} {h s t u m nr n nh : Nat} {rm pi : Nat → Nat} {M : Nat} {lv : Nat → Int64} (hH : HsR I J h m nr n rm pi) (hF : FlR J m) (hS : SeR I s (J (m + 4)) n nh) (hT : StR I L t (J (m + 1)) (J (m + 4)) lv nr n M) (hU : TaR I u (J (m + 1)) n rm) : CoR I J s t u m nr n nh nh (fun k => k) rm M := by
  have hn8 := hH.1.2.2.2.2.2
  have hnr8 := hH.1.2.2.1
  obtain ⟨f15, f16, f18, f20, f21, f24⟩ := hF
  have ho := off_e hS
  obtain ⟨s1, s2, s3, s4, s5, ⟨s6, s7, s8⟩, -⟩ := hS
  obtain ⟨t1, t2, ⟨-, t3⟩, ⟨-, t4⟩, -, -, t7, -⟩ := hT
  obtain ⟨u1, u2⟩ := hU
  have w0 : ∀ k, k < 8 → rwr (-1) (-1) (10 * 0 + Int32.ofNat k) = 0 := fun k hk => rwr_n 0 (by decide) hk
  have w1 : ∀ k, k < 8 → rwr (-1) (-1) (10 * 1 + Int32.ofNat k) = 0 := fun k hk => rwr_n 1 (by decide) hk
  have w2 : ∀ k, k < 8 → rwr (-1) (-1) (10 * 2 + Int32.ofNat k) = 0 := fun k hk => rwr_n 2 (by decide) hk
  have w3 : ∀ k, k < 8 → rwr (-1) (-1) (10 * 3 + Int32.ofNat k) = 0 := fun k hk => rwr_n 3 (by decide) hk
  unfold CoR
  rw [f15, f16, f18, f20, f21]
  refine ⟨t1, t2, ?_, s1, s2, s4, ?_, ?_, ?_, ⟨s6, s8, s7, s8, ho⟩, ?_, ?_, ?_⟩
  · intro k hk
    obtain ⟨a, b, c, -⟩ := t7 k hk
    refine ⟨?_, by rw [a]; exact b⟩
    unfold rov
    rw [w1 k (by omega), w0 k (by omega), if_pos rfl, if_pos rfl, a]
    by_cases q : J (m + 1) (144 + k) = 0
    · rw [if_pos q, c q]
    · rw [if_neg q]
  · intro p hp
    rw [w2 p (by omega), t4 p hp]
    show btv (I t 2) p = 0 ↔ _
    rcases btv_0 (x := I t 2) (k := p) with q | q
    · rw [q]; decide
    · rw [q]; decide
  · intro r hr
    unfold raj
    rw [w3 r (by omega), t3 r (by omega)]
    show btv (I t 1) r = 0 ↔ _
    rcases btv_0 (x := I t 1) (k := r) with q | q
    · rw [q]; decide
    · rw [q]; decide
  · intro hr h24
    unfold rou
    rw [if_pos rfl]
    exact s3 hr h24
  · intro k hk
    obtain ⟨-, -, -, -, -, b6, -⟩ := hH
    obtain ⟨b1, b2, b3⟩ := b6 k hk
    refine ⟨(u2 k hk).1, b3, ?_, show k < 8 by omega, b2⟩
    unfold rsb rex
    rw [if_pos (Int32.le_refl _), if_pos rfl, if_neg (by decide)]
  · intro k hk _
    rw [u1, w0 k (by omega), w1 k (by omega)]
    exact ⟨fun _ => ⟨rfl, rfl⟩, fun _ => bit0 (by omega)⟩
  · intro k hk
    have q : ¬ (-1 : Int32) = Int32.ofNat k := by
      intro p
      have := congrArg Int32.toInt p
      rw [i_of (by omega), show (-1 : Int32).toInt = -1 by decide] at this
      omega
    rw [if_neg q, Int32.add_zero]
    exact (u2 k hk).2
