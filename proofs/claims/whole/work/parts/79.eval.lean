/-! a minute of a plant: what stands in its rows then -/
def kH0 (I : Nat → Nat → Int32) (h s t n : Nat) (w : Int32) (rm : Nat → Nat) (k : Nat) : Int32 := jmax 0 (pfl I h s t n k * I (h + 11) k * (w * 10 - I (t + 1) (rm k)) / 10000)
def kHt (I : Nat → Nat → Int32) (h s t n : Nat) (w : Int32) (rm : Nat → Nat) (k : Nat) : Int32 := if sm n (kH0 I h s t n w rm) ≤ I h 17 then kH0 I h s t n w rm k else if 0 < sm n (kH0 I h s t n w rm) then (Int32.toInt64 (kH0 I h s t n w rm k) * Int32.toInt64 (I h 17) / Int32.toInt64 (sm n (kH0 I h s t n w rm))).toInt32 else kH0 I h s t n w rm k
def kTe (I : Nat → Nat → Int32) (h s t hr n r : Nat) (w : Int32) (rm : Nat → Nat) (j : Nat) : Int32 := jmax (-9999) (jmin 9999 (I (t + 1) j + (ghn rm (kHt I h s t n w rm) (fun _ => 0) n j + snn I h (Int32.ofNat hr) j - wlo (los I h t) r (fun _ => 0) r j - lou I h t (I (s + 2) hr) j - lwi I h t (I (s + 2) hr) j) / jmax 1 (I (h + 1) j)))
theorem ghn_c {rm : Nat → Nat} {H H' D D' : Nat → Int32} {n r : Nat} (hh : ∀ k, k < n → H k = H' k) (hr : ∀ k, k < n → rm k < r) (hd : ∀ j, j < r → D j = D' j) : ∀ j, j < r → ghn rm H D n j = ghn rm H' D' n j := by
  induction n with
  | zero => exact hd
  | succ n ih =>
    intro j hj
    have ih' := ih (fun k hk => hh k (by omega)) (fun k hk => hr k (by omega))
    unfold ghn
    by_cases q : j = rm n
    · rw [q, up_eq, up_eq, ih' _ (hr n (by omega)), hh n (by omega)]
    · rw [up_ne q, up_ne q, ih' j hj]
theorem wli_c {lo : Nat → Nat → Int32} {r N : Nat} {W W' : Nat → Int32} (hw : ∀ j, j < N → W j = W' j) : ∀ k, r + k < N → ∀ j, j < N → wli lo r W k j = wli lo r W' k j := by
  intro k
  induction k with
  | zero => intro _; exact hw
  | succ k ih =>
    intro hk j hj
    have ih' := ih (by omega)
    unfold wli
    by_cases q : j = r + 1 + k
    · rw [q, up_eq, up_eq, ih' _ (by omega)]
    · rw [up_ne q, up_ne q]
      by_cases q2 : j = r
      · rw [q2, up_eq, up_eq, ih' _ (by omega)]
      · rw [up_ne q2, up_ne q2, ih' j hj]
theorem wlo_c {lo : Nat → Nat → Int32} {N : Nat} {W W' : Nat → Int32} (hw : ∀ j, j < N → W j = W' j) : ∀ r, r ≤ N → ∀ j, j < N → wlo lo N W r j = wlo lo N W' r j := by
  intro r
  induction r with
  | zero => intro _; exact hw
  | succ r ih =>
    intro hr j hj
    unfold wlo
    exact wli_c (ih (by omega)) (N - (r + 1)) (by omega) j hj
theorem wli_lo {lo lo' : Nat → Nat → Int32} {r : Nat} {W : Nat → Int32} : ∀ k, (∀ j, j < k → lo r (r + 1 + j) = lo' r (r + 1 + j)) → wli lo r W k = wli lo' r W k := by
  intro k
  induction k with
  | zero => intro _; rfl
  | succ k ih =>
    intro h
    unfold wli
    rw [ih fun j hj => h j (by omega), h k (by omega)]
theorem wlo_lo {lo lo' : Nat → Nat → Int32} {N : Nat} {W : Nat → Int32} (h : ∀ a b, a < N → b < N → lo a b = lo' a b) : ∀ r, r ≤ N → wlo lo N W r = wlo lo' N W r := by
  intro r
  induction r with
  | zero => intro _; rfl
  | succ r ih =>
    intro hr
    unfold wlo
    rw [ih (by omega), wli_lo _ fun j hj => h r _ (by omega) (by omega)]
theorem rbo_o {f : Nat → Int32} {x : Int32} {j : Nat} (h : j < 3) : rbo f x j = f j := by
  unfold rbo
  rw [up_ne (by omega), up_ne (by omega)]
  split
  · rfl
  · rw [up_ne (by omega)]
section
variable {I : Nat → Nat → Int32} {h s t u n r hr : Nat} {w : Int32} {rm pi sn : Nat → Nat}
theorem kA_fl {k : Nat} (hk : k < n) : pA I h s t n (t + 10) k = pfl I h s t n k := by
  unfold pA
  rw [up_eq, pre_lt hk]
theorem kB_h0 {k : Nat} (hk : k < n) (h1 : h + 14 ≤ t) : pB (pA I h s t n) h t (w * 10) rm n (t + 11) k = kH0 I h s t n w rm k := by
  unfold pB
  rw [up_eq, pre_lt hk]
  unfold gvh kH0
  rw [kA_fl hk]
  unfold pA
  simp (disch := omega) only [up_ne]
theorem kC_ht {k : Nat} (hk : k < n) (h1 : h + 14 ≤ t) : hpw (pB (pA I h s t n) h t (w * 10) rm n) h t n k = kHt I h s t n w rm k := by
  have e : sm n (pB (pA I h s t n) h t (w * 10) rm n (t + 11)) = sm n (kH0 I h s t n w rm) := sm_c fun j hj => kB_h0 hj h1
  have e2 : pB (pA I h s t n) h t (w * 10) rm n h 17 = I h 17 := by
    unfold pB pA
    simp (disch := omega) only [up_ne]
  unfold hpw kHt
  rw [e, e2, kB_h0 hk h1]
theorem k_all (h1 : h + 14 ≤ t) : sm n (hpw (pB (pA I h s t n) h t (w * 10) rm n) h t n) = sm n (kHt I h s t n w rm) := sm_c fun j hj => kC_ht hj h1
theorem k5_o {a : Nat} (h1 : h + 14 ≤ t) (ha : a < t ∨ a = t + 1 ∨ (t + 3 ≤ a ∧ a < t + 10) ∨ t + 12 ≤ a) : pm5 I h s t w rm r n a = I a := by
  unfold pm5 pE pD pC pB pA
  simp (disch := omega) only [up_ne]
theorem k5_fl {k : Nat} (hk : k < n) (h1 : h + 14 ≤ t) : pm5 I h s t w rm r n (t + 10) k = pfl I h s t n k := by
  unfold pm5 pE pD pC pB
  simp (disch := omega) only [up_ne]
  exact kA_fl hk
theorem k5_ht {k : Nat} (hk : k < n) (h1 : h + 14 ≤ t) : pm5 I h s t w rm r n (t + 11) k = kHt I h s t n w rm k := by
  unfold pm5 pE pD pC
  simp (disch := omega) only [up_ne, up_eq]
  rw [pre_lt hk, kC_ht hk h1]
theorem k5_lw {j : Nat} (hj : j < r) (hr8 : r ≤ 8) (h1 : h + 14 ≤ t) : pm5 I h s t w rm r n (t + 2) j = wlo (los I h t) r (fun _ => 0) r j := by
  unfold pm5 pE
  rw [up_eq]
  have e : los (pD (pC (pB (pA I h s t n) h t (w * 10) rm n) h t n) t (sm n (hpw (pB (pA I h s t n) h t (w * 10) rm n) h t n))) h t = los I h t := by
    funext a b
    unfold los pD pC pB pA
    simp (disch := omega) only [up_ne]
  rw [e]
  exact wlo_c (fun i hi => pre_lt (by omega)) r (Nat.le_refl r) j hj
theorem k5_ob (h1 : h + 14 ≤ t) : pm5 I h s t w rm r n t = rbo (I t) (if sm n (kHt I h s t n w rm) ≤ 0 then 0 else 1) := by
  unfold pm5 pE pD
  simp (disch := omega) only [up_ne, up_eq]
  rw [k_all h1]
  unfold pC pB pA
  simp (disch := omega) only [up_ne]
theorem kF_lo {j : Nat} {o : Int32} (hj : j < r) (h1 : h + 14 ≤ t) : pF (pm5 I h s t w rm r n) h t o r (t + 3) j = lou I h t o j := by
  unfold pF
  simp (disch := omega) only [up_ne, up_eq]
  rw [pre_lt hj]
  unfold lou
  rw [k5_o h1 (by omega), k5_o h1 (by omega)]
theorem kF_lw {j : Nat} {o : Int32} (hj : j < r) (h1 : h + 14 ≤ t) : pF (pm5 I h s t w rm r n) h t o r (t + 4) j = lwi I h t o j := by
  unfold pF
  simp (disch := omega) only [up_eq]
  rw [pre_lt hj]
  unfold lwi
  have e : pm5 I h s t w rm r n t 1 = I t 1 := by
    rw [k5_ob h1, rbo_o (by decide)]
  rw [e, k5_o h1 (by omega), k5_o h1 (by omega)]
theorem kF_o {a : Nat} {o : Int32} (h1 : h + 14 ≤ t) (ha : a < t + 3 ∨ t + 5 ≤ a) : pF (pm5 I h s t w rm r n) h t o r a = pm5 I h s t w rm r n a := by
  unfold pF
  simp (disch := omega) only [up_ne]
theorem kG_su {j : Nat} {o : Int32} (hj : j < r) (h1 : h + 14 ≤ t) : pG (pF (pm5 I h s t w rm r n) h t o r) h t (Int32.ofNat hr) rm r n (t + 6) j = snn I h (Int32.ofNat hr) j := by
  unfold pG
  simp (disch := omega) only [up_ne, up_eq]
  rw [pre_lt hj]
  unfold snn
  simp (disch := omega) only [kF_o h1, k5_o h1]
theorem kG_gh {j : Nat} {o : Int32} (hj : j < r) (h1 : h + 14 ≤ t) (hrm : ∀ k, k < n → rm k < r) : pG (pF (pm5 I h s t w rm r n) h t o r) h t (Int32.ofNat hr) rm r n (t + 5) j = ghn rm (kHt I h s t n w rm) (fun _ => 0) n j := by
  unfold pG
  simp (disch := omega) only [up_ne, up_eq]
  refine ghn_c (fun k hk => ?_) hrm (fun i hi => pre_lt hi) j hj
  rw [kF_o h1 (by omega), k5_ht hk h1]
theorem kG_me {k : Nat} {o : Int32} (hk : k < n) (h1 : h + 14 ≤ t) : pG (pF (pm5 I h s t w rm r n) h t o r) h t (Int32.ofNat hr) rm r n (t + 12) k = jmin 100000000 (I (t + 12) k + kHt I h s t n w rm k) := by
  unfold pG
  simp (disch := omega) only [up_eq]
  rw [pre_lt hk]
  unfold mtr
  rw [kF_o h1 (by omega), kF_o h1 (by omega), k5_ht hk h1, k5_o h1 (by omega)]
theorem kG_o {a : Nat} {o : Int32} (h1 : h + 14 ≤ t) (ha : a < t + 5 ∨ (t + 7 ≤ a ∧ a < t + 12) ∨ t + 13 ≤ a) : pG (pF (pm5 I h s t w rm r n) h t o r) h t (Int32.ofNat hr) rm r n a = pF (pm5 I h s t w rm r n) h t o r a := by
  unfold pG
  simp (disch := omega) only [up_ne]
theorem k8_te {j : Nat} (hj : j < r) (hr8 : r ≤ 8) (h1 : h + 14 ≤ t) (hrm : ∀ k, k < n → rm k < r) : pm8 I h s t hr w rm pi r n (t + 1) j = kTe I h s t hr n r w rm j := by
  unfold pm8 pJ pH
  simp (disch := omega) only [up_ne, up_eq]
  rw [pre_lt hj]
  unfold wrm kTe
  rw [kG_gh hj h1 hrm, kG_su hj h1, kG_o h1 (by omega), kG_o h1 (by omega), kG_o h1 (by omega), kG_o h1 (by omega), kG_o h1 (by omega), kF_lo hj h1, kF_lw hj h1, kF_o h1 (by omega), kF_o h1 (by omega), kF_o h1 (by omega), k5_lw hj hr8 h1, k5_o h1 (by omega), k5_o h1 (by omega)]
theorem k8_o {a : Nat} (h1 : h + 14 ≤ t) (ha : a < t ∨ a = t + 7 ∨ a = t + 8 ∨ a = t + 9 ∨ t + 14 ≤ a) : pm8 I h s t hr w rm pi r n a = I a := by
  unfold pm8 pJ pH
  simp (disch := omega) only [up_ne, kG_o h1, kF_o h1, k5_o h1]
theorem k8_ob (h1 : h + 14 ≤ t) : pm8 I h s t hr w rm pi r n t = rbo (I t) (if sm n (kHt I h s t n w rm) ≤ 0 then 0 else 1) := by
  unfold pm8 pJ pH
  simp (disch := omega) only [up_ne, kG_o h1, kF_o h1]
  exact k5_ob h1
theorem k8_lw {j : Nat} (hj : j < r) (hr8 : r ≤ 8) (h1 : h + 14 ≤ t) : pm8 I h s t hr w rm pi r n (t + 2) j = wlo (los I h t) r (fun _ => 0) r j := by
  unfold pm8 pJ pH
  simp (disch := omega) only [up_ne, kG_o h1, kF_o h1]
  exact k5_lw hj hr8 h1
theorem k8_lo {j : Nat} (hj : j < r) (h1 : h + 14 ≤ t) : pm8 I h s t hr w rm pi r n (t + 3) j = lou I h t (I (s + 2) hr) j := by
  unfold pm8 pJ pH
  simp (disch := omega) only [up_ne, kG_o h1]
  exact kF_lo hj h1
theorem k8_li {j : Nat} (hj : j < r) (h1 : h + 14 ≤ t) : pm8 I h s t hr w rm pi r n (t + 4) j = lwi I h t (I (s + 2) hr) j := by
  unfold pm8 pJ pH
  simp (disch := omega) only [up_ne, kG_o h1]
  exact kF_lw hj h1
theorem k8_gh {j : Nat} (hj : j < r) (h1 : h + 14 ≤ t) (hrm : ∀ k, k < n → rm k < r) : pm8 I h s t hr w rm pi r n (t + 5) j = ghn rm (kHt I h s t n w rm) (fun _ => 0) n j := by
  unfold pm8 pJ pH
  simp (disch := omega) only [up_ne]
  exact kG_gh hj h1 hrm
theorem k8_su {j : Nat} (hj : j < r) (h1 : h + 14 ≤ t) : pm8 I h s t hr w rm pi r n (t + 6) j = snn I h (Int32.ofNat hr) j := by
  unfold pm8 pJ pH
  simp (disch := omega) only [up_ne]
  exact kG_su hj h1
theorem k8_fl {k : Nat} (hk : k < n) (h1 : h + 14 ≤ t) : pm8 I h s t hr w rm pi r n (t + 10) k = pfl I h s t n k := by
  unfold pm8 pJ pH
  simp (disch := omega) only [up_ne, kG_o h1, kF_o h1]
  exact k5_fl hk h1
theorem k8_ht {k : Nat} (hk : k < n) (h1 : h + 14 ≤ t) : pm8 I h s t hr w rm pi r n (t + 11) k = kHt I h s t n w rm k := by
  unfold pm8 pJ pH
  simp (disch := omega) only [up_ne, kG_o h1, kF_o h1]
  exact k5_ht hk h1
theorem k8_me {k : Nat} (hk : k < n) (h1 : h + 14 ≤ t) : pm8 I h s t hr w rm pi r n (t + 12) k = jmin 100000000 (I (t + 12) k + kHt I h s t n w rm k) := by
  unfold pm8 pJ pH
  simp (disch := omega) only [up_ne]
  exact kG_me hk h1
theorem ddn_c {hot : Int32} {fl fl' D D' : Nat → Int32} (hf : ∀ k, k < n → fl k = fl' k) (hp : ∀ k, k < n → pi k < 4) (hd : ∀ p, p < 4 → D p = D' p) : ∀ p, p < 4 → ddn hot fl pi D n p = ddn hot fl' pi D' n p := by
  induction n with
  | zero => exact hd
  | succ n ih =>
    intro p hp4
    have ih' := ih (fun k hk => hf k (by omega)) (fun k hk => hp k (by omega))
    unfold ddn
    rw [hf n (by omega)]
    split
    · exact ih' p hp4
    split
    · exact ih' p hp4
    by_cases q : p = pi n
    · rw [q, up_eq, up_eq]
    · rw [up_ne q, up_ne q, ih' p hp4]
theorem k8_de {p : Nat} (hp : p < 4) (h1 : h + 14 ≤ t) (hpi : ∀ k, k < n → pi k < 4) : pm8 I h s t hr w rm pi r n (t + 13) p = ddn (if w < 600 then 0 else 1) (pfl I h s t n) pi (fun j => I (t + 13) j + 1) n p := by
  unfold pm8 pJ
  rw [up_eq]
  refine ddn_c (fun k hk => ?_) hpi (fun q hq => ?_) p hp
  · unfold pH
    simp (disch := omega) only [up_ne, kG_o h1, kF_o h1]
    exact k5_fl hk h1
  · rw [pre_lt hq]
    unfold pH
    simp (disch := omega) only [up_ne, kG_o h1, kF_o h1, k5_o h1]
end
