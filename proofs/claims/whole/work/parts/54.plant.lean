/-! a plant's minute: heats -/
theorem pre_c {α : Type} {k : Nat} {F F' g : Nat → α} (h : ∀ j, j < k → F j = F' j) : pre k F g = pre k F' g := by
  funext j
  by_cases q : j < k
  · rw [pre_lt q, pre_lt q, h j q]
  · rw [pre_ge q, pre_ge q]
theorem pre_g {α : Type} {k : Nat} {g : Nat → α} : pre k g g = g := by
  funext j
  by_cases q : j < k
  · rw [pre_lt q]
  · rw [pre_ge q]
def gvh (I : Nat → Nat → Int32) (h t : Nat) (w : Int32) (rm : Nat → Nat) (j : Nat) : Int32 := jmax 0 (I (t + 10) j * I (h + 11) j * (w - I (t + 1) (rm j)) / 10000)
theorem c_giveHeat (d : Nat) {G : mG} {I : Nat → Nat → Int32} {L : Nat → Nat → Int64} {p h s t u n : Nat} {rm : Nat → Nat} (w : Int32) (hP : LayP G p h s t u) (hH : LayH G h) (hT : LayT G t) (h1 : h + 14 ≤ t) (hn : I h 10 = Int32.ofNat n) (hn8 : n ≤ 8) (hR : ∀ k, k < n → I (h + 9) k = Int32.ofNat (rm k) ∧ rm k < 8) : mcal mT (d + 1) 59 [.ref p, .int w] (G, I, L) = some (.inl none, (G, va_up I (t + 11) (pre n (gvh I h t w rm) (I (t + 11))), L)) := by
  simp only [q_X6_giveHeat_, e_X6_giveHeat_0]
  have A := loopx (fun x (q : Nat → Nat → Int32) => f_X6_giveHeat d 2 [.ref p, .int w, .int x, mU, mU] [] (G, q, L))
    (fun k => va_up I (t + 11) (pre k (gvh I h t w rm) (I (t + 11)))) n (by
      intro k hk
      have hk8 : k < 8 := by omega
      have e1 : ¬ Int32.ofNat n ≤ Int32.ofNat k := by rw [i_le (by omega) (by omega)]; omega
      obtain ⟨r1, r2⟩ := hR k hk
      rw [e_X6_giveHeat_2]
      simp (disch := omega) only [↓vP hP, ↓vH hH, ↓vT hT, hn, if_neg e1, if_neg (show ¬ (10000 : Nat) = 0 by decide), r1, up2_e, up_eq, up_ne, up_up, i_one]
      rw [pre_s]
      rfl)
  simp only [pre_0, up_id] at A
  rw [A]
  have e1 : Int32.ofNat n ≤ Int32.ofNat n := by rw [i_le (by omega) (by omega)]; omega
  rw [e_X6_giveHeat_2]
  simp (disch := omega) only [↓vP hP, ↓vH hH, if_pos e1, e_X6_giveHeat_81, up_ne, hn]
theorem c_allHeats (d : Nat) {G : mG} {I : Nat → Nat → Int32} {L : Nat → Nat → Int64} {p h s t u n : Nat} (hP : LayP G p h s t u) (hH : LayH G h) (hT : LayT G t) (hn : I h 10 = Int32.ofNat n) (hn8 : n ≤ 8) : mcal mT (d + 1) 61 [.ref p] (G, I, L) = some (.inl (some (.int (sm n (I (t + 11))))), (G, I, L)) := by
  simp only [q_X6_allHeats_, e_X6_allHeats_0]
  have A := loopx (fun x (q : Int32) => f_X6_allHeats d 4 [.ref p, .int q, .int x] [] (G, I, L))
    (fun k => sm k (I (t + 11))) n (by
      intro k hk
      have hk8 : k < 8 := by omega
      have e1 : ¬ Int32.ofNat n ≤ Int32.ofNat k := by rw [i_le (by omega) (by omega)]; omega
      rw [e_X6_allHeats_4]
      simp (disch := omega) only [↓vP hP, ↓vH hH, ↓vT hT, hn, if_neg e1, i_one, sm_s])
  simp only [sm_0] at A
  rw [A]
  have e1 : Int32.ofNat n ≤ Int32.ofNat n := by rw [i_le (by omega) (by omega)]; omega
  rw [e_X6_allHeats_4]
  simp (disch := omega) only [↓vP hP, ↓vH hH, if_pos e1, e_X6_allHeats_33, hn]
def hpw (I : Nat → Nat → Int32) (h t n j : Nat) : Int32 := if sm n (I (t + 11)) ≤ I h 17 then I (t + 11) j else if 0 < sm n (I (t + 11)) then (Int32.toInt64 (I (t + 11) j) * Int32.toInt64 (I h 17) / Int32.toInt64 (sm n (I (t + 11)))).toInt32 else I (t + 11) j
theorem i64_0 {x : Int32} (h : 0 < x) : ¬ Int32.toInt64 x = 0 := by
  intro q
  have := congrArg Int64.toInt q
  rw [Int32.toInt_toInt64] at this
  rw [Int32.lt_iff_toInt_lt] at h
  have z : (0 : Int32).toInt = 0 := rfl
  have z2 : (0 : Int64).toInt = 0 := rfl
  omega
theorem c_holdToPower (d : Nat) {G : mG} {I : Nat → Nat → Int32} {L : Nat → Nat → Int64} {p h s t u n : Nat} (hP : LayP G p h s t u) (hH : LayH G h) (hT : LayT G t) (h1 : h + 14 ≤ t) (hn : I h 10 = Int32.ofNat n) (hn8 : n ≤ 8) : mcal mT (d + 2) 60 [.ref p] (G, I, L) = some (.inl (some (.int (sm n (hpw I h t n)))), (G, va_up I (t + 11) (pre n (hpw I h t n) (I (t + 11))), L)) := by
  have e1 : Int32.ofNat n ≤ Int32.ofNat n := by rw [i_le (by omega) (by omega)]; omega
  simp (disch := omega) only [q_X6_holdToPower_, e_X6_holdToPower_0, ↓vP hP, ↓vH hH, c_allHeats d hP hH hT hn hn8, mcI_v]
  by_cases c1 : sm n (I (t + 11)) ≤ I h 17
  · have e : hpw I h t n = I (t + 11) := funext fun j => if_pos c1
    simp only [if_pos c1, e_X6_holdToPower_20, e, pre_g, up_id]
  by_cases c2 : 0 < sm n (I (t + 11))
  · simp only [if_neg c1, if_pos c2, e_X6_holdToPower_22]
    have A := loopx (fun x (q : Nat → Nat → Int32) => f_X6_holdToPower (d + 1) 24 [.ref p, .int (sm n (I (t + 11))), .int x] [] (G, q, L))
      (fun k => va_up I (t + 11) (pre k (hpw I h t n) (I (t + 11)))) n (by
        intro k hk
        have hk8 : k < 8 := by omega
        have e1 : ¬ Int32.ofNat n ≤ Int32.ofNat k := by rw [i_le (by omega) (by omega)]; omega
        rw [e_X6_holdToPower_24]
        simp (disch := omega) only [↓vP hP, ↓vH hH, ↓vT hT, hn, if_neg e1, if_neg (i64_0 c2), up2_e, up_eq, up_ne, up_up, i_one]
        rw [pre_s]
        rw [pre_ge (by omega)]
        unfold hpw
        rw [if_neg c1, if_pos c2])
    simp only [pre_0, up_id] at A
    rw [A, e_X6_holdToPower_24]
    have hn' : va_up I (t + 11) (pre n (hpw I h t n) (I (t + 11))) h 10 = Int32.ofNat n := by rw [up_ne (by omega)]; exact hn
    have e2 : sm n (pre n (hpw I h t n) (I (t + 11))) = sm n (hpw I h t n) := sm_c fun k hk => pre_lt hk
    simp (disch := omega) only [↓vP hP, ↓vH hH, if_pos e1, e_X6_holdToPower_73, hn', c_allHeats d hP hH hT hn' hn8, mcI_v, up_eq, e2]
  · have e : hpw I h t n = I (t + 11) := funext fun j => (if_neg c1).trans (if_neg c2)
    simp only [if_neg c1, if_neg c2, e_X6_holdToPower_20, e, pre_g, up_id]
def rbo (f : Nat → Int32) (r : Int32) : Nat → Int32 := va_up (va_up (if r ≤ f 4 then f else va_up f 3 (f 3 + 1)) 4 r) 5 (f 5 + r)
theorem c_runBoiler (d : Nat) {G : mG} {I : Nat → Nat → Int32} {L : Nat → Nat → Int64} {p h s t u : Nat} (v : Int32) (hP : LayP G p h s t u) (hT : LayT G t) : mcal mT (d + 1) 62 [.ref p, .int v] (G, I, L) = some (.inl none, (G, va_up I t (rbo (I t) (if v ≤ 0 then 0 else 1)), L)) := by
  simp only [q_X6_runBoiler_, e_X6_runBoiler_0, e_X6_runBoiler_8]
  have key : ∀ r : Int32, f_X6_runBoiler d 9 [.ref p, mU, mU] [.int r] (G, I, L) = some (.inl none, (G, va_up I t (rbo (I t) r), L)) := by
    intro r
    by_cases c : r ≤ I t 4
    · simp (disch := omega) only [e_X6_runBoiler_9, e_X6_runBoiler_34, ↓vP hP, ↓vT hT, if_pos c, up2_e, up_eq, up_up, up_ne, rbo]
    · simp (disch := omega) only [e_X6_runBoiler_9, e_X6_runBoiler_34, ↓vP hP, ↓vT hT, if_neg c, up2_e, up_eq, up_up, up_ne, rbo]
  by_cases c : v ≤ 0
  · rw [if_pos c, if_pos c]; exact key 0
  · rw [if_neg c, if_neg c]; exact key 1
