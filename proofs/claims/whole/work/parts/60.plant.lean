/-! hours, nights, holidays, warmth -/
def hou (x : Int32) : Int32 := x / 60 - x / 60 / 24 * 24
theorem c_hourOf (d : Nat) (x : Int32) (h : mH) : mcal mT (d + 1) 171 [.int x] h = some (.inl (some (.int (hou x))), h) := by
  obtain ⟨G, I, L⟩ := h
  rw [q_X11_hourOf_, e_X11_hourOf_0, if_neg (by decide), if_neg (by decide)]
  rfl
def ngt (I : Nat → Nat → Int32) (s : Nat) (hr : Int32) : Int32 := if I s 4 ≤ I s 3 then (if I s 3 ≤ hr then 1 else if I s 4 ≤ hr then 0 else 1) else if hr < I s 3 then 0 else if I s 4 ≤ hr then 0 else 1
theorem c_isNight (d : Nat) {G : mG} {I : Nat → Nat → Int32} {L : Nat → Nat → Int64} {s : Nat} (hr : Int32) (hS : LayS G s) : mcal mT (d + 1) 78 [.ref s, .int hr] (G, I, L) = some (.inl (some (.int (ngt I s hr))), (G, I, L)) := by
  unfold ngt
  simp only [q_X7_isNight_, e_X7_isNight_0, e_X7_isNight_31, e_X7_isNight_32, e_X7_isNight_33, e_X7_isNight_49, e_X7_isNight_53, e_X7_isNight_54, ↓vS hS, mb0, mb1]
  by_cases c1 : I s 4 ≤ I s 3
  · simp only [if_pos c1]
    by_cases c2 : I s 3 ≤ hr
    · simp only [if_pos c2]
    · by_cases c3 : I s 4 ≤ hr
      · simp only [if_neg c2, if_pos c3]
      · simp only [if_neg c2, if_neg c3]
  · simp only [if_neg c1]
    by_cases c2 : hr < I s 3
    · simp only [if_pos c2]
    · by_cases c3 : I s 4 ≤ hr
      · simp only [if_neg c2, if_pos c3]
      · simp only [if_neg c2, if_neg c3]
def hof (I : Nat → Nat → Int32) (s : Nat) (mi y : Int32) : Nat → Int32
  | 0 => y
  | k + 1 => if mi < I (s + 4) k then hof I s mi y k else if I (s + 5) k ≤ mi then hof I s mi y k else jmax (hof I s mi y k) (I (s + 6) k)
theorem c_offAt (d : Nat) {G : mG} {I : Nat → Nat → Int32} {L : Nat → Nat → Int64} {s m : Nat} (mi hr : Int32) (hS : LayS G s) (hm : I s 6 = Int32.ofNat m) (hm4 : m ≤ 4) : mcal mT (d + 2) 77 [.ref s, .int mi, .int hr] (G, I, L) = some (.inl (some (.int (hof I s mi (if ngt I s hr = 0 then 0 else I s 5) m))), (G, I, L)) := by
  have key : ∀ y : Int32, f_X7_offAt (d + 1) 16 [.ref s, .int mi, mU, mU, mU] [.int y] (G, I, L) = some (.inl (some (.int (hof I s mi y m))), (G, I, L)) := by
    intro y
    rw [e_X7_offAt_16]
    have A := loopx (fun x (q : Int32) => f_X7_offAt (d + 1) 20 [.ref s, .int mi, mU, .int q, .int x] [] (G, I, L)) (fun k => hof I s mi y k) m (by
      intro k hk
      have e1 : ¬ Int32.ofNat m ≤ Int32.ofNat k := by rw [i_le (by omega) (by omega)]; omega
      have e2 : ¬ (4 : Int32) ≤ Int32.ofNat k := by
        have := i_le (a := 4) (b := k) (by omega) (by omega)
        intro q
        have := this.mp q
        omega
      rw [e_X7_offAt_20]
      by_cases c1 : mi < I (s + 4) k
      · simp (disch := omega) only [↓vS hS, hm, if_neg e1, if_neg e2, if_pos c1, e_X7_offAt_69, i_one, hof]
      by_cases c2 : I (s + 5) k ≤ mi
      · simp (disch := omega) only [↓vS hS, hm, if_neg e1, if_neg e2, if_neg c1, if_pos c2, e_X7_offAt_69, i_one, hof]
      · simp (disch := omega) only [↓vS hS, hm, if_neg e1, if_neg e2, if_neg c1, if_neg c2, e_X7_offAt_69, i_one, hof])
    dsimp only [hof] at A
    have e1 : Int32.ofNat m ≤ Int32.ofNat m := by rw [i_le (by omega) (by omega)]; omega
    rw [A, e_X7_offAt_20]
    simp only [↓vS hS, hm, if_pos e1, e_X7_offAt_75]
  simp only [q_X7_offAt_, e_X7_offAt_0, ↓vS hS, c_isNight d hr hS, mcI_v]
  by_cases c : ngt I s hr = 0
  · simp only [if_pos c, e_X7_offAt_15, key]
  · simp only [if_neg c, key]
/-- whether the first k rooms with radiators are warm -/
def wmn (I : Nat → Nat → Int32) (t : Nat) (want : Int32) (rm : Nat → Nat) (n : Nat) : Prop := ∀ k, k < n → want ≤ I (t + 1) (rm k)
theorem c_isWarm (d : Nat) {G : mG} {I : Nat → Nat → Int32} {L : Nat → Nat → Int64} {p h s t u n : Nat} {rm : Nat → Nat} (want : Int32) (hP : LayP G p h s t u) (hH : LayH G h) (hT : LayT G t) (hn : I h 10 = Int32.ofNat n) (hn8 : n ≤ 8) (hR : ∀ k, k < n → I (h + 9) k = Int32.ofNat (rm k) ∧ rm k < 8) : ∃ b : Int32, mcal mT (d + 1) 73 [.ref p, .int want] (G, I, L) = some (.inl (some (.int b)), (G, I, L)) ∧ (b = 1 ∧ wmn I t want rm n ∨ b = 0 ∧ ¬ wmn I t want rm n) := by
  have go : ∀ j k, j + k = n → wmn I t want rm k → ∃ b : Int32, f_X6_isWarm d 2 [.ref p, .int want, .int (Int32.ofNat k)] [] (G, I, L) = some (.inl (some (.int b)), (G, I, L)) ∧ (b = 1 ∧ wmn I t want rm n ∨ b = 0 ∧ ¬ wmn I t want rm n) := by
    intro j
    induction j with
    | zero =>
      intro k e w
      have ek : k = n := by omega
      subst ek
      have e1 : Int32.ofNat k ≤ Int32.ofNat k := by rw [i_le (by omega) (by omega)]; omega
      refine ⟨1, ?_, Or.inl ⟨rfl, w⟩⟩
      rw [e_X6_isWarm_2]
      simp only [↓vP hP, ↓vH hH, hn, if_pos e1, e_X6_isWarm_42, mb1]
    | succ j ih =>
      intro k e w
      have hk : k < n := by omega
      have e1 : ¬ Int32.ofNat n ≤ Int32.ofNat k := by rw [i_le (by omega) (by omega)]; omega
      obtain ⟨r1, r2⟩ := hR k hk
      by_cases c : want ≤ I (t + 1) (rm k)
      · obtain ⟨b, q1, q2⟩ := ih (k + 1) (by omega) (fun i hi => by
          by_cases q : i = k
          · rw [q]; exact c
          · exact w i (by omega))
        refine ⟨b, ?_, q2⟩
        rw [e_X6_isWarm_2]
        simp (disch := omega) only [↓vP hP, ↓vH hH, ↓vT hT, hn, if_neg e1, r1, if_pos c, e_X6_isWarm_36, i_one]
        exact q1
      · refine ⟨0, ?_, Or.inr ⟨rfl, fun q => c (q k hk)⟩⟩
        rw [e_X6_isWarm_2]
        simp (disch := omega) only [↓vP hP, ↓vH hH, ↓vT hT, hn, if_neg e1, r1, if_neg c, mb0]
  obtain ⟨b, q1, q2⟩ := go n 0 (by omega) (fun k hk => by omega)
  exact ⟨b, by simp only [q_X6_isWarm_, e_X6_isWarm_0]; exact q1, q2⟩
