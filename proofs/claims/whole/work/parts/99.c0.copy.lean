/-! relations of copies -/
section
variable {I I' : Nat → Nat → Int32} {L L' : Nat → Nat → Int64} {H sv sv' dv dv' pv pv' : Nat → Int32} {lv lv' : Nat → Int64} {s s' t t' e e' nr n nh M hN w : Nat}
theorem SeR_cp (q : SeR I s sv n nh) (hn8 : n ≤ 8) (r1 : ∀ k, k < 8 → I' (s' + 1) k = I (s + 1) k) (r2 : ∀ k, k < 24 → I' (s' + 2) k = I (s + 2) k) (r3 : ∀ k, k < 24 → I' (s' + 3) k = I (s + 3) k) (r4 : ∀ k, k < 4 → I' (s' + 4) k = I (s + 4) k) (r5 : ∀ k, k < 4 → I' (s' + 5) k = I (s + 5) k) (r6 : ∀ k, k < 4 → I' (s' + 6) k = I (s + 6) k) (f : I' s' 3 = I s 3 ∧ I' s' 4 = I s 4 ∧ I' s' 5 = I s 5 ∧ I' s' 6 = I s 6 ∧ I' s' 10 = I s 10) (hs : ∀ j, (24 ≤ j ∧ j < 32) ∨ (44 ≤ j ∧ j < 71) ∨ (130 ≤ j ∧ j < 168) → sv' j = sv j) : SeR I' s' sv' n nh := by
  obtain ⟨a1, a2, a3, a4, a5, a6, a7⟩ := q
  obtain ⟨f3, f4, f5, f6, f10⟩ := f
  have nh4 := a6.2.2
  unfold SeR
  rw [f3, f4, f5, f6, f10, hs 167 (by omega), hs 68 (by omega), hs 69 (by omega), hs 70 (by omega), hs 154 (by omega)]
  refine ⟨fun k hk => ?_, a2, fun k hk => ?_, fun k hk => ?_, a5, a6, fun k hk => ?_⟩
  · rw [hs _ (by omega), r1 k (by omega)]; exact a1 k hk
  · rw [hs _ (by omega), r2 k hk]; exact a3 k hk
  · rw [hs _ (by omega), r3 k hk]; exact a4 k hk
  · rw [hs _ (by omega), hs _ (by omega), hs _ (by omega), r4 k (by omega), r5 k (by omega), r6 k (by omega)]; exact a7 k hk
theorem StR_cp (q : StR I L t H sv lv nr n M) (hn8 : n ≤ 8) (hnr8 : nr ≤ 8) (r1 : ∀ k, k < 8 → I' (t' + 1) k = I (t + 1) k) (r2 : ∀ k, k < 8 → I' (t' + 2) k = I (t + 2) k) (r3 : ∀ k, k < 8 → I' (t' + 3) k = I (t + 3) k) (r4 : ∀ k, k < 8 → I' (t' + 4) k = I (t + 4) k) (r5 : ∀ k, k < 8 → I' (t' + 5) k = I (t + 5) k) (r6 : ∀ k, k < 8 → I' (t' + 6) k = I (t + 6) k) (r7 : ∀ k, k < 8 → I' (t' + 7) k = I (t + 7) k) (r8 : ∀ k, k < 8 → I' (t' + 8) k = I (t + 8) k) (r9 : ∀ k, k < 8 → L' (t' + 9) k = L (t + 9) k) (r10 : ∀ k, k < 8 → I' (t' + 10) k = I (t + 10) k) (r11 : ∀ k, k < 8 → I' (t' + 11) k = I (t + 11) k) (r12 : ∀ k, k < 8 → I' (t' + 12) k = I (t + 12) k) (r13 : ∀ k, k < 4 → I' (t' + 13) k = I (t + 13) k) (f : I' t' 0 = I t 0 ∧ I' t' 1 = I t 1 ∧ I' t' 2 = I t 2 ∧ I' t' 3 = I t 3 ∧ I' t' 4 = I t 4 ∧ I' t' 5 = I t 5) (hs : ∀ j, j < 24 ∨ (32 ≤ j ∧ j < 44) ∨ (71 ≤ j ∧ j < 130) ∨ (168 ≤ j ∧ j < 173) → sv' j = sv j) (hl : ∀ j, j < 16 → lv' j = lv j) : StR I' L' t' H sv' lv' nr n M := by
  obtain ⟨a1, a2, a3, a4, a5, a6, a7, a8, a9⟩ := q
  obtain ⟨f0, f1, f2, f3, f4, f5⟩ := f
  unfold StR
  rw [f0, f1, f2, f3, f4, f5, hs 71 (by omega), hs 72 (by omega), hs 73 (by omega), hs 172 (by omega)]
  refine ⟨a1, fun k hk => ?_, ⟨a3.1, fun k hk => ?_⟩, ⟨a4.1, fun k hk => ?_⟩, a5, fun k hk => ?_, fun k hk => ?_, fun k hk => ?_, fun k hk => ?_⟩
  · rw [hs _ (by omega), r1 k (by omega)]; exact a2 k hk
  · rw [hs _ (by omega)]; exact a3.2 k hk
  · rw [hs _ (by omega)]; exact a4.2 k hk
  · rw [hs _ (by omega), hs _ (by omega), hs _ (by omega), hs _ (by omega), hs _ (by omega), r2 k (by omega), r3 k (by omega), r4 k (by omega), r5 k (by omega), r6 k (by omega)]; exact a6 k hk
  · rw [hs (8 + k) (by omega), hs (16 + k) (by omega), hs (114 + k) (by omega), hs (122 + k) (by omega), r7 k (by omega), r8 k (by omega), r10 k (by omega), r11 k (by omega)]; exact a7 k hk
  · rw [hl _ (by omega), hl _ (by omega), r12 k (by omega), r9 k (by omega)]; exact a8 k hk
  · rw [hs _ (by omega), r13 k hk]; exact a9 k hk
theorem DiR_cp (q : DiR I e dv pv hN w nr M) (hnr8 : nr ≤ 8) (r1 : ∀ j, j < 2688 → I' (e' + 1) j = I (e + 1) j) (r2 : ∀ j, j < 56 → I' (e' + 2) j = I (e + 2) j) (f : I' e' 0 = I e 0 ∧ I' e' 1 = I e 1) (hd : ∀ j, j < 2688 → dv' j = dv j) (hp : ∀ j, j < 56 → pv' j = pv j) : DiR I' e' dv' pv' hN w nr M := by
  obtain ⟨a1, a2, a3, a4⟩ := q
  have h48 := a1.2.1
  unfold DiR
  rw [f.1, f.2]
  refine ⟨a1, fun b j hb hj => ?_, fun q j hj => ?_, fun q j hj => ?_⟩
  · rw [hd _ (by omega), r1 _ (by omega)]; exact a2 b j hb hj
  · rw [hp _ (by omega), r2 _ (by omega)]; exact a3 q j hj
  · rw [hp _ (by omega)]; exact a4 q j hj
/-- settings, state and diary copied from s, t, e to s', t', e' -/
def cpA (I : Nat → Nat → Int32) (s t e s' t' e' : Nat) : Nat → Nat → Int32 := cpD (cpT (cpS I s' s) t' t) e' e
theorem cpA_fr {a : Nat} (h1 : a < s' ∨ s' + 7 ≤ a) (h2 : a < t' ∨ t' + 14 ≤ a) (h3 : a < e' ∨ e' + 3 ≤ a) : cpA I s t e s' t' e' a = I a := by
  unfold cpA
  rw [cpD_fr h3, cpT_fr h2, cpS_fr h1]
/-- far: all six regions lie apart -/
def Far (s t e s' t' e' : Nat) : Prop := (s + 7 ≤ s' ∨ s' + 7 ≤ s) ∧ (t + 14 ≤ t' ∨ t' + 14 ≤ t) ∧ (e + 3 ≤ e' ∨ e' + 3 ≤ e) ∧ (s' + 7 ≤ t' ∧ t' + 14 ≤ e') ∧ (t + 14 ≤ s' ∨ s' + 7 ≤ t) ∧ (e + 3 ≤ s' ∨ s' + 7 ≤ e) ∧ (e + 3 ≤ t' ∨ t' + 14 ≤ e)
theorem cpA_Se (q : SeR I s sv n nh) (hn8 : n ≤ 8) (hF : Far s t e s' t' e') (hs : ∀ j, (24 ≤ j ∧ j < 32) ∨ (44 ≤ j ∧ j < 71) ∨ (130 ≤ j ∧ j < 168) → sv' j = sv j) : SeR (cpA I s t e s' t' e') s' sv' n nh := by
  obtain ⟨f1, f2, f3, ⟨f4, f5⟩, f6, f7, f8⟩ := hF
  obtain ⟨r1, r2, r3, r4, r5, r6⟩ := cpS_r (I := I) (s := s') (o := s) (by omega)
  have k : ∀ a, s' ≤ a → a < s' + 7 → cpA I s t e s' t' e' a = cpS I s' s a := by
    intro a h1 h2
    unfold cpA
    rw [cpD_fr (by omega), cpT_fr (by omega)]
  refine SeR_cp q hn8 ?_ ?_ ?_ ?_ ?_ ?_ ?_ hs
  · intro j hj; rw [k _ (by omega) (by omega), r1, pre_lt hj]
  · intro j hj; rw [k _ (by omega) (by omega), r2, pre_lt hj]
  · intro j hj; rw [k _ (by omega) (by omega), r3, pre_lt hj]
  · intro j hj; rw [k _ (by omega) (by omega), r4, pre_lt hj]
  · intro j hj; rw [k _ (by omega) (by omega), r5, pre_lt hj]
  · intro j hj; rw [k _ (by omega) (by omega), r6, pre_lt hj]
  · rw [k _ (by omega) (by omega)]
    exact cpS_f (by omega)
theorem cpA_St (q : StR I L t H sv lv nr n M) (hn8 : n ≤ 8) (hnr8 : nr ≤ 8) (hF : Far s t e s' t' e') (hL : ∀ k, k < 8 → L' (t' + 9) k = L (t + 9) k) (hs : ∀ j, j < 24 ∨ (32 ≤ j ∧ j < 44) ∨ (71 ≤ j ∧ j < 130) ∨ (168 ≤ j ∧ j < 173) → sv' j = sv j) (hl : ∀ j, j < 16 → lv' j = lv j) : StR (cpA I s t e s' t' e') L' t' H sv' lv' nr n M := by
  obtain ⟨f1, f2, f3, ⟨f4, f5⟩, f6, f7, f8⟩ := hF
  obtain ⟨r1, r2, r3, r4, r5, r6, r7, r8, r10, r11, r12, r13⟩ := cpT_r (I := cpS I s' s) (t := t') (o := t) (by omega)
  have k : ∀ a, t' ≤ a → a < t' + 14 → cpA I s t e s' t' e' a = cpT (cpS I s' s) t' t a := by
    intro a h1 h2
    unfold cpA
    rw [cpD_fr (by omega)]
  have o : ∀ a, t ≤ a → a < t + 14 → cpS I s' s a = I a := fun a h1 h2 => cpS_fr (by omega)
  refine StR_cp q hn8 hnr8 ?_ ?_ ?_ ?_ ?_ ?_ ?_ ?_ hL ?_ ?_ ?_ ?_ ?_ hs hl
  · intro j hj; rw [k _ (by omega) (by omega), r1, pre_lt hj, o _ (by omega) (by omega)]
  · intro j hj; rw [k _ (by omega) (by omega), r2, pre_lt hj, o _ (by omega) (by omega)]
  · intro j hj; rw [k _ (by omega) (by omega), r3, pre_lt hj, o _ (by omega) (by omega)]
  · intro j hj; rw [k _ (by omega) (by omega), r4, pre_lt hj, o _ (by omega) (by omega)]
  · intro j hj; rw [k _ (by omega) (by omega), r5, pre_lt hj, o _ (by omega) (by omega)]
  · intro j hj; rw [k _ (by omega) (by omega), r6, pre_lt hj, o _ (by omega) (by omega)]
  · intro j hj; rw [k _ (by omega) (by omega), r7, pre_lt hj, o _ (by omega) (by omega)]
  · intro j hj; rw [k _ (by omega) (by omega), r8, pre_lt hj, o _ (by omega) (by omega)]
  · intro j hj; rw [k _ (by omega) (by omega), r10, pre_lt hj, o _ (by omega) (by omega)]
  · intro j hj; rw [k _ (by omega) (by omega), r11, pre_lt hj, o _ (by omega) (by omega)]
  · intro j hj; rw [k _ (by omega) (by omega), r12, pre_lt hj, o _ (by omega) (by omega)]
  · intro j hj; rw [k _ (by omega) (by omega), r13, pre_lt hj, o _ (by omega) (by omega)]
  · have := cpT_f (I := cpS I s' s) (t := t') (o := t) (by omega)
    rw [o t (by omega) (by omega)] at this
    rw [k _ (by omega) (by omega)]
    exact this
theorem cpA_Di (q : DiR I e dv pv hN w nr M) (hnr8 : nr ≤ 8) (hF : Far s t e s' t' e') (hd : ∀ j, j < 2688 → dv' j = dv j) (hp : ∀ j, j < 56 → pv' j = pv j) : DiR (cpA I s t e s' t' e') e' dv' pv' hN w nr M := by
  obtain ⟨f1, f2, f3, ⟨f4, f5⟩, f6, f7, f8⟩ := hF
  obtain ⟨r1, r2, r3, r4⟩ := cpD_r (I := cpT (cpS I s' s) t' t) (e := e') (o := e) (by omega)
  have o : ∀ a, e ≤ a → a < e + 3 → cpT (cpS I s' s) t' t a = I a := fun a h1 h2 => by rw [cpT_fr (by omega), cpS_fr (by omega)]
  refine DiR_cp q hnr8 ?_ ?_ ?_ hd hp
  · intro j hj
    show cpD (cpT (cpS I s' s) t' t) e' e (e' + 1) j = _
    rw [r1, pre_lt hj, o _ (by omega) (by omega)]
  · intro j hj
    show cpD (cpT (cpS I s' s) t' t) e' e (e' + 2) j = _
    rw [r2, pre_lt hj, o _ (by omega) (by omega)]
  · show cpD (cpT (cpS I s' s) t' t) e' e e' 0 = _ ∧ cpD (cpT (cpS I s' s) t' t) e' e e' 1 = _
    rw [r3, r4, o e (by omega) (by omega)]
    exact ⟨rfl, rfl⟩
end
