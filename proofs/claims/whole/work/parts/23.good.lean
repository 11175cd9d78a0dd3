/-! every method of the table is sound at every depth -/
theorem mlay_args {φ : Nat → Nat} : ∀ (as : List Value) (i k : Nat) (v : Value), (mlay as)[k]? = some v → v ≠ mU → (i + k, vm_ φ v) ∈ lv_args i (as.map (vm_ φ)) := by
  intro as
  induction as with
  | nil => intro i k v h; simp [mlay] at h
  | cons a as ih =>
    intro i k v h hv
    have two : a.category = 2 → (a :: mU :: mlay as)[k]? = some v → (i + k, vm_ φ v) ∈ lv_args i ((a :: as).map (vm_ φ)) := by
      intro hc h
      rw [List.map_cons, lv_args, if_pos (by rw [vm_cat]; exact hc)]
      match k, h with
      | 0, h => simp at h; subst h; exact List.mem_cons_self
      | 1, h => simp at h; exact absurd h.symm hv
      | k + 2, h =>
        have h2 : (mlay as)[k]? = some v := by simpa using h
        have := ih (i + 2) k v h2 hv
        rw [show i + (k + 2) = i + 2 + k by omega]
        exact List.mem_cons_of_mem _ this
    have one : a.category = 1 → (a :: mlay as)[k]? = some v → (i + k, vm_ φ v) ∈ lv_args i ((a :: as).map (vm_ φ)) := by
      intro hc h
      rw [List.map_cons, lv_args, if_neg (by rw [vm_cat, hc]; omega)]
      match k, h with
      | 0, h => simp at h; subst h; exact List.mem_cons_self
      | k + 1, h =>
        have h2 : (mlay as)[k]? = some v := by simpa using h
        have := ih (i + 1) k v h2 hv
        rw [show i + (k + 1) = i + 1 + k by omega]
        exact List.mem_cons_of_mem _ this
    cases a <;> first | exact two rfl h | exact one rfl h
theorem mlay_len {φ : Nat → Nat} : ∀ as : List Value, (lg_sl (as.map (vm_ φ))).length = (mlay as).length := by
  intro as
  induction as with
  | nil => rfl
  | cons a as ih =>
    cases a <;> simp [lg_sl, mlay, vm_, Value.category] at ih ⊢ <;> omega
theorem mlay_rf {z : Nat} : ∀ as : List Value, mrf z as → mrf z (mlay as) := by
  intro as
  induction as with
  | nil => intro h; exact h
  | cons a as ih =>
    intro h
    have h1 := mrf_cons.mp h
    have one : mrf z (a :: mlay as) := mrf_cons.mpr ⟨h1.1, ih h1.2⟩
    have two : mrf z (a :: mU :: mlay as) := mrf_cons.mpr ⟨h1.1, mrf_cons.mpr ⟨fun _ q => (by cases q), ih h1.2⟩⟩
    cases a <;> first | exact two | exact one
theorem mpad_rel {φ : Nat → Nat} {z nL : Nat} {as : List Value} (hl : (mlay as).length ≤ nL) (hr : mrf z as) : mLr φ z (mpad as nL) nL ((lg_sl (as.map (vm_ φ)) ++ List.replicate (nL - (lg_sl (as.map (vm_ φ))).length) Slot.unset).toArray) := by
  have he := lv_entry (as.map (vm_ φ)) (n := nL) (by rw [mlay_len]; exact hl)
  refine ⟨he.1, he.2.1, fun k v hk hv => ?_, fun a ha => ?_⟩
  · unfold mpad at hk
    rw [List.getElem?_append] at hk
    split at hk
    · have := mlay_args (φ := φ) as 0 k v hk hv
      have h2 := he.2.2 _ this
      simpa using h2
    · have : v = mU := by
        have := List.mem_of_getElem? hk
        exact (List.mem_replicate.mp this).2
      exact absurd this hv
  · unfold mpad at ha
    rcases List.mem_append.mp ha with h | h
    · exact mlay_rf as hr a h
    · have := (List.mem_replicate.mp h).2
      cases this
section GOOD
variable {l : Launch} {V : mEv} {d : Nat} {T : List mMi}
set_option maxHeartbeats 4000000 in
theorem mGood_succ (hst : l.stackTraces = false) (hTM : ∀ (j : Nat) (q : mMi), T[j]? = some q → mokM T q = true) (hTD : ∀ (j : Nat) (q : mMi), T[j]? = some q → ∀ x ∈ iC q, mdc (iB q) x = true) (hG : mGood l V T d) : mGood l V T (d + 1) := by
  have hT : ∀ (j : Nat) (q : mMi), T[j]? = some q → mokm q = true := fun j q hq => by
    have := hTM j q hq
    unfold mokM at this
    rw [Bool.and_eq_true] at this
    exact this.1
  intro j as h o' hm
  have hmn := mn_cal (d + 1) j as h o' hm
  refine ⟨⟨hmn.1, hmn.2.1⟩, hmn.2.2, fun q hq φ => ?_⟩
  unfold mcal at hm
  rw [hq] at hm
  dsimp only at hm
  split at hm
  · rename_i hlen
    obtain ⟨N, hN⟩ := mfx_some.mp hm
    have hrun := hN N (Nat.le_refl _)
    have hM := hTM j q hq
    have hmk := hT j q hq
    unfold mokM at hM
    simp only [Bool.and_eq_true, decide_eq_true_eq] at hM
    obtain ⟨-, hokl, -, hokh⟩ := hM
    have hmk2 := hmk
    simp only [mokm, Bool.and_eq_true, decide_eq_true_eq] at hmk2
    obtain ⟨⟨hpl, -⟩, -, -, -, hkind⟩ := hmk2
    have finish : ∀ {p : Program} {e : Env} {s : State} {m : MethodId} {below : List Frame} {meth : Method} {c : Code}, mHp V φ h s.heap → mrf h.1.1 as → mGo V s.heap (iL q) φ h (mWp p l e (mRm (d + 1) h o') s m (as.map (vm_ φ)).toArray below meth c (mQm below V φ h o' (as.map (vm_ φ)).toArray s)) o' 0 (mpad as (iL q)) [] h → W p l e (mRm (d + 1) h o') s m (as.map (vm_ φ)).toArray below meth c s.heap [] 0 0 (mQm below V φ h o' (as.map (vm_ φ)).toArray s) (entryFrame m (as.map (vm_ φ)).toArray (iL q)) := by
      intro p e s m below meth c hP hrf g
      rw [lg_entry_eq]
      have k := g.2 φ _ s.heap [] ⟨hP, va_S.rf, mpad_rel hlen hrf, fun _ _ => rfl, Nat.le_refl _, Nat.le_refl _⟩ mrf_nil
      rw [Nat.sub_self, Nat.sub_self] at k
      exact k
    have mk : ∀ {p : Program} {e : Env} {s : State} {m : MethodId} {args : Array Value} {below : List Frame} {meth : Method} {c : Code} {s₁ : State}, BodyLoose p l (iY q) (headSpec (mWs q) (mRm (d + 1) h o')) (iB q) (iL q) (iR q) e s m args below meth c s₁ → c.maxLocals = iL q → mEnv V s → mCx p l (mRm (d + 1) h o') s m args meth c V (iY q).cls (iB q) (iL q) (mWs q) (decide (iK q = 2)) := by
      intro p e s m args below meth c s₁ B hml hE
      refine ⟨B.exec, B.bytes, hml, findClass_of_methodNamed B.named, atoms_spec (ws := mWs q) B.pre, mCls_sub mCls_ok (fun w hw => List.mem_cons_of_mem _ hw), B.notSynchronized, fun hi => ?_, hE, hst, (show 8 ≤ 8 + (d + 1) by omega), (show 150 ≤ 150 + 60 * (d + 1) by omega), fun w hw => List.mem_cons_of_mem _ hw⟩
      have hk2 : iK q = 2 := of_decide_eq_true hi
      rw [hk2] at hkind
      simp only [Bool.and_eq_true, decide_eq_true_eq] at hkind
      exact ((name_of_methodNamed B.named B.method).1).trans hkind.2.1
    by_cases hk3 : iK q = 3
    · have hcw : mWs q = Cond.codeWith (iY q) (iB q) (iL q) (iR q) (iH q) :: mBT := by
        unfold mWs mCw
        rw [hk3]
        rfl
      rw [hk3] at hokh
      refine vx_ofWH (cc := iB q) (maxL := iL q) (ret := iR q) (hh := iH q) hpl hcw ?_
      intro p e s m args below meth c s₁ B hml hv
      obtain ⟨rfl, hP, hE, hrf⟩ := hv
      have C := mk B hml hE
      have htb : c.exceptionTable.toList = tableOf (iH q) := vx_table (x := iY q) B (C.2.2.2.2.1 _ (by rw [hcw]; exact List.mem_cons_self))
      refine finish hP hrf (snd_run (tab := decide (iK q = 3)) hG hT C B.returns (fun q9 => ?_) hokl (hTD j q hq) (fun n ih pc ls => hx_tab C hokh htb ih pc ls) N 0 _ _ _ hrun)
      rw [hk3] at q9
      cases q9
    · have hcw : mWs q = Cond.code (iY q) (iB q) (iL q) (iR q) :: mBT := by
        unfold mWs mCw
        split
        · rename_i h3
          exact absurd h3 hk3
        · rfl
      have hD : iD q = [] := by
        split at hkind
        · simp only [Bool.and_eq_true, decide_eq_true_eq] at hkind
          exact hkind.2.2
        · simp only [Bool.and_eq_true, decide_eq_true_eq] at hkind
          exact hkind.2.2.2
        · simp only [Bool.and_eq_true, decide_eq_true_eq] at hkind
          exact hkind.2.2.2.2
        · rename_i h3
          exact absurd h3 hk3
        · cases hkind
      refine vx_ofW (cc := iB q) (maxL := iL q) (ret := iR q) hpl hcw ?_
      intro p e s m args below meth c s₁ B hml htb hv
      obtain ⟨rfl, hP, hE, hrf⟩ := hv
      have C := mk B hml hE
      rw [hD] at hrun
      exact finish hP hrf (snd_run (tab := decide (iK q = 3)) hG hT C B.returns (fun _ => htb) hokl (hTD j q hq) (fun n ih pc ls => hx_none htb B.notSynchronized pc ls) N 0 _ _ _ hrun)
  · cases hm
theorem mGood_all (hst : l.stackTraces = false) (hTM : ∀ (j : Nat) (q : mMi), T[j]? = some q → mokM T q = true) (hTD : ∀ (j : Nat) (q : mMi), T[j]? = some q → ∀ x ∈ iC q, mdc (iB q) x = true) : ∀ d, mGood l V T d := by
  intro d
  induction d with
  | zero => intro j as h o' hm; cases hm
  | succ d ih => exact mGood_succ hst hTM hTD ih
end GOOD
