/-! the environment goes along: into a call, behind a call -/
theorem mNG_warm {w : Cond} (hw : mngw w = true) {s U : State} (hW : s.WarmedH U.vm) (h : va_Nw w s) : va_Nw w U := by
  cases w <;> first | (cases hw; done) | exact va_Nw.warmC hW h | exact va_Nw.warmD hW h | exact va_Nw.warmM hW h
theorem mEnv_next {V : mEv} {s U : State} {H : Heap} {locs : List Loc} (h : mEnv V s) (hS : va_S (eA V) s.heap H locs) (hU : U.heap = H) (hW : s.WarmedH U.vm) : mEnv V U := by
  obtain ⟨h1, h2, h3, h4, h5, h6, h7, h8, h9, h10, h11, h12, h13⟩ := h
  have ha := hW.alike
  have hk : ∀ a : Nat, a < s.heap.size → ¬ eA V a → U.heap[a]? = s.heap[a]? := fun a q1 q2 => by rw [hU]; exact hS.2.1 a q1 q2
  refine ⟨va_K.moved ha h1, by rw [hU]; exact Nat.le_trans h2 hS.1, va_X.moved ha (h3.kept (hk _ (Nat.lt_of_lt_of_le h4 h2) (Nat.not_le.mpr h4))), h4, vx_Zq.moved ha (h5.kept hk), vx_Zq.moved ha (h6.kept hk), va_AO.moved ha h7, fun w hw => mNG_warm (List.mem_filter.mp hw).2 hW (h8 w hw), fun i hi => ?_, fun i q hq => vk_R.warm hW (h10 i q hq), va_Z.moved ha (h11.kept hk), fun i j hi hj hij => va_Nc.moved ha (h12 i j hi hj hij), va_Zq.moved ha (h13.kept hk)⟩
  obtain ⟨q1, q2, q3, q4⟩ := h9 i hi
  exact ⟨va_O.moved ha (q1.kept hk), va_OF.moved ha (q2.kept hk), va_OF.moved ha (q3.kept hk), va_T.moved ha (q4.kept hk)⟩
theorem mngw_tab {w : Cond} (hw : mngw w = true) : w.onTables = true := by
  cases w <;> first | rfl | cases hw
theorem mEnv_same {V : mEv} {u U : State} (hv : u.vm = U.vm) (hh : u.heap = U.heap) (h : mEnv V u) : mEnv V U := by
  obtain ⟨h1, h2, h3, h4, h5, h6, h7, h8, h9, h10, h11, h12, h13⟩ := h
  have ha : u.vm.Alike U.vm := by rw [hv]; exact Vm.Alike.refl _
  refine ⟨va_K.moved ha h1, by rw [← hh]; exact h2, va_X.moved ha (by rw [← hh]; exact h3), h4, vx_Zq.moved ha (by rw [← hh]; exact h5), vx_Zq.moved ha (by rw [← hh]; exact h6), va_AO.moved ha h7, fun w hw => va_Nw.same (mngw_tab (List.mem_filter.mp hw).2) hv (h8 w hw), fun i hi => ?_, fun i q hq => vk_R.same hv.symm (h10 i q hq), va_Z.moved ha (by rw [← hh]; exact h11), fun i j hi hj hij => va_Nc.moved ha (h12 i j hi hj hij), va_Zq.moved ha (by rw [← hh]; exact h13)⟩
  obtain ⟨q1, q2, q3, q4⟩ := h9 i hi
  rw [← hh]
  exact ⟨va_O.moved ha q1, va_OF.moved ha q2, va_OF.moved ha q3, va_T.moved ha q4⟩
def mPc (V : mEv) (φ : Nat → Nat) (h : mH) (as : List Value) : Array Value → State → Prop := va_Pc (as.map (vm_ φ)) (fun U => mHp V φ h U.heap ∧ mEnv V U ∧ mrf h.1.1 as)
theorem mPc_blind {V : mEv} {φ : Nat → Nat} {h : mH} {as : List Value} : FrameBlind (mPc V φ h as) := fun a U g mk q => ⟨q.1, q.2.1, mEnv_same (u := U) (U := U.calling g mk a) rfl rfl q.2.2.1, q.2.2.2⟩
section CALL2
variable {p : Program} {l : Launch} {e : Env} {R : Room} {s : State} {m : MethodId} {args : Array Value} {below : List Frame} {meth : Method} {c : Code}
variable {cc : ByteArray} {pc : Nat} {V : mEv} {h : mH} {Ts : List Cond} {own : String} {nL : Nat} {ini : Bool} {φ0 : Nat → Nat} {h0 : mH} {o : mO} {ls st rest : List Value} {Q : State → Prop}
theorem go_call {o' : mO} {a : Array Value → Array Value} (hz : h.1.1 ≤ o'.2.1.1) (hy : h.1.2.1 ≤ o'.2.1.2.1) (hrest : mrf h.1.1 st → mrf h.1.1 rest)
    (hrun : ∀ φ als H locs, mCf V s.heap nL φ0 h0 φ h ls als H locs → mrf h.1.1 st → h0.1.1 ≤ h.1.1 → h0.1.2.1 ≤ h.1.2.1 → ∃ aa : Array Value, vx_Run p l e R s m args below meth c H locs (h.1.1 - h0.1.1) (h.1.2.1 - h0.1.2.1) (mmc h o') (mms h o') (F0 m pc als (st.map (vm_ φ))) (rest.map (vm_ φ)) (mQc V φ h o' aa) (mXC V φ h o') (eA V))
    (hret : ∀ ov, o'.1 = .inl ov → mGo V s.heap nL φ0 h0 (mWp p l e R s m args below meth c Q) o (pc + 3) ls (ov.toList ++ rest) o'.2)
    (hthr : ∀ E, o'.1 = .inr E → (o'.2.1.1 ≤ o.2.1.1 ∧ o'.2.1.2.1 ≤ o.2.1.2.1) ∧ ∀ (φ' : Nat → Nat) (als : Array Slot) (H : Heap) (locs : List Loc) (q : Nat) (ce : Cell), mCf V s.heap nL φ0 h0 φ' o'.2 ls als H locs → H[q]? = some ce → ce.vm = .none → s.vm.findClass E = some ce.cls → vx_W p l e R s m args below meth c H locs (o'.2.1.1 - h0.1.1 + 1) (o'.2.1.2.1 - h0.1.2.1 + 6) Q (F0 m pc als (rest.map (vm_ φ'))) q) : mGo V s.heap nL φ0 h0 (mWp p l e R s m args below meth c Q) o pc ls st h := by
  have hmono : o'.2.1.1 ≤ o.2.1.1 ∧ o'.2.1.2.1 ≤ o.2.1.2.1 := by
    cases ho : o'.1 with
    | inl ov => exact (hret ov ho).1
    | inr E => exact (hthr E ho).1
  refine ⟨⟨by omega, by omega⟩, fun φ als H locs hc hs => ?_⟩
  obtain ⟨aa, hr⟩ := hrun φ als H locs hc hs hc.2.2.2.2.1 hc.2.2.2.2.2
  have hcz := hc.2.2.2.2.1
  have hcy := hc.2.2.2.2.2
  intro T hT X
  rcases hr T hT X with ⟨v, st₀, t, T', L, e0, X', hL, e1, e2, hq, st9⟩ | ⟨q, st₀, t, T', L, E, ce, e0, X', hL, e1, e2, hq, hce, hcv, hcl, st9⟩
  · obtain ⟨φ', hφ, ⟨ov, ho, hv, hov⟩, hP', hF⟩ := hq
    obtain ⟨k1, k2, k3⟩ := vx_keep (A1 := eA V) (free := eA V) e0 e1 hc.2.1 (fun _ _ q => q) (fun _ q => q) hL hF
    have hvv : v = ov.map (vm_ φ') := by injection hv
    have hm0 : mex o' = 0 := by unfold mex; rw [ho]
    have hC' : mCf V s.heap nL φ0 h0 φ' o'.2 ls als T'.heap (locs ++ L) := ⟨by rw [e1]; exact hP', k3, mLr_ext hc.2.2.1 hz hφ, fun a ha => by rw [hφ a (by omega)]; exact hc.2.2.2.1 a ha, by omega, by omega⟩
    have hrf : mrf o'.2.1.1 (ov.toList ++ rest) := by
      intro a ha
      rcases List.mem_append.mp ha with h9 | h9
      · cases ov with
        | none => cases h9
        | some w => simp at h9; exact hov a (by rw [← h9])
      · exact Nat.lt_of_lt_of_le (hrest hs a h9) hz
    have k := (hret ov ho).2 φ' als T'.heap (locs ++ L) hC' hrf
    have es : (ov.toList ++ rest).map (vm_ φ') = v.toList ++ rest.map (vm_ φ) := by
      rw [List.map_append, map_ext (hrest hs) hφ, hvv]
      cases ov <;> rfl
    have ec : o'.2.1.1 - h0.1.1 = h.1.1 - h0.1.1 + mmc h o' := by unfold mmc; rw [hm0]; omega
    have ey : o'.2.1.2.1 - h0.1.2.1 = h.1.2.1 - h0.1.2.1 + mms h o' := by unfold mms; rw [hm0]; omega
    rw [es, ec, ey] at k
    obtain ⟨t2, a1, b1⟩ := k T' rfl X'
    exact ⟨t2, st9 t2 a1, b1⟩
  · obtain ⟨ho, φ', hφ, hP', hF⟩ := hq
    obtain ⟨k1, k2, k3⟩ := vx_keep (A1 := eA V) (free := eA V) e0 e1 hc.2.1 (fun _ _ q => q) (fun _ q => q) hL hF
    have hm1 : mex o' = 1 := by unfold mex; rw [ho]
    have hC' : mCf V s.heap nL φ0 h0 φ' o'.2 ls als T'.heap (locs ++ L) := ⟨by rw [e1]; exact hP', k3, mLr_ext hc.2.2.1 hz hφ, fun a ha => by rw [hφ a (by omega)]; exact hc.2.2.2.1 a ha, by omega, by omega⟩
    have k := (hthr E ho).2 φ' als T'.heap (locs ++ L) q ce hC' (by rw [e1]; exact hce) hcv hcl
    rw [map_ext (hrest hs) hφ] at k
    have ec : o'.2.1.1 - h0.1.1 + 1 = h.1.1 - h0.1.1 + mmc h o' := by unfold mmc; rw [hm1]; omega
    have ey : o'.2.1.2.1 - h0.1.2.1 + 6 = h.1.2.1 - h0.1.2.1 + mms h o' := by unfold mms; rw [hm1]; omega
    rw [ec, ey] at k
    obtain ⟨t2, a1, b1⟩ := k T' rfl X'
    exact ⟨t2, st9.trans a1, b1⟩
/-- no handler here: the exception goes on -/
theorem thr_out {E : String} {h' : mH} (hout : ∀ x ∈ c.exceptionTable.toList, False) (hlocks : meth.locks = false) :
    ∀ (φ' : Nat → Nat) (als : Array Slot) (H : Heap) (locs : List Loc) (q : Nat) (ce : Cell), mCf V s.heap nL φ0 h0 φ' h' ls als H locs → H[q]? = some ce → ce.vm = .none → s.vm.findClass E = some ce.cls → vx_W p l e R s m args below meth c H locs (h'.1.1 - h0.1.1 + 1) (h'.1.2.1 - h0.1.2.1 + 6) (vx_MQ below (mQc V φ0 h0 (.inr E, h')) (mXC V φ0 h0 (.inr E, h')) args s (mmc h0 (.inr E, h')) (mms h0 (.inr E, h')) (eA V)) (F0 m pc als (rest.map (vm_ φ'))) q := by
  intro φ' als H locs q ce hc hq hv hcl
  exact vx_out (fun x hx => (hout x hx).elim) hlocks hq hv hcl (fun t ht hvm => ⟨rfl, φ', hc.2.2.2.1, by rw [ht]; exact hc.1, hc.2.1.F ht⟩) hc.2.1.2.2 (Nat.le_refl _) (Nat.le_refl _)
end CALL2
