/-! the law's run, out of the abstract one (2) -/
theorem law_run {L : Nat} {xs : Nat → Int32} (hL : L ≤ 3072) : ∃ o : mO, f_L_law 30 0 [.ref 0, mU, mU, mU, mU, mU, mU] [] (h00 L xs) = some o ∧ o.1 = .inl (some (.int 1)) ∧ mmc (h00 L xs) o ≤ 1000 ∧ mms (h00 L xs) o ≤ 100000 := by
  obtain ⟨G', I', L', z', x1, x2, x3⟩ := law_all 0 (G := (h00 L xs).1) (I := (h00 L xs).2.1) (L := (h00 L xs).2.2) (N := L) rfl (Nat.zero_le _) (by show va_up (fun _ => 0) 0 31 0 = 31; rw [up_eq]) (by show va_up (fun _ => 0) 0 L 0 = L; rw [up_eq]) (by omega)
  obtain ⟨h, hs, bl, bs, cl, cs, nr, n, nh, M, hN', w, lc, mc, kc, ta, rm, pi, mk, q, g1, g2⟩ := x2
  have hk : kc ≤ 4 := by
    obtain ⟨-, -, -, -, -, -, -, -, -, -, -, -, -, -, -, -, -, -, hk, -⟩ := q.1
    exact hk
  refine ⟨_, x1, rfl, ?_, ?_⟩
  · show G'.1 - 100 + 0 ≤ 1000
    omega
  · show G'.2.1 - 0 + 6 * 0 ≤ 100000
    omega
section
variable {p : Program} {e : Env} {s : State} {m : MethodId} {below : List Frame} {meth : Method} {c : Code}
theorem ws_core (l : Launch) {b L : Nat} {xs : Nat → Int32} (V : mEv) (hst : l.stackTraces = false) (hx : p.tables.exec = Jvm.exec) (hb : c.code = code) (hr : meth.sig.returnType = ret) (hml : c.maxLocals = 7) (hown : s.vm.findClass "BoilerTapsLaw" = some m.cls) (hts : ∀ w ∈ lw_tbl, w.before #[Value.ref b] s = true) (hlk : meth.locks = false) (hE : mEnv V s) (h1 : eS V = b) (h2 : eL V = L) (h3 : eX V = xs) {o : mO} (ho : f_L_law 30 0 [.ref 0, mU, mU, mU, mU, mU, mU] [] (h00 L xs) = some o) (hi : ∃ v, o.1 = .inl v) : W p l e (mRm 31 (h00 L xs) o) s m #[Value.ref b] below meth c s.heap [] 0 0 (mQm below V (p00 b V) (h00 L xs) o #[Value.ref b] s) (entryFrame m ([Value.ref b] : List Value).toArray 7) := by
  have hG : mGood l V mT 30 := mGood_all hst mT_ok mT_dec 30
  have hT : ∀ (j : Nat) (q : mMi), mT[j]? = some q → mokm q = true := fun j q hq => by
    have := mT_ok j q hq
    unfold mokM at this
    rw [Bool.and_eq_true] at this
    exact this.1
  have q0 : mT[0]? = some q_X0_init := rfl
  have hw : mCw q_X0_init ∈ mBT := by
    have := hT 0 q_X0_init q0
    simp only [mokm, Bool.and_eq_true, decide_eq_true_eq] at this
    exact mwd_mem this.2.2.1
  have hB : ∀ w ∈ mBT, w.before #[Value.ref b] s = true := fun w hw => hts w (List.mem_filter.mp hw).1
  have C : mCx p l (mRm (30 + 1) (h00 L xs) o) s m #[Value.ref b] meth c V "BoilerTapsLaw" code 7 (mWs q_X0_init) false := by
    refine ⟨hx, hb, hml, hown, fun w hw' => ?_, mCls_sub mCls_ok (fun w hw => List.mem_cons_of_mem _ hw), hlk, fun hi => absurd hi (by decide), hE, hst, (show 8 ≤ 8 + (30 + 1) by omega), (show 150 ≤ 150 + 60 * (30 + 1) by omega), fun w hw => List.mem_cons_of_mem _ hw⟩
    rcases List.mem_cons.mp hw' with rfl | h
    · exact hB _ hw
    · exact hB _ h
  obtain ⟨N, hN⟩ := mfx_some.mp ho
  have hrun := hN N (Nat.le_refl _)
  have g := snd_run (below := below) (e := e) (φ0 := p00 b V) (tab := true) (hd := []) hG hT C hr (fun q => by cases q) okl_law dcl_law (fun n ih pc ls E h' _ hE' => by
    obtain ⟨v, hv⟩ := hi
    have : (some (Sum.inr E, h') : Option mO) = some o := hE'
    have e1 := congrArg (fun q => q.1) (Option.some.inj this)
    rw [hv] at e1
    cases e1) N 0 _ _ _ hrun
  rw [lg_entry_eq]
  have k := g.2 (p00 b V) _ s.heap [] ⟨mHp_00 h1 h2 h3, va_S.rf, mpad_rel (as := [.ref 0]) (nL := 7) (by decide) (mrf_r (show 0 < 100 by decide) mrf_nil), fun _ _ => rfl, Nat.le_refl _, Nat.le_refl _⟩ mrf_nil
  rw [Nat.sub_self, Nat.sub_self] at k
  exact k
end
