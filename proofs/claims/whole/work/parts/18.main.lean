/-! rows, blocks, methods: the interpreter is sound -/
theorem mtx_len : (mtxs.all fun t => decide (Int32.ofNat t.length >>> ((0 : Int32) &&& 31) = Int32.ofNat t.length) && decide (t.length < 2 ^ 31)) = true := by decide +kernel
theorem mtx_l {j : Nat} {t : List Int32} (h : mtxs[j]? = some t) : j < 28 ∧ mtxs.getD j [] = t ∧ Int32.ofNat t.length >>> ((0 : Int32) &&& 31) = Int32.ofNat t.length ∧ t.length < 2 ^ 31 := by
  have h1 := List.all_eq_true.mp mtx_len t (List.mem_of_getElem? h)
  simp only [Bool.and_eq_true, decide_eq_true_eq] at h1
  refine ⟨(List.getElem?_eq_some_iff.mp h).1, ?_, h1.1, h1.2⟩
  rw [List.getD_eq_getElem?_getD, h]
  rfl
theorem mnf : nativeFrameWords "java/lang/System" "arraycopy" 5 + 11 ≤ 100 := by decide +kernel
theorem go_stb {V : mEv} {H0 : Heap} {nL : Nat} {φ0 : Nat → Nat} {h0 : mH} {Wp : mQ_} {o : mO} {pc pc' : Nat} {ls st st' : List Value} {h : mH} (g : mGo V H0 nL φ0 h0 Wp o pc' ls st' h) (hr : mrf h.1.1 st → mrf h.1.1 st')
    (hW : ∀ φ als H locs k n, mCf V H0 nL φ0 h0 φ h ls als H locs → k ≤ o.2.1.1 - h0.1.1 → n ≤ o.2.1.2.1 - h0.1.2.1 → Wp pc' als (st'.map (vm_ φ)) H locs k n → Wp pc als (st.map (vm_ φ)) H locs k n) : mGo V H0 nL φ0 h0 Wp o pc ls st h :=
  ⟨g.1, fun φ als H locs hc hs => hW φ als H locs _ _ hc (Nat.sub_le_sub_right g.1.1 _) (Nat.sub_le_sub_right g.1.2 _) (g.2 φ als H locs hc (hr hs))⟩
theorem mrecvS {V : mEv} {s : State} {H : Heap} {locs : List Loc} (hE : mEnv V s) (hS : va_S (eA V) s.heap H locs) {j : Nat} (hj : j < 28) : ∃ cell : Cell, H[eK V j]? = some cell ∧ cell.vm.isStatics = false ∧ s.vm.findClass RJ0 = some cell.cls := by
  obtain ⟨cell, q1, q2, q3, -⟩ := (hE.2.2.2.2.2.2.2.2.1 j hj).1.kept hS.2.1
  exact ⟨cell, q1, q2, q3⟩
theorem lt_of_clamp {a : Int32} {n : Nat} (hn : n < 2 ^ 31) (h0 : ¬ a < 0) (h1 : a.toNatClampNeg < n) : a < Int32.ofNat n := by
  obtain ⟨j, hj, rfl⟩ := nI_of h0
  rw [nI_clamp hj] at h1
  exact nI_lt h1 hn
section INTR
variable {p : Program} {l : Launch} {e : Env} {R : Room} {s : State} {m : MethodId} {args : Array Value} {below : List Frame} {meth : Method} {c : Code} {Q : State → Prop}
variable {cc : ByteArray} {pc : Nat} {V : mEv} {h : mH} {Ts : List Cond} {own : String} {nL : Nat} {ini : Bool} {φ0 : Nat → Nat} {h0 : mH} {o : mO} {ls st : List Value} {T : List mMi} {cw0 : Cond}
set_option maxHeartbeats 4000000 in
theorem snd_intr (C : mCx p l R s m args meth c V own cc nL (cw0 :: mBT) ini) (hRc : o.2.1.1 - h0.1.1 ≤ R.cells) (hRs : o.2.1.2.1 - h0.1.2.1 ≤ R.slots) {i : mI_} {x y w : Nat} (hdg : decode cc pc = .ok (i, 3)) (hok : mokc T own i x y w = true) (hx9 : x = 900 ∨ x = 901 ∨ x = 902 ∨ x = 903 ∨ x = 904 ∨ x = 905 ∨ x = 906 ∨ x = 907) {cal : mC} {exc : String → mH → Option mO} {nx : List Value → List Value → mH → Option mO}
    (hN : ∀ ls st h, nx ls st h = some o → mGo V s.heap nL φ0 h0 (mWp p l e R s m args below meth c Q) o (pc + 3) ls st h)
    (hm : minv cal exc (fun st h => nx ls st h) x y st h = some o) : mGo V s.heap nL φ0 h0 (mWp p l e R s m args below meth c Q) o pc ls st h := by
  obtain ⟨hx, hb, hml, hown, hts, hcl, hlocks, hini, hE, hst, hfr, hlo, hBT⟩ := C
  have hword : ∀ {w : Nat} {q : Cond}, mwd w q = true → q.before args s = true := fun h => hts _ (hBT _ (mwd_mem h))
  rcases hx9 with rfl | rfl | rfl | rfl | rfl | rfl | rfl | rfl
  · obtain ⟨a, st', rfl, hm1⟩ := m1r_inv hm
    obtain ⟨hcat, hm2⟩ := ite_none hm1
    obtain ⟨j, t, rfl, ht, hm3⟩ := mtext_inv hm2
    obtain ⟨hj, hgd, hsh, -⟩ := mtx_l ht
    cases i <;> try (cases hok; done)
    case invokevirtual k =>
      refine go_stb (hN _ _ _ hm3) (fun hs => mrf_i (mrf_tl hs)) (fun φ als H locs n1 n2 hc b1 b2 kk => ?_)
      have hS := hc.2.1
      have e9 : φ (j + 1) = eK V j := hc.1.2.2.2.1.2 j hj
      have hsm : ((st'.map (vm_ φ)).map fun v => v.category).sum ≤ 8 := by rw [mcat_map]; exact Nat.not_lt.mp hcat
      show W p l e R s m args below meth c H locs n1 n2 Q (F0 m pc als (.ref (φ (j + 1)) :: st'.map (vm_ φ)))
      rw [e9]
      have hcs := cs_length l V hj
      rw [hgd, hsh] at hcs
      exact W.callR (W.runV (C := RJ0) (As := []) ⟨hx, hb, hml, hown, hts⟩ hcs ⟨callB_of 0 hts (goodIn_b (mwd_mem (w := 4050) (by decide +kernel))) rfl rfl rfl (hword (w := 1019) (by decide +kernel)) (hword hok) (by decide +kernel) ⟨(show 1 + 1 ≤ R.frames by omega), (show 8 + (1 + 11) + 30 ≤ R.locals by omega)⟩, hword (w := 4048) (by decide +kernel), hword (w := 4049) (by decide +kernel)⟩ ⟨mPs_blind, mrecvS hE hS hj, fun U hU hW => ⟨rfl, mEnv_next hE hS hU hW⟩⟩ rfl rfl hc.2.2.1.1 rfl (lv_room hsm) hdg ⟨by omega, by omega⟩) kk
  · obtain ⟨a, iv, st', rfl, hm1⟩ := mri_inv hm
    obtain ⟨hcat, hm2⟩ := ite_none hm1
    obtain ⟨j, t, rfl, ht, hm3⟩ := mtext_inv hm2
    obtain ⟨hin, hm4⟩ := ite_none hm3
    obtain ⟨hj, hgd, -, hlt⟩ := mtx_l ht
    have h0' : ¬ iv < 0 := fun q => hin (Or.inl q)
    have h1' : iv.toNatClampNeg < t.length := Nat.not_le.mp fun q => hin (Or.inr q)
    cases i <;> try (cases hok; done)
    case invokevirtual k =>
      refine go_stb (hN _ _ _ hm4) (fun hs => mrf_i (mrf_tl (mrf_tl hs))) (fun φ als H locs n1 n2 hc b1 b2 kk => ?_)
      have hS := hc.2.1
      have e9 : φ (j + 1) = eK V j := hc.1.2.2.2.1.2 j hj
      have hsm : ((st'.map (vm_ φ)).map fun v => v.category).sum ≤ 8 := by rw [mcat_map]; exact Nat.not_lt.mp hcat
      show W p l e R s m args below meth c H locs n1 n2 Q (F0 m pc als (.int iv :: .ref (φ (j + 1)) :: st'.map (vm_ φ)))
      rw [e9]
      have hcs := cs_charAt l V hj h0' (by rw [hgd]; exact h1') (by rw [hgd]; exact lt_of_clamp hlt h0' h1')
      rw [hgd] at hcs
      exact W.callR (W.runV (C := RJ0) (As := [.int iv]) ⟨hx, hb, hml, hown, hts⟩ hcs ⟨callB_of 1 hts (goodIn_b (mwd_mem (w := 4060) (by decide +kernel))) rfl rfl rfl (hword (w := 1019) (by decide +kernel)) (hword hok) (by decide +kernel) ⟨(show 3 + 1 ≤ R.frames by omega), (show 8 + (2 + 11) + 90 ≤ R.locals by omega)⟩, hword (w := 4058) (by decide +kernel), hword (w := 4059) (by decide +kernel)⟩ ⟨mPs_blind, mrecvS hE hS hj, fun U hU hW => ⟨rfl, mEnv_next hE hS hU hW⟩⟩ rfl rfl hc.2.2.1.1 rfl (lv_room hsm) hdg ⟨by omega, by omega⟩) kk
  · obtain ⟨a, sp, b, dp, n, st', rfl, hm1⟩ := mcpy_inv hm
    obtain ⟨hcat, hm2⟩ := ite_none hm1
    obtain ⟨⟨k1, k2, k3, k4, k5, k6, k7⟩, hm3⟩ := marc_inv hm2
    cases i <;> try (cases hok; done)
    case invokestatic k =>
      refine go_hp (hN _ _ _ hm3) rfl rfl (fun hs => mrf_tl (mrf_tl (mrf_tl (mrf_tl (mrf_tl hs))))) (fun φ als H locs n1 n2 hc hs kk => ?_)
      have hsm : ((st'.map (vm_ φ)).map fun v => v.category).sum ≤ 8 := by rw [mcat_map]; exact Nat.not_lt.mp hcat
      exact w_cpyI hx hb (hml.trans hc.2.2.1.1.symm) hown (hword hok) (hword (w := 3115) (by decide +kernel)) (hword (w := 3114) (by decide +kernel)) (hword (w := 1023) (by decide +kernel)) hE.1 hc.1 hc.2.1 k1 k2 k3 k4 k5 k6 k7 (by omega) (by have := mnf; omega) hdg kk
  · obtain ⟨a, st', rfl, hm1⟩ := m1r_inv hm
    obtain ⟨hcat, hm2⟩ := ite_none hm1
    cases i <;> try (cases hok; done)
    case invokespecial k =>
      refine go_st (hN _ _ _ hm2) (fun _ _ _ _ _ hs => mrf_tl hs) (fun φ als H locs n1 n2 hc kk => ?_)
      have hsm : ((st'.map (vm_ φ)).map fun v => v.category).sum ≤ 8 := by rw [mcat_map]; exact Nat.not_lt.mp hcat
      have hrm := lv_room (m := m) (pc := pc) (ls := als) (rest := .ref (φ a) :: st'.map (vm_ φ)) hsm
      exact W.objInit hx hb hown (hword hok) (hword (w := 1036) (by decide +kernel)) (hword (w := 1037) (by decide +kernel)) rfl (hc.2.2.1.1.trans hml.symm) rfl hdg (by omega) (Nat.le_trans (Nat.add_le_add_right hrm 12) (by omega)) kk
  · obtain ⟨a, sp, b, dp, n, st', rfl, hm1⟩ := mcpy_inv hm
    obtain ⟨hcat, hm2⟩ := ite_none hm1
    obtain ⟨⟨k1, k2, k3, k4, k5, k6, k7⟩, hm3⟩ := marc_inv hm2
    cases i <;> try (cases hok; done)
    case invokestatic k =>
      refine go_hp (hN _ _ _ hm3) rfl rfl (fun hs => mrf_tl (mrf_tl (mrf_tl (mrf_tl (mrf_tl hs))))) (fun φ als H locs n1 n2 hc hs kk => ?_)
      have hsm : ((st'.map (vm_ φ)).map fun v => v.category).sum ≤ 8 := by rw [mcat_map]; exact Nat.not_lt.mp hcat
      exact w_cpyJ hx hb (hml.trans hc.2.2.1.1.symm) hown (hword hok) (hword (w := 3115) (by decide +kernel)) (hword (w := 3114) (by decide +kernel)) (hword (w := 1023) (by decide +kernel)) hE.1 hc.1 hc.2.1 k1 k2 k3 k4 k5 k6 k7 (by omega) (by have := mnf; omega) hdg kk
  · obtain ⟨a, b, st', rfl, hm1⟩ := m2i_inv hm
    obtain ⟨hcat, hm2⟩ := ite_none hm1
    cases i <;> try (cases hok; done)
    case invokestatic k =>
      refine go_stb (hN _ _ _ hm2) (fun hs => mrf_i (mrf_tl (mrf_tl hs))) (fun φ als H locs n1 n2 hc b1 b2 kk => ?_)
      have hsm : ((st'.map (vm_ φ)).map fun v => v.category).sum ≤ 8 := by rw [mcat_map]; exact Nat.not_lt.mp hcat
      exact va_mmax hx hb (hml.trans hc.2.2.1.1.symm) hown (hword hok) (hword (w := 4019) (by decide +kernel)) (hword (w := 1018) (by decide +kernel)) (hword (w := 4020) (by decide +kernel)) (by omega) (by omega) (by omega) (by omega) hdg kk
  · obtain ⟨a, b, st', rfl, hm1⟩ := m2i_inv hm
    obtain ⟨hcat, hm2⟩ := ite_none hm1
    cases i <;> try (cases hok; done)
    case invokestatic k =>
      refine go_stb (hN _ _ _ hm2) (fun hs => mrf_i (mrf_tl (mrf_tl hs))) (fun φ als H locs n1 n2 hc b1 b2 kk => ?_)
      have hsm : ((st'.map (vm_ φ)).map fun v => v.category).sum ≤ 8 := by rw [mcat_map]; exact Nat.not_lt.mp hcat
      exact va_mmin hx hb (hml.trans hc.2.2.1.1.symm) hown (hword hok) (hword (w := 4016) (by decide +kernel)) (hword (w := 1018) (by decide +kernel)) (hword (w := 4017) (by decide +kernel)) (by omega) (by omega) (by omega) (by omega) hdg kk
  · obtain ⟨a, st', rfl, hm1⟩ := m1i_inv hm
    obtain ⟨hcat, hm2⟩ := ite_none hm1
    cases i <;> try (cases hok; done)
    case invokestatic k =>
      refine go_stb (hN _ _ _ hm2) (fun hs => mrf_i (mrf_tl hs)) (fun φ als H locs n1 n2 hc b1 b2 kk => ?_)
      have hsm : ((st'.map (vm_ φ)).map fun v => v.category).sum ≤ 8 := by rw [mcat_map]; exact Nat.not_lt.mp hcat
      exact va_mabs hx hb (hml.trans hc.2.2.1.1.symm) hown (hword hok) (hword (w := 6076) (by decide +kernel)) (hword (w := 1018) (by decide +kernel)) (hword (w := 6077) (by decide +kernel)) (by omega) (by omega) (by omega) (by omega) hdg kk
end INTR
