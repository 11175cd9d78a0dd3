theorem lv_val {φ : Nat → Nat} {z nL : Nat} {ls : List Value} {als : Array Slot} (h : mLr φ z ls nL als) {k : Nat} {v : Value} (hk : ls[k]? = some v) (hv : v ≠ mU) : als[k]? = some (Slot.val (vm_ φ v)) := h.2.2.1 k v hk hv
section PLAIN
variable {p : Program} {l : Launch} {e : Env} {R : Room} {s : State} {m : MethodId} {args : Array Value} {below : List Frame} {meth : Method} {c : Code} {Q : State → Prop}
variable {cc : ByteArray} {pc : Nat} {V : mEv} {h : mH} {Ts : List Cond} {own : String} {nL : Nat} {ini : Bool} {φ0 : Nat → Nat} {h0 : mH} {o : mO} {ls st : List Value}
theorem w_ldcS (hx : p.tables.exec = Jvm.exec) (hb : c.code = cc) {tx : String} {index q : Nat} {H : Heap} {locs : List Loc} {cells slots : Nat} {ls : Array Slot} {rest : List Value} (hown : s.vm.findClass own = some m.cls) (hZ : vk_R own index tx q s) (hdg : decode cc pc = .ok (.ldc_w index, 3))
    (k : W p l e R s m args below meth c H locs cells slots Q (F0 m (pc + 3) ls (.ref q :: rest))) : W p l e R s m args below meth c H locs cells slots Q (F0 m pc ls rest) := by
  intro T hT X
  obtain ⟨t, a1, b1⟩ := k T hT X
  exact ⟨t, Stand.ldcStringW X hx hown (text := tx) (a := q) hZ.1 hZ.2 (g := F0 m pc ls rest) rfl (by rw [hb]; exact hdg) t a1, b1⟩
/-- a reference out of a field -/
theorem mfv_ref {φ : Nat → Nat} {a k b : Nat} (hR : gR h.1 a k = some b) : mfv φ h a 2 k = .ref (φ b) := by
  unfold mfv
  rw [hR]
  rfl
set_option maxHeartbeats 4000000 in
theorem snd_plain (C : mCx p l R s m args meth c V own cc nL Ts ini) (hNw : ∀ (ci : Nat), ci < 13 → ∀ (C : String) (T : u_T) (N : Nat), vwCl[ci]? = some (C, T, N) → Cond.instantiable C N ∈ Ts ∧ Cond.initialized C ∈ Ts) (hAr : (Cond.arrayClass .int).before args s = true ∧ (Cond.arrayClass .long).before args s = true) (hRc : o.2.1.1 - h0.1.1 ≤ R.cells) (hRs : o.2.1.2.1 - h0.1.2.1 ≤ R.slots) {i : mI_} {x y w : Nat} {vi : Int32} {vl : Int64} {len : Nat} (hdg : decode cc pc = .ok (i, len)) (hlen : len = mlen i ∨ ∃ d lo hi os, i = .tableswitch d lo hi os) (hok : mokx own nL ini pc i x y w vi vl = true) {cal : mC} {hd : mHd} {cm : mCm} {K : mS} {nx : List Value → List Value → mH → Option mO}
    (hK : ∀ c' ls st h, K c' ls st h = some o → mGo V s.heap nL φ0 h0 (mWp p l e R s m args below meth c Q) o c' ls st h) (hN : ∀ ls st h, nx ls st h = some o → mGo V s.heap nL φ0 h0 (mWp p l e R s m args below meth c Q) o (pc + mlen i) ls st h)
    (hm : mstep cal hd cm K nx pc i x y vi vl ls st h = some o) : mGo V s.heap nL φ0 h0 (mWp p l e R s m args below meth c Q) o pc ls st h := by
  obtain ⟨hx, hb, hml, hown, hts, hcl, hlocks, hini, hE, hst, hfr, hlo, hBT⟩ := C
  obtain ⟨eKK, eBs, eXX, eSB, -, -, eAO, -, -, eSr, -, -⟩ := id hE
  have hA0 : ∀ q, s.heap.size ≤ q → eA V q := fun q hq => Nat.le_trans eBs hq
  have hbl : eS V < s.heap.size := Nat.lt_of_lt_of_le eSB eBs
  have hbA : ¬ eA V (eS V) := Nat.not_le.mpr eSB
  have hword : ∀ {w : Nat} {q : Cond}, mwd w q = true → q.before args s = true := fun h => hts _ (hBT _ (mwd_mem h))
  have jK : ∀ c' ls st h, K c' (mnorm (mlook cm c') ls) st h = some o → mGo V s.heap nL φ0 h0 (mWp p l e R s m args below meth c Q) o c' ls st h := fun c' ls st h q => go_norm _ (hK _ _ _ _ q)
  cases i
  case iconst n =>
    cases hlen.resolve_right (fun ⟨_, _, _, _, h⟩ => by cases h)
    dsimp only [mstep] at hm
    exact go_st (hN _ _ _ hm) (fun _ _ _ _ _ hs => mrf_i hs) (fun φ als H locs k n hc kk => lv_iconst hx hb hdg (of_decide_eq_true hok) kk)
  case bipush n =>
    cases hlen.resolve_right (fun ⟨_, _, _, _, h⟩ => by cases h)
    dsimp only [mstep] at hm
    exact go_st (hN _ _ _ hm) (fun _ _ _ _ _ hs => mrf_i hs) (fun φ als H locs k n hc kk => lv_bipush hx hb hdg (of_decide_eq_true hok) kk)
  case sipush n =>
    cases hlen.resolve_right (fun ⟨_, _, _, _, h⟩ => by cases h)
    dsimp only [mstep] at hm
    exact go_st (hN _ _ _ hm) (fun _ _ _ _ _ hs => mrf_i hs) (fun φ als H locs k n hc kk => lv_sipush hx hb hdg (of_decide_eq_true hok) kk)
  case ldc k =>
    cases hlen.resolve_right (fun ⟨_, _, _, _, h⟩ => by cases h)
    dsimp only [mstep] at hm
    cases y with
    | zero => exact go_st (hN _ _ _ hm) (fun _ _ _ _ _ hs => mrf_i hs) (fun φ als H locs k n hc kk => lv_ldc hx hb hown (hword hok) hdg kk)
    | succ y =>
      cases x with
      | zero => cases hok
      | succ j =>
        simp only [mokx, Bool.and_eq_true, decide_eq_true_eq] at hok
        obtain ⟨q, hq, he⟩ := Option.map_eq_some_iff.mp hok.1
        have hz := eSr j q hq
        cases he
        refine go_st (hN _ _ _ hm) (fun φ als H locs hc hs => mrf_r ?_ hs) (fun φ als H locs k n hc kk => va_ldcS hx hb hown hz hdg ?_)
        · have := hc.1.2.2.2.2.1
          omega
        · have e9 := hc.1.2.2.2.1.2 j hok.2
          have k9 : W p l e R s m args below meth c H locs k n Q (F0 m (pc + 2) als (.ref (φ (j + 1)) :: st.map (vm_ φ))) := kk
          rw [e9] at k9
          exact k9
  case ldc_w k =>
    cases hlen.resolve_right (fun ⟨_, _, _, _, h⟩ => by cases h)
    dsimp only [mstep] at hm
    cases y with
    | zero => exact go_st (hN _ _ _ hm) (fun _ _ _ _ _ hs => mrf_i hs) (fun φ als H locs k n hc kk => lv_ldcw hx hb hown (hword hok) hdg kk)
    | succ y =>
      cases x with
      | zero => cases hok
      | succ j =>
        simp only [mokx, Bool.and_eq_true, decide_eq_true_eq] at hok
        obtain ⟨q, hq, he⟩ := Option.map_eq_some_iff.mp hok.1
        have hz := eSr j q hq
        cases he
        refine go_st (hN _ _ _ hm) (fun φ als H locs hc hs => mrf_r ?_ hs) (fun φ als H locs k n hc kk => w_ldcS hx hb hown hz hdg ?_)
        · have := hc.1.2.2.2.2.1
          omega
        · have e9 := hc.1.2.2.2.1.2 j hok.2
          have k9 : W p l e R s m args below meth c H locs k n Q (F0 m (pc + 3) als (.ref (φ (j + 1)) :: st.map (vm_ φ))) := kk
          rw [e9] at k9
          exact k9
  case ldc2_w k =>
    cases hlen.resolve_right (fun ⟨_, _, _, _, h⟩ => by cases h)
    dsimp only [mstep] at hm
    exact go_st (hN _ _ _ hm) (fun _ _ _ _ _ hs => mrf_l hs) (fun φ als H locs k n hc kk => lv_ldc2 hx hb hown (hword hok) hdg kk)
  case lconst k =>
    cases hlen.resolve_right (fun ⟨_, _, _, _, h⟩ => by cases h)
    dsimp only [mstep] at hm
    exact go_st (hN _ _ _ hm) (fun _ _ _ _ _ hs => mrf_l hs) (fun φ als H locs k n hc kk => lv_lconst hx hb hdg (of_decide_eq_true hok) kk)
  case iload k =>
    cases hlen.resolve_right (fun ⟨_, _, _, _, h⟩ => by cases h)
    dsimp only [mstep] at hm
    have hkx : k = x := of_decide_eq_true hok
    subst hkx
    obtain ⟨v, hv, hm1⟩ := lI_inv hm
    exact go_st (hN _ _ _ hm1) (fun _ _ _ _ _ hs => mrf_i hs) (fun φ als H locs k n hc kk => lv_iload hx hb hdg (lv_val hc.2.2.1 hv (fun q => by cases q)) kk)
  case iload_n k =>
    cases hlen.resolve_right (fun ⟨_, _, _, _, h⟩ => by cases h)
    dsimp only [mstep] at hm
    obtain ⟨v, hv, hm1⟩ := lI_inv hm
    exact go_st (hN _ _ _ hm1) (fun _ _ _ _ _ hs => mrf_i hs) (fun φ als H locs k n hc kk => lv_iload_n hx hb hdg (of_decide_eq_true hok) (lv_val hc.2.2.1 hv (fun q => by cases q)) kk)
  case lload k =>
    cases hlen.resolve_right (fun ⟨_, _, _, _, h⟩ => by cases h)
    dsimp only [mstep] at hm
    have hkx : k = x := of_decide_eq_true hok
    subst hkx
    obtain ⟨v, hv, hm1⟩ := lL_inv hm
    exact go_st (hN _ _ _ hm1) (fun _ _ _ _ _ hs => mrf_l hs) (fun φ als H locs k n hc kk => lv_lload hx hb hdg (lv_val hc.2.2.1 hv (fun q => by cases q)) kk)
  case lload_n k =>
    cases hlen.resolve_right (fun ⟨_, _, _, _, h⟩ => by cases h)
    dsimp only [mstep] at hm
    obtain ⟨v, hv, hm1⟩ := lL_inv hm
    exact go_st (hN _ _ _ hm1) (fun _ _ _ _ _ hs => mrf_l hs) (fun φ als H locs k n hc kk => lv_lload_n hx hb hdg (of_decide_eq_true hok) (lv_val hc.2.2.1 hv (fun q => by cases q)) kk)
  case aload k =>
    cases hlen.resolve_right (fun ⟨_, _, _, _, h⟩ => by cases h)
    dsimp only [mstep] at hm
    have hkx : k = x := of_decide_eq_true hok
    subst hkx
    rcases lA_inv hm with ⟨a, hv, hm1⟩ | ⟨hv, hm1⟩
    · exact go_st (hN _ _ _ hm1) (fun φ als H locs hc hs => mrf_r (hc.2.2.1.2.2.2 a (List.mem_of_getElem? hv)) hs) (fun φ als H locs k n hc kk => lv_aload hx hb hdg (lv_val hc.2.2.1 hv (fun q => by cases q)) kk)
    · exact go_st (hN _ _ _ hm1) (fun φ als H locs hc hs => mrf_n hs) (fun φ als H locs k n hc kk => lv_aloadN hx hb hdg (lv_val hc.2.2.1 hv (fun q => by cases q)) kk)
  case aload_n k =>
    cases hlen.resolve_right (fun ⟨_, _, _, _, h⟩ => by cases h)
    dsimp only [mstep] at hm
    rcases lA_inv hm with ⟨a, hv, hm1⟩ | ⟨hv, hm1⟩
    · exact go_st (hN _ _ _ hm1) (fun φ als H locs hc hs => mrf_r (hc.2.2.1.2.2.2 a (List.mem_of_getElem? hv)) hs) (fun φ als H locs k n hc kk => lv_aload_n hx hb hdg (of_decide_eq_true hok) (lv_val hc.2.2.1 hv (fun q => by cases q)) kk)
    · exact go_st (hN _ _ _ hm1) (fun φ als H locs hc hs => mrf_n hs) (fun φ als H locs k n hc kk => lv_aload_nN hx hb hdg (of_decide_eq_true hok) (lv_val hc.2.2.1 hv (fun q => by cases q)) kk)
  case istore k =>
    cases hlen.resolve_right (fun ⟨_, _, _, _, h⟩ => by cases h)
    dsimp only [mstep] at hm
    simp only [mokx, Bool.and_eq_true, decide_eq_true_eq] at hok
    have hkx := hok.1
    subst hkx
    obtain ⟨v, st', rfl, hm1⟩ := m1i_inv hm
    exact go_sto (hN _ _ _ hm1) mrf_tl (fun _ _ _ _ _ _ _ q => by cases q) (fun φ als H locs n1 n2 hc kk => lv_istore hx hb hdg (mLr_has hc.2.2.1) hok.2 rfl kk)
  case istore_n k =>
    cases hlen.resolve_right (fun ⟨_, _, _, _, h⟩ => by cases h)
    dsimp only [mstep] at hm
    simp only [mokx, Bool.and_eq_true, decide_eq_true_eq] at hok
    obtain ⟨v, st', rfl, hm1⟩ := m1i_inv hm
    exact go_sto (hN _ _ _ hm1) mrf_tl (fun _ _ _ _ _ _ _ q => by cases q) (fun φ als H locs n1 n2 hc kk => lv_istore_n hx hb hdg hok.1 (mLr_has hc.2.2.1) hok.2 rfl kk)
  case lstore k =>
    cases hlen.resolve_right (fun ⟨_, _, _, _, h⟩ => by cases h)
    dsimp only [mstep] at hm
    simp only [mokx, Bool.and_eq_true, decide_eq_true_eq] at hok
    have hkx := hok.1
    subst hkx
    obtain ⟨v, st', rfl, hm1⟩ := m1l_inv hm
    exact go_stl (hN _ _ _ hm1) mrf_tl (fun φ als H locs n1 n2 hc kk => lv_lstore hx hb hdg (mLr_has hc.2.2.1) hok.2 rfl kk)
  case lstore_n k =>
    cases hlen.resolve_right (fun ⟨_, _, _, _, h⟩ => by cases h)
    dsimp only [mstep] at hm
    simp only [mokx, Bool.and_eq_true, decide_eq_true_eq] at hok
    obtain ⟨v, st', rfl, hm1⟩ := m1l_inv hm
    exact go_stl (hN _ _ _ hm1) mrf_tl (fun φ als H locs n1 n2 hc kk => lv_lstore_n hx hb hdg hok.1 (mLr_has hc.2.2.1) hok.2 rfl kk)
  case astore k =>
    cases hlen.resolve_right (fun ⟨_, _, _, _, h⟩ => by cases h)
    dsimp only [mstep] at hm
    simp only [mokx, Bool.and_eq_true, decide_eq_true_eq] at hok
    have hkx := hok.1
    subst hkx
    rcases m1a_inv hm with ⟨a, st', rfl, hm1⟩ | ⟨st', rfl, hm1⟩
    · exact go_sto (hN _ _ _ hm1) mrf_tl (fun _ _ _ _ _ hs b q => by cases q; exact mrf_hd hs) (fun φ als H locs n1 n2 hc kk => lv_astore hx hb hdg (mLr_has hc.2.2.1) hok.2 rfl kk)
    · exact go_sto (hN _ _ _ hm1) mrf_tl (fun _ _ _ _ _ _ _ q => by cases q) (fun φ als H locs n1 n2 hc kk => lv_astoreN hx hb hdg (mLr_has hc.2.2.1) hok.2 rfl kk)
  case astore_n k =>
    cases hlen.resolve_right (fun ⟨_, _, _, _, h⟩ => by cases h)
    dsimp only [mstep] at hm
    simp only [mokx, Bool.and_eq_true, decide_eq_true_eq] at hok
    rcases m1a_inv hm with ⟨a, st', rfl, hm1⟩ | ⟨st', rfl, hm1⟩
    · exact go_sto (hN _ _ _ hm1) mrf_tl (fun _ _ _ _ _ hs b q => by cases q; exact mrf_hd hs) (fun φ als H locs n1 n2 hc kk => lv_astore_n hx hb hdg hok.1 (mLr_has hc.2.2.1) hok.2 rfl kk)
    · exact go_sto (hN _ _ _ hm1) mrf_tl (fun _ _ _ _ _ _ _ q => by cases q) (fun φ als H locs n1 n2 hc kk => lv_astore_nN hx hb hdg hok.1 (mLr_has hc.2.2.1) hok.2 rfl kk)
  case iinc k n =>
    cases hlen.resolve_right (fun ⟨_, _, _, _, h⟩ => by cases h)
    dsimp only [mstep] at hm
    simp only [mokx, Bool.and_eq_true, decide_eq_true_eq] at hok
    obtain ⟨hkx, hkl, hkv⟩ := hok
    subst hkx
    obtain ⟨v, hv, hm1⟩ := lI_inv hm
    refine go_sto (hN _ _ _ hm1) id (fun _ _ _ _ _ _ _ q => by cases q) (fun φ als H locs n1 n2 hc kk => ?_)
    have hmem : (k, Value.int v) ∈ mlv φ 0 ls := mem_mlv.mpr ⟨k, .int v, hv, (fun q => by cases q), by simp [vm_]⟩
    obtain ⟨j, hj⟩ := List.getElem?_of_mem hmem
    exact lv_iinc hx hb hdg (mLr_has hc.2.2.1) hj (by rw [hkv]) hkl rfl kk
  case iadd =>
    cases hlen.resolve_right (fun ⟨_, _, _, _, h⟩ => by cases h)
    dsimp only [mstep] at hm
    obtain ⟨a, b, st', rfl, hm1⟩ := m2i_inv hm
    exact go_st (hN _ _ _ hm1) (fun _ _ _ _ _ hs => mrf_i (mrf_tl (mrf_tl hs))) (fun φ als H locs k n hc kk => lv_iadd hx hb hdg kk)
  case isub =>
    cases hlen.resolve_right (fun ⟨_, _, _, _, h⟩ => by cases h)
    dsimp only [mstep] at hm
    obtain ⟨a, b, st', rfl, hm1⟩ := m2i_inv hm
    exact go_st (hN _ _ _ hm1) (fun _ _ _ _ _ hs => mrf_i (mrf_tl (mrf_tl hs))) (fun φ als H locs k n hc kk => lv_isub hx hb hdg kk)
  case imul =>
    cases hlen.resolve_right (fun ⟨_, _, _, _, h⟩ => by cases h)
    dsimp only [mstep] at hm
    obtain ⟨a, b, st', rfl, hm1⟩ := m2i_inv hm
    exact go_st (hN _ _ _ hm1) (fun _ _ _ _ _ hs => mrf_i (mrf_tl (mrf_tl hs))) (fun φ als H locs k n hc kk => lv_imul hx hb hdg kk)
  case iand =>
    cases hlen.resolve_right (fun ⟨_, _, _, _, h⟩ => by cases h)
    dsimp only [mstep] at hm
    obtain ⟨a, b, st', rfl, hm1⟩ := m2i_inv hm
    exact go_st (hN _ _ _ hm1) (fun _ _ _ _ _ hs => mrf_i (mrf_tl (mrf_tl hs))) (fun φ als H locs k n hc kk => lv_iand hx hb hdg kk)
  case ior =>
    cases hlen.resolve_right (fun ⟨_, _, _, _, h⟩ => by cases h)
    dsimp only [mstep] at hm
    obtain ⟨a, b, st', rfl, hm1⟩ := m2i_inv hm
    exact go_st (hN _ _ _ hm1) (fun _ _ _ _ _ hs => mrf_i (mrf_tl (mrf_tl hs))) (fun φ als H locs k n hc kk => lv_ior hx hb hdg kk)
  case ixor =>
    cases hlen.resolve_right (fun ⟨_, _, _, _, h⟩ => by cases h)
    dsimp only [mstep] at hm
    obtain ⟨a, b, st', rfl, hm1⟩ := m2i_inv hm
    exact go_st (hN _ _ _ hm1) (fun _ _ _ _ _ hs => mrf_i (mrf_tl (mrf_tl hs))) (fun φ als H locs k n hc kk => lv_ixor hx hb hdg kk)
  case ishl =>
    cases hlen.resolve_right (fun ⟨_, _, _, _, h⟩ => by cases h)
    dsimp only [mstep] at hm
    obtain ⟨a, b, st', rfl, hm1⟩ := m2i_inv hm
    exact go_st (hN _ _ _ hm1) (fun _ _ _ _ _ hs => mrf_i (mrf_tl (mrf_tl hs))) (fun φ als H locs k n hc kk => lv_ishl hx hb hdg kk)
  case ishr =>
    cases hlen.resolve_right (fun ⟨_, _, _, _, h⟩ => by cases h)
    dsimp only [mstep] at hm
    obtain ⟨a, b, st', rfl, hm1⟩ := m2i_inv hm
    exact go_st (hN _ _ _ hm1) (fun _ _ _ _ _ hs => mrf_i (mrf_tl (mrf_tl hs))) (fun φ als H locs k n hc kk => lv_ishr hx hb hdg kk)
  case iushr =>
    cases hlen.resolve_right (fun ⟨_, _, _, _, h⟩ => by cases h)
    dsimp only [mstep] at hm
    obtain ⟨a, b, st', rfl, hm1⟩ := m2i_inv hm
    exact go_st (hN _ _ _ hm1) (fun _ _ _ _ _ hs => mrf_i (mrf_tl (mrf_tl hs))) (fun φ als H locs k n hc kk => lv_iushr hx hb hdg rfl kk)
  case idiv =>
    cases hlen.resolve_right (fun ⟨_, _, _, _, h⟩ => by cases h)
    dsimp only [mstep] at hm
    obtain ⟨a, b, st', rfl, hm1⟩ := m2i_inv hm
    obtain ⟨hne, hm2⟩ := ite_none hm1
    exact go_st (hN _ _ _ hm2) (fun _ _ _ _ _ hs => mrf_i (mrf_tl (mrf_tl hs))) (fun φ als H locs k n hc kk => lv_idiv hx hb hdg hne kk)
  case irem =>
    cases hlen.resolve_right (fun ⟨_, _, _, _, h⟩ => by cases h)
    dsimp only [mstep] at hm
    obtain ⟨a, b, st', rfl, hm1⟩ := m2i_inv hm
    obtain ⟨hne, hm2⟩ := ite_none hm1
    exact go_st (hN _ _ _ hm2) (fun _ _ _ _ _ hs => mrf_i (mrf_tl (mrf_tl hs))) (fun φ als H locs k n hc kk => lv_irem hx hb hdg hne kk)
  case ineg =>
    cases hlen.resolve_right (fun ⟨_, _, _, _, h⟩ => by cases h)
    dsimp only [mstep] at hm
    obtain ⟨a, st', rfl, hm1⟩ := m1i_inv hm
    exact go_st (hN _ _ _ hm1) (fun _ _ _ _ _ hs => mrf_i (mrf_tl hs)) (fun φ als H locs k n hc kk => lv_ineg hx hb hdg kk)
  case ladd =>
    cases hlen.resolve_right (fun ⟨_, _, _, _, h⟩ => by cases h)
    dsimp only [mstep] at hm
    obtain ⟨a, b, st', rfl, hm1⟩ := m2l_inv hm
    exact go_st (hN _ _ _ hm1) (fun _ _ _ _ _ hs => mrf_l (mrf_tl (mrf_tl hs))) (fun φ als H locs k n hc kk => lv_ladd hx hb hdg kk)
  case lsub =>
    cases hlen.resolve_right (fun ⟨_, _, _, _, h⟩ => by cases h)
    dsimp only [mstep] at hm
    obtain ⟨a, b, st', rfl, hm1⟩ := m2l_inv hm
    exact go_st (hN _ _ _ hm1) (fun _ _ _ _ _ hs => mrf_l (mrf_tl (mrf_tl hs))) (fun φ als H locs k n hc kk => lv_lsub hx hb hdg kk)
  case lmul =>
    cases hlen.resolve_right (fun ⟨_, _, _, _, h⟩ => by cases h)
    dsimp only [mstep] at hm
    obtain ⟨a, b, st', rfl, hm1⟩ := m2l_inv hm
    exact go_st (hN _ _ _ hm1) (fun _ _ _ _ _ hs => mrf_l (mrf_tl (mrf_tl hs))) (fun φ als H locs k n hc kk => lv_lmul hx hb hdg kk)
  case land =>
    cases hlen.resolve_right (fun ⟨_, _, _, _, h⟩ => by cases h)
    dsimp only [mstep] at hm
    obtain ⟨a, b, st', rfl, hm1⟩ := m2l_inv hm
    exact go_st (hN _ _ _ hm1) (fun _ _ _ _ _ hs => mrf_l (mrf_tl (mrf_tl hs))) (fun φ als H locs k n hc kk => lv_land hx hb hdg kk)
  case lor =>
    cases hlen.resolve_right (fun ⟨_, _, _, _, h⟩ => by cases h)
    dsimp only [mstep] at hm
    obtain ⟨a, b, st', rfl, hm1⟩ := m2l_inv hm
    exact go_st (hN _ _ _ hm1) (fun _ _ _ _ _ hs => mrf_l (mrf_tl (mrf_tl hs))) (fun φ als H locs k n hc kk => lv_lor hx hb hdg kk)
  case ldiv =>
    cases hlen.resolve_right (fun ⟨_, _, _, _, h⟩ => by cases h)
    dsimp only [mstep] at hm
    obtain ⟨a, b, st', rfl, hm1⟩ := m2l_inv hm
    obtain ⟨hne, hm2⟩ := ite_none hm1
    exact go_st (hN _ _ _ hm2) (fun _ _ _ _ _ hs => mrf_l (mrf_tl (mrf_tl hs))) (fun φ als H locs k n hc kk => lv_ldiv hx hb hdg hne kk)
  case lrem =>
    cases hlen.resolve_right (fun ⟨_, _, _, _, h⟩ => by cases h)
    dsimp only [mstep] at hm
    obtain ⟨a, b, st', rfl, hm1⟩ := m2l_inv hm
    obtain ⟨hne, hm2⟩ := ite_none hm1
    exact go_st (hN _ _ _ hm2) (fun _ _ _ _ _ hs => mrf_l (mrf_tl (mrf_tl hs))) (fun φ als H locs k n hc kk => lv_lrem hx hb hdg hne kk)
  case lshl =>
    cases hlen.resolve_right (fun ⟨_, _, _, _, h⟩ => by cases h)
    dsimp only [mstep] at hm
    obtain ⟨a, b, st', rfl, hm1⟩ := mli_inv hm
    exact go_st (hN _ _ _ hm1) (fun _ _ _ _ _ hs => mrf_l (mrf_tl (mrf_tl hs))) (fun φ als H locs k n hc kk => lv_lshl hx hb hdg rfl kk)
  case lshr =>
    cases hlen.resolve_right (fun ⟨_, _, _, _, h⟩ => by cases h)
    dsimp only [mstep] at hm
    obtain ⟨a, b, st', rfl, hm1⟩ := mli_inv hm
    exact go_st (hN _ _ _ hm1) (fun _ _ _ _ _ hs => mrf_l (mrf_tl (mrf_tl hs))) (fun φ als H locs k n hc kk => lv_lshr hx hb hdg rfl kk)
  case lushr =>
    cases hlen.resolve_right (fun ⟨_, _, _, _, h⟩ => by cases h)
    dsimp only [mstep] at hm
    obtain ⟨a, b, st', rfl, hm1⟩ := mli_inv hm
    exact go_st (hN _ _ _ hm1) (fun _ _ _ _ _ hs => mrf_l (mrf_tl (mrf_tl hs))) (fun φ als H locs k n hc kk => lv_lushr hx hb hdg rfl kk)
  case lcmp =>
    cases hlen.resolve_right (fun ⟨_, _, _, _, h⟩ => by cases h)
    dsimp only [mstep] at hm
    obtain ⟨a, b, st', rfl, hm1⟩ := m2l_inv hm
    exact go_st (hN _ _ _ hm1) (fun _ _ _ _ _ hs => mrf_i (mrf_tl (mrf_tl hs))) (fun φ als H locs k n hc kk => W.lcmp hx hb hdg kk)
  case i2l =>
    cases hlen.resolve_right (fun ⟨_, _, _, _, h⟩ => by cases h)
    dsimp only [mstep] at hm
    obtain ⟨a, st', rfl, hm1⟩ := m1i_inv hm
    exact go_st (hN _ _ _ hm1) (fun _ _ _ _ _ hs => mrf_l (mrf_tl hs)) (fun φ als H locs k n hc kk => lv_i2l hx hb hdg rfl kk)
  case l2i =>
    cases hlen.resolve_right (fun ⟨_, _, _, _, h⟩ => by cases h)
    dsimp only [mstep] at hm
    obtain ⟨a, st', rfl, hm1⟩ := m1l_inv hm
    exact go_st (hN _ _ _ hm1) (fun _ _ _ _ _ hs => mrf_i (mrf_tl hs)) (fun φ als H locs k n hc kk => lv_l2i hx hb hdg rfl kk)
  case dup =>
    cases hlen.resolve_right (fun ⟨_, _, _, _, h⟩ => by cases h)
    dsimp only [mstep] at hm
    obtain ⟨v, st', rfl, hv, hm1⟩ := mv1_inv hm
    exact go_st (hN _ _ _ hm1) (fun _ _ _ _ _ hs => mrf_cons.mpr ⟨(mrf_cons.mp hs).1, hs⟩) (fun φ als H locs k n hc kk => lv_dup hx hb hdg ((vm_cat φ v).trans hv) kk)
  case pop =>
    cases hlen.resolve_right (fun ⟨_, _, _, _, h⟩ => by cases h)
    dsimp only [mstep] at hm
    obtain ⟨v, st', rfl, hv, hm1⟩ := mv1_inv hm
    exact go_st (hN _ _ _ hm1) (fun _ _ _ _ _ hs => mrf_tl hs) (fun φ als H locs k n hc kk => lv_pop hx hb hdg ((vm_cat φ v).trans hv) kk)
  case dup2 =>
    cases hlen.resolve_right (fun ⟨_, _, _, _, h⟩ => by cases h)
    dsimp only [mstep] at hm
    obtain ⟨v, w, st', rfl, hv, hm1⟩ := mv2_inv hm
    exact go_st (hN _ _ _ hm1) (fun _ _ _ _ _ hs => mrf_cons.mpr ⟨(mrf_cons.mp hs).1, mrf_cons.mpr ⟨(mrf_cons.mp (mrf_tl hs)).1, hs⟩⟩) (fun φ als H locs k n hc kk => lv_dup2_11 hx hb hdg ((vm_cat φ v).trans hv.1) ((vm_cat φ w).trans hv.2) kk)
  case ifCond cnd off =>
    cases hlen.resolve_right (fun ⟨_, _, _, _, h⟩ => by cases h)
    dsimp only [mstep] at hm
    have ht : (pc : Int) + off = (x : Int) := of_decide_eq_true hok
    obtain ⟨a, st', rfl, hm1⟩ := m1i_inv hm
    cases cnd
    · dsimp only at hm1
      split at hm1
      · rename_i hq
        exact go_st (jK _ _ _ _ hm1) (fun _ _ _ _ _ hs => mrf_tl hs) (fun φ als H locs k n hc kk => lv_if_eq hx hb hdg ht (fun _ => kk) (fun q => absurd hq q))
      · rename_i hq
        exact go_st (hN _ _ _ hm1) (fun _ _ _ _ _ hs => mrf_tl hs) (fun φ als H locs k n hc kk => lv_if_eq hx hb hdg ht (fun q => absurd q hq) (fun _ => kk))
    · dsimp only at hm1
      split at hm1
      · rename_i hq
        exact go_st (hN _ _ _ hm1) (fun _ _ _ _ _ hs => mrf_tl hs) (fun φ als H locs k n hc kk => lv_if_ne hx hb hdg ht (fun q => absurd hq q) (fun _ => kk))
      · rename_i hq
        exact go_st (jK _ _ _ _ hm1) (fun _ _ _ _ _ hs => mrf_tl hs) (fun φ als H locs k n hc kk => lv_if_ne hx hb hdg ht (fun _ => kk) (fun q => absurd q hq))
    · dsimp only at hm1
      split at hm1
      · rename_i hq
        exact go_st (jK _ _ _ _ hm1) (fun _ _ _ _ _ hs => mrf_tl hs) (fun φ als H locs k n hc kk => lv_if_lt hx hb hdg ht (fun _ => kk) (fun q => absurd hq q))
      · rename_i hq
        exact go_st (hN _ _ _ hm1) (fun _ _ _ _ _ hs => mrf_tl hs) (fun φ als H locs k n hc kk => lv_if_lt hx hb hdg ht (fun q => absurd q hq) (fun _ => kk))
    · dsimp only at hm1
      split at hm1
      · rename_i hq
        exact go_st (jK _ _ _ _ hm1) (fun _ _ _ _ _ hs => mrf_tl hs) (fun φ als H locs k n hc kk => lv_if_ge hx hb hdg ht (fun _ => kk) (fun q => absurd hq q))
      · rename_i hq
        exact go_st (hN _ _ _ hm1) (fun _ _ _ _ _ hs => mrf_tl hs) (fun φ als H locs k n hc kk => lv_if_ge hx hb hdg ht (fun q => absurd q hq) (fun _ => kk))
    · dsimp only at hm1
      split at hm1
      · rename_i hq
        exact go_st (jK _ _ _ _ hm1) (fun _ _ _ _ _ hs => mrf_tl hs) (fun φ als H locs k n hc kk => lv_if_gt hx hb hdg ht (fun _ => kk) (fun q => absurd hq q))
      · rename_i hq
        exact go_st (hN _ _ _ hm1) (fun _ _ _ _ _ hs => mrf_tl hs) (fun φ als H locs k n hc kk => lv_if_gt hx hb hdg ht (fun q => absurd q hq) (fun _ => kk))
    · dsimp only at hm1
      split at hm1
      · rename_i hq
        exact go_st (jK _ _ _ _ hm1) (fun _ _ _ _ _ hs => mrf_tl hs) (fun φ als H locs k n hc kk => lv_if_le hx hb hdg ht (fun _ => kk) (fun q => absurd hq q))
      · rename_i hq
        exact go_st (hN _ _ _ hm1) (fun _ _ _ _ _ hs => mrf_tl hs) (fun φ als H locs k n hc kk => lv_if_le hx hb hdg ht (fun q => absurd q hq) (fun _ => kk))
  case if_icmp cnd off =>
    cases hlen.resolve_right (fun ⟨_, _, _, _, h⟩ => by cases h)
    dsimp only [mstep] at hm
    have ht : (pc : Int) + off = (x : Int) := of_decide_eq_true hok
    obtain ⟨a, b, st', rfl, hm1⟩ := m2i_inv hm
    cases cnd
    · dsimp only at hm1
      split at hm1
      · rename_i hq
        exact go_st (jK _ _ _ _ hm1) (fun _ _ _ _ _ hs => mrf_tl (mrf_tl hs)) (fun φ als H locs k n hc kk => lv_icmp_eq hx hb hdg ht (fun _ => kk) (fun q => absurd hq q))
      · rename_i hq
        exact go_st (hN _ _ _ hm1) (fun _ _ _ _ _ hs => mrf_tl (mrf_tl hs)) (fun φ als H locs k n hc kk => lv_icmp_eq hx hb hdg ht (fun q => absurd q hq) (fun _ => kk))
    · dsimp only at hm1
      split at hm1
      · rename_i hq
        exact go_st (hN _ _ _ hm1) (fun _ _ _ _ _ hs => mrf_tl (mrf_tl hs)) (fun φ als H locs k n hc kk => lv_icmp_ne hx hb hdg ht (fun q => absurd hq q) (fun _ => kk))
      · rename_i hq
        exact go_st (jK _ _ _ _ hm1) (fun _ _ _ _ _ hs => mrf_tl (mrf_tl hs)) (fun φ als H locs k n hc kk => lv_icmp_ne hx hb hdg ht (fun _ => kk) (fun q => absurd q hq))
    · dsimp only at hm1
      split at hm1
      · rename_i hq
        exact go_st (jK _ _ _ _ hm1) (fun _ _ _ _ _ hs => mrf_tl (mrf_tl hs)) (fun φ als H locs k n hc kk => lv_icmp_lt hx hb hdg ht (fun _ => kk) (fun q => absurd hq q))
      · rename_i hq
        exact go_st (hN _ _ _ hm1) (fun _ _ _ _ _ hs => mrf_tl (mrf_tl hs)) (fun φ als H locs k n hc kk => lv_icmp_lt hx hb hdg ht (fun q => absurd q hq) (fun _ => kk))
    · dsimp only at hm1
      split at hm1
      · rename_i hq
        exact go_st (jK _ _ _ _ hm1) (fun _ _ _ _ _ hs => mrf_tl (mrf_tl hs)) (fun φ als H locs k n hc kk => lv_icmp_ge hx hb hdg ht (fun _ => kk) (fun q => absurd hq q))
      · rename_i hq
        exact go_st (hN _ _ _ hm1) (fun _ _ _ _ _ hs => mrf_tl (mrf_tl hs)) (fun φ als H locs k n hc kk => lv_icmp_ge hx hb hdg ht (fun q => absurd q hq) (fun _ => kk))
    · dsimp only at hm1
      split at hm1
      · rename_i hq
        exact go_st (jK _ _ _ _ hm1) (fun _ _ _ _ _ hs => mrf_tl (mrf_tl hs)) (fun φ als H locs k n hc kk => lv_icmp_gt hx hb hdg ht (fun _ => kk) (fun q => absurd hq q))
      · rename_i hq
        exact go_st (hN _ _ _ hm1) (fun _ _ _ _ _ hs => mrf_tl (mrf_tl hs)) (fun φ als H locs k n hc kk => lv_icmp_gt hx hb hdg ht (fun q => absurd q hq) (fun _ => kk))
    · dsimp only at hm1
      split at hm1
      · rename_i hq
        exact go_st (jK _ _ _ _ hm1) (fun _ _ _ _ _ hs => mrf_tl (mrf_tl hs)) (fun φ als H locs k n hc kk => lv_icmp_le hx hb hdg ht (fun _ => kk) (fun q => absurd hq q))
      · rename_i hq
        exact go_st (hN _ _ _ hm1) (fun _ _ _ _ _ hs => mrf_tl (mrf_tl hs)) (fun φ als H locs k n hc kk => lv_icmp_le hx hb hdg ht (fun q => absurd q hq) (fun _ => kk))
  case goto off =>
    cases hlen.resolve_right (fun ⟨_, _, _, _, h⟩ => by cases h)
    dsimp only [mstep] at hm
    exact go_st (jK _ _ _ _ hm) (fun _ _ _ _ _ hs => hs) (fun φ als H locs k n hc kk => lv_goto hx hb hdg (of_decide_eq_true hok) kk)
  case ifnull off =>
    cases hlen.resolve_right (fun ⟨_, _, _, _, h⟩ => by cases h)
    dsimp only [mstep] at hm
    rcases mnul_inv hm with ⟨a, st', rfl, hm1⟩ | ⟨st', rfl, hm1⟩
    · exact go_st (hN _ _ _ hm1) (fun _ _ _ _ _ hs => mrf_tl hs) (fun φ als H locs k n hc kk => lv_ifnull hx hb hdg kk)
    · exact go_st (jK _ _ _ _ hm1) (fun _ _ _ _ _ hs => mrf_tl hs) (fun φ als H locs k n hc kk => lv_ifnullN hx hb hdg (of_decide_eq_true hok) kk)
  case ifnonnull off =>
    cases hlen.resolve_right (fun ⟨_, _, _, _, h⟩ => by cases h)
    dsimp only [mstep] at hm
    rcases mnul_inv hm with ⟨a, st', rfl, hm1⟩ | ⟨st', rfl, hm1⟩
    · exact go_st (jK _ _ _ _ hm1) (fun _ _ _ _ _ hs => mrf_tl hs) (fun φ als H locs k n hc kk => lv_ifnonnull hx hb hdg (of_decide_eq_true hok) kk)
    · exact go_st (hN _ _ _ hm1) (fun _ _ _ _ _ hs => mrf_tl hs) (fun φ als H locs k n hc kk => lv_ifnonnullN hx hb hdg kk)
  case tableswitch d lo hi os =>
    dsimp only [mstep] at hm
    obtain ⟨v, st', rfl, hm1⟩ := m1i_inv hm
    simp only [mokx, Bool.and_eq_true, decide_eq_true_eq, List.all_eq_true] at hok
    obtain ⟨o1, o2, o3, o4, o5⟩ := hok
    have hsz : os.size = os.toList.length := by simp
    rcases mtsw_inv os.toList lo o4 (by omega) hm1 with ⟨k, q, q1, q2, hm2⟩ | ⟨q1, hm2⟩
    · have hk : k < os.toList.length := (List.getElem?_eq_some_iff.mp q1).1
      have hq0 := o2 q (List.mem_of_getElem? q1)
      refine go_st (jK _ _ _ _ hm2) (fun _ _ _ _ _ hs => mrf_tl hs) (fun φ als H locs k' n hc kk => lv_tableIn (off := q) hx hb hdg (by omega) (by omega) ?_ (by omega) kk)
      have e1 : (v.toInt - lo).toNat = k := by omega
      rw [e1, ← Array.getElem?_toList]
      exact q1
    · exact go_st (jK _ _ _ _ hm2) (fun _ _ _ _ _ hs => mrf_tl hs) (fun φ als H locs k' n hc kk => lv_tableOut hx hb hdg (by omega) (by omega) kk)
  case getfield idx =>
    cases hlen.resolve_right (fun ⟨_, _, _, _, h⟩ => by cases h)
    dsimp only [mstep] at hm
    simp only [mokx, Bool.and_eq_true, decide_eq_true_eq] at hok
    obtain ⟨o1, o2, o3⟩ := hok
    split at o3
    · rename_i wd hwd
      obtain ⟨a, st', rfl, hm1⟩ := m1r_inv hm
      obtain ⟨hk, hm2⟩ := gk_inv hm1
      split at hm2
      · rename_i hf
        obtain ⟨b, hR, hm3⟩ := gr_inv hm2
        refine go_st (hN _ _ _ hm3) (fun φ als H locs hc hs => mrf_r (hc.1.2.2.1 a y b hR) (mrf_tl hs)) (fun φ als H locs k n hc kk => w_get hx hb hts hcl hown eKK hc.1 hk o1 o2 (hBT _ (mwd_mem o3)) hwd hdg ?_)
        rw [hf, mfv_ref hR]
        exact kk
      · rename_i hf
        refine go_st (hN _ _ _ hm2) (fun φ als H locs hc hs => mrf_i (mrf_tl hs)) (fun φ als H locs k n hc kk => w_get hx hb hts hcl hown eKK hc.1 hk o1 o2 (hBT _ (mwd_mem o3)) hwd hdg ?_)
        have e9 : mfv φ h a (mfk x y) y = .int (h.2.1 a y) := by
          unfold mfv
          split
          · rename_i h9
            exact absurd h9 hf
          · rfl
        rw [e9]
        exact kk
    · cases o3
  case putfield idx =>
    cases hlen.resolve_right (fun ⟨_, _, _, _, h⟩ => by cases h)
    dsimp only [mstep] at hm
    simp only [mokx, Bool.and_eq_true, decide_eq_true_eq] at hok
    obtain ⟨o1, o2, o3, o4, o5⟩ := hok
    split at o3
    · rename_i wd hwd
      split at hm
      · rename_i hf
        obtain ⟨a, b, st', rfl, hm1⟩ := mrr_inv hm
        obtain ⟨hk, hm2⟩ := gk_inv hm1
        exact go_hp (hN _ _ _ hm2) rfl rfl (fun hs => mrf_tl (mrf_tl hs)) (fun φ als H locs n1 n2 hc hs kk => w_putR hx hb hts hcl hown eKK hc.1 hc.2.1 hini hk o1 o2 (hBT _ (mwd_mem o3)) hwd o4 hf (mrf_hd hs) hdg kk)
      · rename_i hf
        obtain ⟨a, v, st', rfl, hm3⟩ := mri_inv hm
        obtain ⟨hk, hm4⟩ := gk_inv hm3
        obtain ⟨hv, hm5⟩ := mbool_inv hm4
        exact go_hp (hN _ _ _ hm5) rfl rfl (fun hs => mrf_tl (mrf_tl hs)) (fun φ als H locs n1 n2 hc hs kk => w_putI hx hb hts hcl hown eKK hc.1 hc.2.1 hini hk o1 o2 (hBT _ (mwd_mem o3)) hwd o4 (Or.inr ⟨hf, hv⟩) hdg kk)
      · rename_i hf1 hf2
        obtain ⟨a, v, st', rfl, hm6⟩ := mri_inv hm
        obtain ⟨hk, hm7⟩ := gk_inv hm6
        have hf1n : mfk x y ≠ 2 := hf1
        have hf2n : mfk x y ≠ 1 := hf2
        have h0 : mfk x y = 0 := by omega
        exact go_hp (hN _ _ _ hm7) rfl rfl (fun hs => mrf_tl (mrf_tl hs)) (fun φ als H locs n1 n2 hc hs kk => w_putI hx hb hts hcl hown eKK hc.1 hc.2.1 hini hk o1 o2 (hBT _ (mwd_mem o3)) hwd o4 (Or.inl h0) hdg kk)
    · cases o3
  case iaload =>
    cases hlen.resolve_right (fun ⟨_, _, _, _, h⟩ => by cases h)
    dsimp only [mstep] at hm
    simp only [mokx, Bool.or_eq_true, decide_eq_true_eq] at hok
    obtain ⟨a, i, st', rfl, hm1⟩ := mri_inv hm
    obtain ⟨hk, hi, hm2⟩ := gx_inv hm1
    rcases hok with rfl | rfl
    · exact go_st (hN _ _ _ hm2) (fun _ _ _ _ _ hs => mrf_i (mrf_tl (mrf_tl hs))) (fun φ als H locs k n hc kk => w_iald hx hb eKK hc.1 hk hi hdg kk)
    · exact go_st (hN _ _ _ hm2) (fun _ _ _ _ _ hs => mrf_i (mrf_tl (mrf_tl hs))) (fun φ als H locs k n hc kk => w_sld hx hb eXX hbl hbA hc.2.1 hc.1 hk hi hdg kk)
  case laload =>
    cases hlen.resolve_right (fun ⟨_, _, _, _, h⟩ => by cases h)
    dsimp only [mstep] at hm
    obtain ⟨a, i, st', rfl, hm1⟩ := mri_inv hm
    obtain ⟨hk, hi, hm2⟩ := gx_inv hm1
    exact go_st (hN _ _ _ hm2) (fun _ _ _ _ _ hs => mrf_l (mrf_tl (mrf_tl hs))) (fun φ als H locs k n hc kk => w_lald hx hb eKK hc.1 hk hi hdg kk)
  case iastore =>
    cases hlen.resolve_right (fun ⟨_, _, _, _, h⟩ => by cases h)
    dsimp only [mstep] at hm
    obtain ⟨a, i, v, st', rfl, hm1⟩ := mrii_inv hm
    obtain ⟨hk, hi, hm2⟩ := gx_inv hm1
    exact go_hp (hN _ _ _ hm2) rfl rfl (fun hs => mrf_tl (mrf_tl (mrf_tl hs))) (fun φ als H locs n1 n2 hc hs kk => w_iast hx hb eKK hc.1 hc.2.1 hk hi hdg kk)
  case lastore =>
    cases hlen.resolve_right (fun ⟨_, _, _, _, h⟩ => by cases h)
    dsimp only [mstep] at hm
    obtain ⟨a, i, v, st', rfl, hm1⟩ := mril_inv hm
    obtain ⟨hk, hi, hm2⟩ := gx_inv hm1
    exact go_hp (hN _ _ _ hm2) rfl rfl (fun hs => mrf_tl (mrf_tl (mrf_tl hs))) (fun φ als H locs n1 n2 hc hs kk => w_last hx hb eKK hc.1 hc.2.1 hk hi hdg kk)
  case aaload =>
    cases hlen.resolve_right (fun ⟨_, _, _, _, h⟩ => by cases h)
    dsimp only [mstep] at hm
    obtain ⟨a, i, st', rfl, hm1⟩ := mri_inv hm
    obtain ⟨hk, hi, hm2⟩ := gx_inv hm1
    rcases gy_inv hm2 with ⟨b, hR, hm3⟩ | ⟨hR, hm3⟩
    · refine go_st (hN _ _ _ hm3) (fun φ als H locs hc hs => mrf_r (hc.1.2.2.1 a _ b hR) (mrf_tl (mrf_tl hs))) (fun φ als H locs k n hc kk => w_aald hx hb eKK hc.1 hk hi hdg ?_)
      rw [hR]
      exact kk
    · refine go_st (hN _ _ _ hm3) (fun φ als H locs hc hs => mrf_n (mrf_tl (mrf_tl hs))) (fun φ als H locs k n hc kk => w_aald hx hb eKK hc.1 hk hi hdg ?_)
      rw [hR]
      exact kk
  case aastore =>
    cases hlen.resolve_right (fun ⟨_, _, _, _, h⟩ => by cases h)
    dsimp only [mstep] at hm
    obtain ⟨a, i, v, st', rfl, hm1⟩ := mrir_inv hm
    obtain ⟨hk, hi, hm2⟩ := gx_inv hm1
    obtain ⟨hkb, hm3⟩ := gk_inv hm2
    exact go_hp (hN _ _ _ hm3) rfl rfl (fun hs => mrf_tl (mrf_tl (mrf_tl hs))) (fun φ als H locs n1 n2 hc hs kk => w_aast hx hb eKK hc.1 hc.2.1 hk hkb hi hdg kk)
  case arraylength =>
    cases hlen.resolve_right (fun ⟨_, _, _, _, h⟩ => by cases h)
    dsimp only [mstep] at hm
    simp only [mokx, Bool.or_eq_true, decide_eq_true_eq] at hok
    obtain ⟨a, st', rfl, hm1⟩ := m1r_inv hm
    obtain ⟨hk, hm2⟩ := gk_inv hm1
    rcases hok with rfl | rfl | rfl
    · exact go_st (hN _ _ _ hm2) (fun _ _ _ _ _ hs => mrf_i (mrf_tl hs)) (fun φ als H locs k n hc kk => w_alen hx hb eKK hc.1 (Or.inl hk) hdg kk)
    · exact go_st (hN _ _ _ hm2) (fun _ _ _ _ _ hs => mrf_i (mrf_tl hs)) (fun φ als H locs k n hc kk => w_alen hx hb eKK hc.1 (Or.inr hk) hdg kk)
    · exact go_st (hN _ _ _ hm2) (fun _ _ _ _ _ hs => mrf_i (mrf_tl hs)) (fun φ als H locs k n hc kk => w_slen hx hb eXX hbl hbA hc.2.1 hc.1 hk hdg kk)
  case new idx =>
    cases hlen.resolve_right (fun ⟨_, _, _, _, h⟩ => by cases h)
    dsimp only [mstep] at hm
    simp only [mokx, Bool.and_eq_true, decide_eq_true_eq] at hok
    obtain ⟨rfl, o2, o3⟩ := hok
    split at o3
    · rename_i q hq
      obtain ⟨C, T, N⟩ := q
      obtain ⟨n2, n3⟩ := hNw x o2 C T N hq
      exact go_new (hN _ _ _ hm) id (fun φ als H locs n1 n2' hc h1 h2 kk => w_new hx hb hts hcl hown eKK hc.1 hc.2.1 hA0 o2 hq (hBT _ (mwd_mem o3)) n2 n3 (Nat.le_trans h1 hRc) (Nat.le_trans h2 hRs) hdg kk)
    · cases o3
  case newarray t =>
    cases hlen.resolve_right (fun ⟨_, _, _, _, h⟩ => by cases h)
    dsimp only [mstep] at hm
    obtain ⟨n, st', rfl, hm1⟩ := m1i_inv hm
    obtain ⟨hn, hm2⟩ := ite_none hm1
    have hn1 : ¬ n < 0 := fun q => hn (Or.inl q)
    have hn2 : n.toNatClampNeg ≤ 100000 := Nat.not_lt.mp fun q => hn (Or.inr q)
    cases t
    case int =>
      have hx20 : x = 20 := of_decide_eq_true hok
      subst hx20
      exact go_new (hN _ _ _ hm2) mrf_tl (fun φ als H locs n1 n2' hc h1 h2 kk => w_newI hx hb eKK hc.1 hc.2.1 hA0 hAr.1 hn1 hn2 (Nat.le_trans h1 hRc) (Nat.le_trans h2 hRs) hdg kk)
    case long =>
      have hx20 : x = 21 := of_decide_eq_true hok
      subst hx20
      exact go_new (hN _ _ _ hm2) mrf_tl (fun φ als H locs n1 n2' hc h1 h2 kk => w_newJ hx hb eKK hc.1 hc.2.1 hA0 hAr.2 hn1 hn2 (Nat.le_trans h1 hRc) (Nat.le_trans h2 hRs) hdg kk)
    all_goals cases hok
  case anewarray idx =>
    cases hlen.resolve_right (fun ⟨_, _, _, _, h⟩ => by cases h)
    dsimp only [mstep] at hm
    obtain ⟨n, st', rfl, hm1⟩ := m1i_inv hm
    obtain ⟨hn, hm2⟩ := ite_none hm1
    have hn1 : ¬ n < 0 := fun q => hn (Or.inl q)
    have hn2 : n.toNatClampNeg ≤ 100000 := Nat.not_lt.mp fun q => hn (Or.inr q)
    exact go_new (hN _ _ _ hm2) mrf_tl (fun φ als H locs n1 n2' hc h1 h2 kk => w_newM hx hb hown eKK hc.1 hc.2.1 hA0 (hword hok) eAO hn1 hn2 (Nat.le_trans h1 hRc) (Nat.le_trans h2 hRs) hdg kk)
  all_goals cases hok
end PLAIN
