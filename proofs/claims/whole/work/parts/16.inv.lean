/-! soundness of calls -/
theorem mcall_inv {cal : mC} {exc : String → mH → Option mO} {nx : List Value → mH → Option mO} {x y : Nat} {st : List Value} {h : mH} {o : mO} (hm : mcall cal exc nx x y st h = some o) :
    ∃ as rest o', st = as.reverse ++ rest ∧ as.length = y % 10 ∧ mcat rest ≤ 8 ∧ (y / 100 % 100 = 0 ∨ ∃ a t, as = .ref a :: t ∧ gK h.1 a = y / 100 % 100) ∧ cal x as h = some o' ∧ (∀ ov, o'.1 = .inl ov → nx (ov.toList ++ rest) o'.2 = some o) ∧ ∀ E, o'.1 = .inr E → y / 10000 = 0 ∧ exc E o'.2 = some o := by
  unfold mcall at hm
  obtain ⟨hl, hm⟩ := ite_none hm
  obtain ⟨hm, hrc⟩ := mrcv_inv hm
  have hl1 : y % 10 ≤ st.length := Nat.not_lt.mp fun q => hl (Or.inl q)
  have hl2 : mcat (st.drop (y % 10)) ≤ 8 := Nat.not_lt.mp fun q => hl (Or.inr q)
  have hth : ∀ E h', mnth y exc E h' = some o → y / 10000 = 0 ∧ exc E h' = some o := by
    intro E h' q
    unfold mnth at q
    cases hy : y / 10000 with
    | zero => rw [hy] at q; exact ⟨rfl, q⟩
    | succ n => rw [hy] at q; cases q
  refine ⟨(st.take (y % 10)).reverse, st.drop (y % 10), ?_⟩
  have key : ∀ o', cal x (st.take (y % 10)).reverse h = some o' → (∀ ov, o'.1 = .inl ov → nx (ov.toList ++ st.drop (y % 10)) o'.2 = some o) → (∀ E, o'.1 = .inr E → mnth y exc E o'.2 = some o) → _ := fun o' a b c => (⟨o', by simp, by simp; omega, hl2, hrc, a, b, fun E q => hth E _ (c E q)⟩ : ∃ o', st = ((st.take (y % 10)).reverse).reverse ++ st.drop (y % 10) ∧ ((st.take (y % 10)).reverse).length = y % 10 ∧ mcat (st.drop (y % 10)) ≤ 8 ∧ (y / 100 % 100 = 0 ∨ ∃ a t, (st.take (y % 10)).reverse = .ref a :: t ∧ gK h.1 a = y / 100 % 100) ∧ cal x (st.take (y % 10)).reverse h = some o' ∧ (∀ ov, o'.1 = .inl ov → nx (ov.toList ++ st.drop (y % 10)) o'.2 = some o) ∧ ∀ E, o'.1 = .inr E → y / 10000 = 0 ∧ exc E o'.2 = some o)
  split at hm
  · rcases mcV_inv hm with ⟨h', hc, hn⟩ | ⟨E, h', hc, hn⟩
    · exact key _ hc (fun ov q => by cases q; exact hn) (fun E q => by cases q)
    · exact key _ hc (fun ov q => by cases q) (fun E q => by cases q; exact hn)
  · rcases mcI_inv hm with ⟨v, h', hc, hn⟩ | ⟨E, h', hc, hn⟩
    · exact key _ hc (fun ov q => by cases q; exact hn) (fun E q => by cases q)
    · exact key _ hc (fun ov q => by cases q) (fun E q => by cases q; exact hn)
  · rcases mcL_inv hm with ⟨v, h', hc, hn⟩ | ⟨E, h', hc, hn⟩
    · exact key _ hc (fun ov q => by cases q; exact hn) (fun E q => by cases q)
    · exact key _ hc (fun ov q => by cases q) (fun E q => by cases q; exact hn)
theorem mcat_map (φ : Nat → Nat) (st : List Value) : ((st.map (vm_ φ)).map fun v => v.category).sum = mcat st := by
  unfold mcat
  rw [List.map_map]
  congr 1
  apply List.map_congr_left
  intro v _
  exact vm_cat φ v
theorem mrf_app {z : Nat} {a b : List Value} : mrf z (a ++ b) ↔ mrf z a ∧ mrf z b := by
  unfold mrf
  constructor
  · intro h
    exact ⟨fun x hx => h x (List.mem_append_left _ hx), fun x hx => h x (List.mem_append_right _ hx)⟩
  · rintro ⟨h1, h2⟩ x hx
    exact (List.mem_append.mp hx).elim (h1 x) (h2 x)
theorem mrf_rev {z : Nat} {a : List Value} : mrf z a.reverse ↔ mrf z a := by
  unfold mrf
  simp
section CALL3
variable {p : Program} {l : Launch} {e : Env} {s : State} {m : MethodId} {args : Array Value} {below : List Frame} {meth : Method} {c : Code}
variable {cc : ByteArray} {pc : Nat} {V : mEv} {h : mH} {own : String} {nL d : Nat} {ini : Bool} {φ0 : Nat → Nat} {h0 : mH} {o : mO} {ls st : List Value} {Q : State → Prop} {T : List mMi} {q0 : mMi}
/-- what must hold where a callee throws -/
def mHx (p : Program) (l : Launch) (e : Env) (R : Room) (s : State) (m : MethodId) (args : Array Value) (below : List Frame) (meth : Method) (c : Code) (Q : State → Prop) (V : mEv) (nL : Nat) (φ0 : Nat → Nat) (h0 : mH) (o : mO) (pc : Nat) (ls : List Value) (exc : String → mH → Option mO) : Prop :=
  ∀ E h', (∃ k, k < 4 ∧ E = mexn k) → exc E h' = some o → (h'.1.1 ≤ o.2.1.1 ∧ h'.1.2.1 ≤ o.2.1.2.1) ∧ (h0.1.1 ≤ h'.1.1 → h'.1.1 - h0.1.1 + 1 ≤ mmc h0 o) ∧ (h0.1.2.1 ≤ h'.1.2.1 → h'.1.2.1 - h0.1.2.1 + 6 ≤ mms h0 o) ∧
    ∀ (φ' : Nat → Nat) (als : Array Slot) (H : Heap) (locs : List Loc) (q : Nat) (ce : Cell) (rest : List Value), mCf V s.heap nL φ0 h0 φ' h' ls als H locs → H[q]? = some ce → ce.vm = .none → s.vm.findClass E = some ce.cls → vx_W p l e R s m args below meth c H locs (h'.1.1 - h0.1.1 + 1) (h'.1.2.1 - h0.1.2.1 + 6) Q (F0 m pc als (rest.map (vm_ φ'))) q
set_option maxHeartbeats 4000000 in
theorem snd_call (hG : mGood l V T d) (hT : ∀ (j : Nat) (q : mMi), T[j]? = some q → mokm q = true) (C : mCx p l (mRm (d + 1) h0 o) s m args meth c V own cc nL (mWs q0) ini) {i : mI_} {x y w : Nat} (hdg : decode cc pc = .ok (i, 3)) (hok : mokc T own i x y w = true) (hx9 : x ≠ 900 ∧ x ≠ 901 ∧ x ≠ 902 ∧ x ≠ 903 ∧ x ≠ 904 ∧ x ≠ 905 ∧ x ≠ 906 ∧ x ≠ 907) {exc : String → mH → Option mO} {nx : List Value → List Value → mH → Option mO}
    (hN : ∀ ls st h, nx ls st h = some o → mGo V s.heap nL φ0 h0 (mWp p l e (mRm (d + 1) h0 o) s m args below meth c Q) o (pc + 3) ls st h) (hX : mHx p l e (mRm (d + 1) h0 o) s m args below meth c Q V nL φ0 h0 o pc ls exc)
    (hm : mcall (mcal T d) exc (fun st h => nx ls st h) x y st h = some o) : mGo V s.heap nL φ0 h0 (mWp p l e (mRm (d + 1) h0 o) s m args below meth c Q) o pc ls st h := by
  obtain ⟨hx, hb, hml, hown, hts, hcl, hlocks, hini, hE, hst, hfr, hlo, hBT⟩ := C
  obtain ⟨as, rest, o', rfl, has, hcat, hrcv, hcal, hret, hthr⟩ := mcall_inv hm
  obtain ⟨⟨gz, gy⟩, gE, gM⟩ := hG x as h o' hcal
  have hword : ∀ {q : Cond}, q ∈ mBT → q.before args s = true := fun h => hts _ (hBT _ h)
  have hmono : (h.1.1 ≤ o.2.1.1 ∧ h.1.2.1 ≤ o.2.1.2.1) ∧ (h0.1.1 ≤ h.1.1 → h.1.1 - h0.1.1 + mmc h o' ≤ mmc h0 o) ∧ (h0.1.2.1 ≤ h.1.2.1 → h.1.2.1 - h0.1.2.1 + mms h o' ≤ mms h0 o) := by
    cases ho : o'.1 with
    | inl ov =>
      have := (hN _ _ _ (hret ov ho)).1
      have hm0 : mex o' = 0 := by unfold mex; rw [ho]
      unfold mmc mms
      rw [hm0]
      refine ⟨⟨by omega, by omega⟩, fun _ => by omega, fun _ => by omega⟩
    | inr E =>
      obtain ⟨-, he⟩ := hthr E ho
      obtain ⟨a1, a2, a3, -⟩ := hX E o'.2 (gE E ho) he
      have hm1 : mex o' = 1 := by unfold mex; rw [ho]
      have e1 : mmc h o' = o'.2.1.1 - h.1.1 + 1 := by unfold mmc; rw [hm1]
      have e2 : mms h o' = o'.2.1.2.1 - h.1.2.1 + 6 := by unfold mms; rw [hm1]
      rw [e1, e2]
      refine ⟨⟨by omega, by omega⟩, fun q => by have := a2 (by omega); omega, fun q => by have := a3 (by omega); omega⟩
  have hrf : mrf h.1.1 (as.reverse ++ rest) → mrf h.1.1 as ∧ mrf h.1.1 rest := fun q => ⟨mrf_rev.mp (mrf_app.mp q).1, (mrf_app.mp q).2⟩
  refine go_call (o' := o') (a := id) gz gy (fun q => (hrf q).2) ?_ (fun ov ho => hN _ _ _ (hret ov ho)) (fun E ho => ?_)
  · intro φ als H locs hc hs hz0 hy0
    have hS := hc.2.1
    obtain ⟨hr1, hr2⟩ := hrf hs
    have hfit : h.1.1 - h0.1.1 + mmc h o' ≤ (mRm (d + 1) h0 o).cells ∧ h.1.2.1 - h0.1.2.1 + mms h o' ≤ (mRm (d + 1) h0 o).slots := ⟨hmono.2.1 hz0, hmono.2.2 hy0⟩
    have hsm : ((rest.map (vm_ φ)).map fun v => v.category).sum ≤ 8 := by rw [mcat_map]; exact hcat
    have hpre : ∀ U : State, U.heap = H → s.WarmedH U.vm → mPc V φ h as (as.map (vm_ φ)).toArray U := fun U hU hW => ⟨rfl, by rw [hU]; exact hc.1, mEnv_next hE hS hU hW, hr1⟩
    have hfix : CallFix p m c cc nL s args (mWs q0) own := ⟨hx, hb, hml, hown, hts⟩
    have hstk : (as.reverse ++ rest).map (vm_ φ) = (as.map (vm_ φ)).reverse ++ rest.map (vm_ φ) := by rw [List.map_append, List.map_reverse]
    rw [hstk]
    have hTx : ∀ q, T[x]? = some q → mokm q = true := hT x
    have common : ∀ q, T[x]? = some q → (iL q ≤ 40 ∧ mCw q ∈ mBT ∧ Cond.initialized (iY q).cls ∈ mBT ∧ (iY q).cls ≠ "java/lang/invoke/MethodHandle" ∧ (iY q).cls ≠ "java/lang/invoke/VarHandle" ∧ ((mRm d h o').frames + 1 ≤ (mRm (d + 1) h0 o).frames ∧ 8 + (iL q + 11) + (mRm d h o').locals ≤ (mRm (d + 1) h0 o).locals)) := by
      intro q hq
      have h1 := hTx q hq
      simp only [mokm, Bool.and_eq_true, decide_eq_true_eq] at h1
      refine ⟨h1.2.1, mwd_mem h1.2.2.1, mwd_mem h1.2.2.2.1, h1.1.2.1, h1.1.2.2, Nat.le_refl _, ?_⟩
      show 8 + (iL q + 11) + (150 + 60 * d) ≤ 150 + 60 * (d + 1)
      have := h1.2.1
      omega
    cases i <;> try (cases hok; done)
    case invokevirtual k =>
      have hok2 : (match T[x]? with
        | some q => decide (iK q = 1) && (decide (mnp q = some (y % 10 - 1) ∧ 0 < y % 10) && (decide ((vwCl[y / 100 % 100 - 1]?).map (fun r => r.1) = some (iY q).cls ∧ 0 < y / 100 % 100) && (match y / 10000 with
          | 0 => mwd w (.methodLink own k (iY q))
          | _ => mwd w (.methodLink own k (iY q)) || mnw w (.methodLinkNest own k (iY q) "BoilerTaps"))))
        | none => false) = true := by
        unfold mokc at hok
        dsimp only at hok
        split at hok <;> first | exact hok | (exfalso; omega)
      split at hok2
      · rename_i q hq
        obtain ⟨c1, c2, c3, c4, c5, c6⟩ := common q hq
        have h1 := hTx q hq
        simp only [Bool.and_eq_true, decide_eq_true_eq] at hok2
        obtain ⟨k1, ⟨k2, k2'⟩, ⟨k3, k3'⟩, k4⟩ := hok2
        simp only [mokm, Bool.and_eq_true, decide_eq_true_eq, k1] at h1
        have hcw : mCw q = .code (iY q) (iB q) (iL q) (iR q) := by unfold mCw; rw [k1]; rfl
        obtain ⟨a, t, rfl, hka⟩ := hrcv.resolve_left (by omega)
        obtain ⟨rr, hrr, hrn⟩ := Option.map_eq_some_iff.mp k3
        obtain ⟨jj, hjj⟩ : ∃ jj, y / 100 % 100 = jj + 1 := ⟨y / 100 % 100 - 1, by omega⟩
        rw [hjj] at hka hrr
        have hjl : jj < 13 := by
          have : jj + 1 - 1 < vwCl.length := (List.getElem?_eq_some_iff.mp hrr).1
          simpa [vwCl] using this
        obtain ⟨ki, -, hki⟩ := mW_get (V := V) (φ := φ) (mHp_dom hc.1 hka (by omega) (by omega))
        rw [ment_obj hka hjl] at hki
        have hrecv := va_recv hE.1 hc.1.1 (show vwCl[jj]? = some rr from hrr) hki
        rw [hrn] at hrecv
        have hpV : PreV s H (iY q).cls (φ a) (mPc V φ h (.ref a :: t)) (t.map (vm_ φ)) := ⟨mPc_blind, hrecv, hpre⟩
        have hlen : (t.map (vm_ φ)).length = y % 10 - 1 := by
          rw [List.length_map]
          simp only [List.length_cons] at has
          omega
        have hs2 : ((Value.ref a :: t).map (vm_ φ)).reverse ++ rest.map (vm_ φ) = (t.map (vm_ φ)).reverse ++ .ref (φ a) :: rest.map (vm_ φ) := by
          rw [List.map_cons, List.reverse_cons, List.append_assoc]
          rfl
        rw [hs2]
        have hM := gM q hq φ
        refine ⟨((Value.ref (φ a)) :: t.map (vm_ φ)).toArray, ?_⟩
        split at k4
        · exact vx_runV hfix hM ⟨callB_of (y % 10 - 1) hts (goodIn_ws c2) (by unfold mWs; rw [hcw]) rfl rfl (hword c3) (hword (mwd_mem k4)) ⟨c4, c5, k2⟩ c6, hword (mwd_mem h1.2.2.2.2.1), hword (mwd_mem h1.2.2.2.2.2.1)⟩ hpV rfl hlen hc.2.2.1.1 rfl (lv_room hsm) hdg hfit
        · rename_i hne
          simp only [Bool.or_eq_true] at k4
          rcases k4 with k4 | k4
          · exact vx_runV hfix hM ⟨callB_of (y % 10 - 1) hts (goodIn_ws c2) (by unfold mWs; rw [hcw]) rfl rfl (hword c3) (hword (mwd_mem k4)) ⟨c4, c5, k2⟩ c6, hword (mwd_mem h1.2.2.2.2.1), hword (mwd_mem h1.2.2.2.2.2.1)⟩ hpV rfl hlen hc.2.2.1.1 rfl (lv_room hsm) hdg hfit
          · have hM2 := vx_toMet (fun E st t q9 => hne (hthr E q9.1).1) hM
            exact run_of_va (va_runVN hfix hM2 ⟨va_cnB (y % 10 - 1) hts (goodIn_ws c2) (by unfold mWs; rw [hcw]) rfl rfl (hE.2.2.2.2.2.2.2.1 _ (mnw_mem k4)) (hword c3) ⟨c4, c5, k2⟩ c6, hword (mwd_mem h1.2.2.2.2.1), hword (mwd_mem h1.2.2.2.2.2.1)⟩ hpV rfl hlen hc.2.2.1.1 rfl (lv_room hsm) hdg hfit)
      · cases hok2
    case invokestatic k =>
      have hok2 : (match T[x]? with
        | some q => decide (mnp q = some (y % 10)) && (decide (y / 100 % 100 = 0) && (match iK q with
          | 0 => (match y / 10000 with
            | 0 => mwd w (.methodLink own k (iY q))
            | _ => mwd w (.methodLink own k (iY q)) || mnw w (.methodLinkNest own k (iY q) "BoilerTaps"))
          | 3 => decide (y / 10000 ≠ 0) && mwd w (.methodLink own k (iY q))
          | _ => false))
        | none => false) = true := by
        unfold mokc at hok
        dsimp only at hok
        split at hok <;> first | exact hok | (exfalso; omega)
      split at hok2
      · rename_i q hq
        obtain ⟨c1, c2, c3, c4, c5, c6⟩ := common q hq
        have h1 := hTx q hq
        simp only [Bool.and_eq_true, decide_eq_true_eq] at hok2
        obtain ⟨k2, k3, k4⟩ := hok2
        have hpS : PreS s H (mPc V φ h as) (as.map (vm_ φ)) := ⟨mPc_blind, hpre⟩
        have hlen : (as.map (vm_ φ)).length = y % 10 := by rw [List.length_map]; exact has
        have hM := gM q hq φ
        refine ⟨(as.map (vm_ φ)).toArray, ?_⟩
        split at k4
        · rename_i k1
          simp only [mokm, Bool.and_eq_true, decide_eq_true_eq, k1] at h1
          have hcw : mCw q = .code (iY q) (iB q) (iL q) (iR q) := by unfold mCw; rw [k1]; rfl
          split at k4
          · exact vx_runS hfix hM ⟨callB_of (y % 10) hts (goodIn_ws c2) (by unfold mWs; rw [hcw]) rfl rfl (hword c3) (hword (mwd_mem k4)) ⟨c4, c5, k2⟩ c6, hword (mwd_mem h1.2.2.2.2.1)⟩ hpS rfl hlen hc.2.2.1.1 rfl (lv_room hsm) hdg hfit
          · rename_i hne
            simp only [Bool.or_eq_true] at k4
            rcases k4 with k4 | k4
            · exact vx_runS hfix hM ⟨callB_of (y % 10) hts (goodIn_ws c2) (by unfold mWs; rw [hcw]) rfl rfl (hword c3) (hword (mwd_mem k4)) ⟨c4, c5, k2⟩ c6, hword (mwd_mem h1.2.2.2.2.1)⟩ hpS rfl hlen hc.2.2.1.1 rfl (lv_room hsm) hdg hfit
            · have hM2 := vx_toMet (fun E st t q9 => hne (hthr E q9.1).1) hM
              exact run_of_va (va_runSN hfix hM2 ⟨va_cnB (y % 10) hts (goodIn_ws c2) (by unfold mWs; rw [hcw]) rfl rfl (hE.2.2.2.2.2.2.2.1 _ (mnw_mem k4)) (hword c3) ⟨c4, c5, k2⟩ c6, hword (mwd_mem h1.2.2.2.2.1), trivial⟩ hpS rfl hlen hc.2.2.1.1 rfl (lv_room hsm) hdg hfit)
        · rename_i k1
          simp only [mokm, Bool.and_eq_true, decide_eq_true_eq, k1] at h1
          simp only [Bool.and_eq_true, decide_eq_true_eq] at k4
          have hcw : mCw q = .codeWith (iY q) (iB q) (iL q) (iR q) (iH q) := by unfold mCw; rw [k1]; rfl
          have hM2 := vx_toMet (fun E st t q9 => k4.1 (hthr E q9.1).1) hM
          refine run_of_va (vx_runSW (hh := iH q) hfix hM2 (vx_cwSW (y % 10) hts ?_ (by unfold mWs; rw [hcw]) rfl rfl ⟨c4, c5, k2⟩ c6) hpS rfl hlen hc.2.2.1.1 rfl (lv_room hsm) hdg hfit)
          intro w9 hw9
          unfold va_wsS at hw9
          rcases List.mem_append.mp hw9 with hw9 | hw9
          · have hb9 : w9 ∈ mBT := by
              simp only [List.mem_cons, List.not_mem_nil, or_false] at hw9
              rcases hw9 with rfl | rfl | rfl
              · exact mwd_mem k4.2
              · exact mwd_mem h1.2.2.2.2
              · exact c3
            exact ⟨List.mem_cons_of_mem _ hb9, good_of_word (List.mem_filter.mp hb9).2⟩
          · exact goodIn_ws c2 w9 hw9
        · cases k4
      · cases hok2
    case invokespecial k =>
      have hok2 : (match T[x]? with
        | some q => decide (iK q = 2) && (decide (mnp q = some (y % 10 - 1) ∧ 0 < y % 10) && (decide (0 < y / 100 % 100) && (decide (y / 10000 ≠ 0) && (mwd w (.methodLink own k (iY q)) || mnw w (.methodLinkNest own k (iY q) "BoilerTaps")))))
        | none => false) = true := by
        unfold mokc at hok
        dsimp only at hok
        split at hok <;> first | exact hok | (exfalso; omega)
      split at hok2
      · rename_i q hq
        obtain ⟨c1, c2, c3, c4, c5, c6⟩ := common q hq
        have h1 := hTx q hq
        simp only [Bool.and_eq_true, Bool.or_eq_true, decide_eq_true_eq] at hok2
        obtain ⟨k1, ⟨k2, k2'⟩, k3, k5, k4⟩ := hok2
        simp only [mokm, Bool.and_eq_true, decide_eq_true_eq, k1] at h1
        have hcw : mCw q = .code (iY q) (iB q) (iL q) none := by unfold mCw; rw [k1, h1.2.2.2.2.2.2.1]; rfl
        obtain ⟨a, t, rfl, hka⟩ := hrcv.resolve_left (by omega)
        have hpS : PreS s H (mPc V φ h (.ref a :: t)) (.ref (φ a) :: t.map (vm_ φ)) := ⟨mPc_blind, hpre⟩
        have hlen : (t.map (vm_ φ)).length = y % 10 - 1 := by
          rw [List.length_map]
          simp only [List.length_cons] at has
          omega
        have hs2 : ((Value.ref a :: t).map (vm_ φ)).reverse ++ rest.map (vm_ φ) = (t.map (vm_ φ)).reverse ++ .ref (φ a) :: rest.map (vm_ φ) := by
          rw [List.map_cons, List.reverse_cons, List.append_assoc]
          rfl
        rw [hs2]
        have hM2 := vx_toMet (fun E st t q9 => k5 (hthr E q9.1).1) (gM q hq φ)
        refine ⟨((Value.ref (φ a)) :: t.map (vm_ φ)).toArray, run_of_va ?_⟩
        rcases k4 with k4 | k4
        · exact va_runI hfix hM2 ⟨callB_of (y % 10 - 1) hts (goodIn_ws c2) (by unfold mWs; rw [hcw]) rfl rfl (hword c3) (hword (mwd_mem k4)) ⟨c4, c5, k2⟩ c6, h1.2.2.2.2.2.1, hword (mwd_mem h1.2.2.2.2.1)⟩ hpS rfl hlen hc.2.2.1.1 rfl (lv_room hsm) hdg hfit
        · exact va_runIN hfix hM2 ⟨va_cnB (y % 10 - 1) hts (goodIn_ws c2) (by unfold mWs; rw [hcw]) rfl rfl (hE.2.2.2.2.2.2.2.1 _ (mnw_mem k4)) (hword c3) ⟨c4, c5, k2⟩ c6, h1.2.2.2.2.2.1, hword (mwd_mem h1.2.2.2.2.1)⟩ hpS rfl hlen hc.2.2.1.1 rfl (lv_room hsm) hdg hfit
      · cases hok2
  · obtain ⟨-, he⟩ := hthr E ho
    obtain ⟨a1, a2, a3, a4⟩ := hX E o'.2 (gE E ho) he
    exact ⟨a1, fun φ' als H locs q ce hc h1 h2 h3 => a4 φ' als H locs q ce rest hc h1 h2 h3⟩
end CALL3
