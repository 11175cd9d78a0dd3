/-! the classes of the worlds; the main theorem -/
theorem mclw_0 : (u_ws RX0 TX0 6).all (fun w => decide (w ∈ lw_tbl) && goodWord w) = true := by decide +kernel
theorem mclt_0 : (List.range 6).all (fun k => mtyk (mfk 0 k) (tyX0 k)) = true := by decide +kernel
theorem mclw_1 : (u_ws RX1 TX1 1).all (fun w => decide (w ∈ lw_tbl) && goodWord w) = true := by decide +kernel
theorem mclt_1 : (List.range 1).all (fun k => mtyk (mfk 1 k) (tyX1 k)) = true := by decide +kernel
theorem mclw_2 : (u_ws RX2 TX2 4).all (fun w => decide (w ∈ lw_tbl) && goodWord w) = true := by decide +kernel
theorem mclt_2 : (List.range 4).all (fun k => mtyk (mfk 2 k) (tyX2 k)) = true := by decide +kernel
theorem mclw_3 : (u_ws RX3 TX3 4).all (fun w => decide (w ∈ lw_tbl) && goodWord w) = true := by decide +kernel
theorem mclt_3 : (List.range 4).all (fun k => mtyk (mfk 3 k) (tyX3 k)) = true := by decide +kernel
theorem mclw_4 : (u_ws RX4 TX4 19).all (fun w => decide (w ∈ lw_tbl) && goodWord w) = true := by decide +kernel
theorem mclt_4 : (List.range 19).all (fun k => mtyk (mfk 4 k) (tyX4 k)) = true := by decide +kernel
theorem mclw_5 : (u_ws RX5 TX5 3).all (fun w => decide (w ∈ lw_tbl) && goodWord w) = true := by decide +kernel
theorem mclt_5 : (List.range 3).all (fun k => mtyk (mfk 5 k) (tyX5 k)) = true := by decide +kernel
theorem mclw_6 : (u_ws RX6 TX6 4).all (fun w => decide (w ∈ lw_tbl) && goodWord w) = true := by decide +kernel
theorem mclt_6 : (List.range 4).all (fun k => mtyk (mfk 6 k) (tyX6 k)) = true := by decide +kernel
theorem mclw_7 : (u_ws RX7 TX7 11).all (fun w => decide (w ∈ lw_tbl) && goodWord w) = true := by decide +kernel
theorem mclt_7 : (List.range 11).all (fun k => mtyk (mfk 7 k) (tyX7 k)) = true := by decide +kernel
theorem mclw_8 : (u_ws RX8 TX8 19).all (fun w => decide (w ∈ lw_tbl) && goodWord w) = true := by decide +kernel
theorem mclt_8 : (List.range 19).all (fun k => mtyk (mfk 8 k) (tyX8 k)) = true := by decide +kernel
theorem mclw_9 : (u_ws RX9 TX9 3).all (fun w => decide (w ∈ lw_tbl) && goodWord w) = true := by decide +kernel
theorem mclt_9 : (List.range 3).all (fun k => mtyk (mfk 9 k) (tyX9 k)) = true := by decide +kernel
theorem mclw_10 : (u_ws RX10 TX10 8).all (fun w => decide (w ∈ lw_tbl) && goodWord w) = true := by decide +kernel
theorem mclt_10 : (List.range 8).all (fun k => mtyk (mfk 10 k) (tyX10 k)) = true := by decide +kernel
theorem mclw_11 : (u_ws RX11 TX11 16).all (fun w => decide (w ∈ lw_tbl) && goodWord w) = true := by decide +kernel
theorem mclt_11 : (List.range 16).all (fun k => mtyk (mfk 11 k) (tyX11 k)) = true := by decide +kernel
theorem mclw_12 : (u_ws RX12 TX12 57).all (fun w => decide (w ∈ lw_tbl) && goodWord w) = true := by decide +kernel
theorem mclt_12 : (List.range 57).all (fun k => mtyk (mfk 12 k) (tyX12 k)) = true := by decide +kernel
theorem mcl_one {C : String} {T : u_T} {N ci : Nat} {ty : Nat → FieldType} (h0 : vwCl[ci]? = some (C, T, N)) (h1 : (u_ws C T N).all (fun w => decide (w ∈ lw_tbl) && goodWord w) = true) (h2 : ∀ k, k < N → parseFieldDescriptor (T k).2.2.1 = some (ty k)) (h3 : ∀ a, a < N → ∀ b, b < N → a ≠ b → (T a).2.1 ≠ (T b).2.1) (h4 : N = (mft.getD ci []).length) (h5 : (List.range N).all (fun k => mtyk (mfk ci k) (ty k)) = true) : ∃ (C : String) (T : u_T) (N : Nat) (ty : Nat → FieldType), vwCl[ci]? = some (C, T, N) ∧ (∀ w ∈ u_ws C T N, w ∈ mBT) ∧ (∀ k, k < N → parseFieldDescriptor (T k).2.2.1 = some (ty k)) ∧ (∀ a, a < N → ∀ b, b < N → a ≠ b → (T a).2.1 ≠ (T b).2.1) ∧ N = (mft.getD ci []).length ∧ ∀ k, k < N → mtyk (mfk ci k) (ty k) = true := by
  refine ⟨C, T, N, ty, h0, fun w hw => ?_, h2, h3, h4, fun k hk => List.all_eq_true.mp h5 k (List.mem_range.mpr hk)⟩
  have := List.all_eq_true.mp h1 w hw
  simp only [Bool.and_eq_true, decide_eq_true_eq] at this
  exact List.mem_filter.mpr this
theorem mCls_ok : mCls mBT := by
  intro ci hci
  match ci, hci with
  | 0, _ => exact mcl_one (ty := tyX0) rfl mclw_0 tyX0_ok nmX0 rfl mclt_0
  | 1, _ => exact mcl_one (ty := tyX1) rfl mclw_1 tyX1_ok nmX1 rfl mclt_1
  | 2, _ => exact mcl_one (ty := tyX2) rfl mclw_2 tyX2_ok nmX2 rfl mclt_2
  | 3, _ => exact mcl_one (ty := tyX3) rfl mclw_3 tyX3_ok nmX3 rfl mclt_3
  | 4, _ => exact mcl_one (ty := tyX4) rfl mclw_4 tyX4_ok nmX4 rfl mclt_4
  | 5, _ => exact mcl_one (ty := tyX5) rfl mclw_5 tyX5_ok nmX5 rfl mclt_5
  | 6, _ => exact mcl_one (ty := tyX6) rfl mclw_6 tyX6_ok nmX6 rfl mclt_6
  | 7, _ => exact mcl_one (ty := tyX7) rfl mclw_7 tyX7_ok nmX7 rfl mclt_7
  | 8, _ => exact mcl_one (ty := tyX8) rfl mclw_8 tyX8_ok nmX8 rfl mclt_8
  | 9, _ => exact mcl_one (ty := tyX9) rfl mclw_9 tyX9_ok nmX9 rfl mclt_9
  | 10, _ => exact mcl_one (ty := tyX10) rfl mclw_10 tyX10_ok nmX10 rfl mclt_10
  | 11, _ => exact mcl_one (ty := tyX11) rfl mclw_11 tyX11_ok nmX11 rfl mclt_11
  | 12, _ => exact mcl_one (ty := tyX12) rfl mclw_12 tyX12_ok nmX12 rfl mclt_12
  | ci + 13, h => exact absurd h (by omega)
theorem mCls_sub {A B : List Cond} (h : mCls A) (hAB : ∀ w ∈ A, w ∈ B) : mCls B := by
  intro ci hci
  obtain ⟨C, T, N, ty, h1, h2, h3⟩ := h ci hci
  exact ⟨C, T, N, ty, h1, fun w hw => hAB w (h2 w hw), h3⟩
theorem mokl_sfx {T : List mMi} {own : String} {nL : Nat} {ret : Option FieldType} {ini tab : Bool} (c : Nat) : ∀ (rs : List mRow), mokl T own nL ret ini tab rs = true → mokl T own nL ret ini tab (msfx c rs) = true := by
  intro rs
  induction rs with
  | nil => intro h; exact h
  | cons r rs ih =>
    intro h
    unfold msfx
    split
    · exact h
    · simp only [mokl, Bool.and_eq_true] at h
      exact ih h.2
theorem msfx_head (c : Nat) : ∀ (rs : List mRow) (r : mRow) (t : List mRow), msfx c rs = r :: t → r.1 = c := by
  intro rs
  induction rs with
  | nil => intro r t h; cases h
  | cons q rs ih =>
    intro r t h
    unfold msfx at h
    split at h
    · rename_i hq
      cases h
      exact hq
    · exact ih r t h
section MAIN
variable {p : Program} {l : Launch} {e : Env} {s : State} {m : MethodId} {args : Array Value} {below : List Frame} {meth : Method} {c : Code}
variable {V : mEv} {d : Nat} {φ0 : Nat → Nat} {h0 : mH} {o : mO} {T : List mMi} {q0 : mMi}
abbrev mQm (below : List Frame) (V : mEv) (φ0 : Nat → Nat) (h0 : mH) (o : mO) (args : Array Value) (s : State) : State → Prop := vx_MQ below (mQc V φ0 h0 o) (mXC V φ0 h0 o) args s (mmc h0 o) (mms h0 o) (eA V)
set_option maxHeartbeats 4000000 in
theorem snd_row (hG : mGood l V T d) (hT : ∀ (j : Nat) (q : mMi), T[j]? = some q → mokm q = true) {own : String} {cc : ByteArray} {nL : Nat} {ret : Option FieldType} {ini tab : Bool} (C : mCx p l (mRm (d + 1) h0 o) s m args meth c V own cc nL (mWs q0) ini) (hr : meth.sig.returnType = ret) (htab : tab = false → ∀ x ∈ c.exceptionTable.toList, False) {r : mRow} {nxt : Nat} (hok : mokr T own nL ret ini tab r nxt = true) (hdc : mdc cc r = true) {hd : mHd} {cm : mCm} {K : mS} {nx : List Value → List Value → mH → Option mO} {ls st : List Value} {h : mH}
    (hK : ∀ c' ls st h, K c' ls st h = some o → mGo V s.heap nL φ0 h0 (mWp p l e (mRm (d + 1) h0 o) s m args below meth c (mQm below V φ0 h0 o args s)) o c' ls st h) (hN : ∀ ls st h, nx ls st h = some o → mGo V s.heap nL φ0 h0 (mWp p l e (mRm (d + 1) h0 o) s m args below meth c (mQm below V φ0 h0 o args s)) o nxt ls st h)
    (hX : ∀ ls, mHx p l e (mRm (d + 1) h0 o) s m args below meth c (mQm below V φ0 h0 o args s) V nL φ0 h0 o r.1 ls (mexc hd cm K r.1 ls))
    (hm : mstep (mcal T d) hd cm K nx r.1 r.2.1 r.2.2.1 r.2.2.2.1 r.2.2.2.2.2.2.1 r.2.2.2.2.2.2.2 ls st h = some o) : mGo V s.heap nL φ0 h0 (mWp p l e (mRm (d + 1) h0 o) s m args below meth c (mQm below V φ0 h0 o args s)) o r.1 ls st h := by
  obtain ⟨pc, i, x, y, w, f, vi, vl⟩ := r
  dsimp only at hok hX hm ⊢
  unfold mdc at hdc
  dsimp only at hdc
  rw [Bool.and_eq_true] at hdc
  obtain ⟨hd1, hd2⟩ := hdc
  obtain ⟨len, hdg, hlen⟩ : ∃ len, decode cc pc = .ok (i, len) ∧ (misTab i = true ∨ len = mlen i) := by
    split at hd1
    · rename_i q hq
      simp only [Bool.and_eq_true, Bool.or_eq_true, decide_eq_true_eq] at hd1
      exact ⟨q.2, by rw [hq, ← hd1.1], hd1.2⟩
    · cases hd1
  have hRc : o.2.1.1 - h0.1.1 ≤ (mRm (d + 1) h0 o).cells := Nat.le_add_right _ _
  have hRs : o.2.1.2.1 - h0.1.2.1 ≤ (mRm (d + 1) h0 o).slots := Nat.le_add_right _ _
  have hNw : ∀ (ci : Nat), ci < 13 → ∀ (C : String) (T : u_T) (N : Nat), vwCl[ci]? = some (C, T, N) → Cond.instantiable C N ∈ mWs q0 ∧ Cond.initialized C ∈ mWs q0 := by
    intro ci hci C T N hq
    have := List.all_eq_true.mp mNw_ok ci (List.mem_range.mpr hci)
    rw [hq] at this
    simp only [Bool.and_eq_true] at this
    exact ⟨List.mem_cons_of_mem _ (mwd_mem this.1), List.mem_cons_of_mem _ (mwd_mem this.2)⟩
  have hAr : (Cond.arrayClass .int).before args s = true ∧ (Cond.arrayClass .long).before args s = true := ⟨C.2.2.2.2.1 _ (List.mem_cons_of_mem _ (mwd_mem mAr_ok.1)), C.2.2.2.2.1 _ (List.mem_cons_of_mem _ (mwd_mem mAr_ok.2))⟩
  unfold mokr at hok
  dsimp only at hok
  split at hok
  · have hl1 : len = 1 := by
      rename_i hrt
      cases i <;> first | (cases hrt; done) | (rcases hlen with q | q <;> first | exact q | (cases q; done))
    subst hl1
    exact snd_ret C hr hdg hok hm
  · split at hok
    · rename_i hinv
      simp only [Bool.and_eq_true, decide_eq_true_eq] at hok
      obtain ⟨k2, rfl⟩ := hok
      have k1 : decode cc pc = .ok (i, 3) := by
        have hl3 : len = 3 := by
          cases i <;> first | (cases hinv; done) | (rcases hlen with q | q <;> first | exact q | (cases q; done))
        rw [← hl3]
        exact hdg
      have hm2 : minv (mcal T d) (mexc hd cm K pc ls) (fun st h => nx ls st h) x y st h = some o := by
        cases i <;> first | exact hm | (cases hinv; done)
      by_cases hx9 : x = 900 ∨ x = 901 ∨ x = 902 ∨ x = 903 ∨ x = 904 ∨ x = 905 ∨ x = 906 ∨ x = 907
      · exact snd_intr C hRc hRs k1 k2 hx9 hN hm2
      · have hx8 : x ≠ 900 ∧ x ≠ 901 ∧ x ≠ 902 ∧ x ≠ 903 ∧ x ≠ 904 ∧ x ≠ 905 ∧ x ≠ 906 ∧ x ≠ 907 := by omega
        have hm3 : mcall (mcal T d) (mexc hd cm K pc ls) (fun st h => nx ls st h) x y st h = some o := by
          unfold minv at hm2
          split at hm2 <;> first | exact hm2 | (exfalso; omega)
        exact snd_call hG hT C k1 k2 hx8 hN (hX ls) hm3
    · split at hok
      · rename_i hthr
        cases i with
        | new ik =>
          have hy : y ≠ 0 := of_decide_eq_true hthr
          simp only [mokt, Bool.and_eq_true, Bool.not_eq_true', decide_eq_true_eq] at hok
          obtain ⟨t0, rfl, hx4, tik⟩ := hok
          have tik2 : ik = (mIk x).1 := tik
          subst tik2
          have t1 : decode cc pc = .ok (.new (mIk x).1, 3) := by
            have hl3 : len = 3 := hlen.resolve_left (fun q => by cases q)
            rw [← hl3]
            exact hdg
          have hd3 : (decide (decode cc (pc + 3) = .ok (.dup, 1)) && (decide (decode cc (pc + 4) = .ok (.invokespecial (mIk x).2, 3)) && decide (decode cc (pc + 7) = .ok (.athrow, 1)))) = true := by
            rw [hthr] at hd2
            exact hd2
          simp only [Bool.and_eq_true, decide_eq_true_eq] at hd3
          obtain ⟨t2, t3, t4⟩ := hd3
          have hth := List.all_eq_true.mp mthr_ok x (List.mem_range.mpr hx4)
          simp only [Bool.and_eq_true] at hth
          obtain ⟨u1, u2, u3, u4, u5⟩ := hth
          have hts := C.2.2.2.2.1
          refine snd_throw C (Nat.le_refl _) (Nat.le_refl _) (htab t0) (names := mNms) rfl u5 (fun n hn => List.all_eq_true.mp mnms_ok n hn) (hts _ (List.mem_cons_of_mem _ (mwd_mem u1))) (hts _ (List.mem_cons_of_mem _ (mwd_mem u2))) ?_ (fun w hw => List.all_eq_true.mp u4 w hw) t1 t2 t3 t4 hy hm
          intro w9 hw9
          have h9 := List.all_eq_true.mp u3 w9 hw9
          simp only [Bool.or_eq_true, Bool.and_eq_true, decide_eq_true_eq] at h9
          rcases h9 with ⟨g1, g2⟩ | ⟨g1, g2⟩
          · exact hts _ (List.mem_cons_of_mem _ (List.mem_filter.mpr ⟨g2, g1⟩))
          · exact va_Nw.use (mngw_tab g1) (C.2.2.2.2.2.2.2.2.1.2.2.2.2.2.2.2.1 w9 (List.mem_filter.mpr ⟨g2, g1⟩))
        | _ => cases hthr
      · split at hok
        · rename_i htb
          cases i with
          | tableswitch dd lo hi os =>
            exact snd_plain (nx := fun _ _ _ => none) C hNw hAr hRc hRs hdg (Or.inr ⟨_, _, _, _, rfl⟩) hok hK (fun _ _ _ q => by cases q) (show mstep (mcal T d) hd cm K (fun _ _ _ => none) pc (.tableswitch dd lo hi os) x y vi vl ls st h = some o from hm)
          | _ => cases htb
        · rename_i hntb
          simp only [Bool.and_eq_true, decide_eq_true_eq] at hok
          obtain ⟨k2, rfl⟩ := hok
          exact snd_plain C hNw hAr hRc hRs hdg (Or.inl (hlen.resolve_left hntb)) k2 hK hN hm
end MAIN
