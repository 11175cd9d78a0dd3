/-! String.length and String.charAt, of the constants -/
theorem ds_coder_0 : decode cJ0_coder_7d493 0 = .ok (.getstatic 38, 3) := by decide +kernel
theorem ds_coder_3 : decode cJ0_coder_7d493 3 = .ok (.ifCond .eq 10, 3) := by decide +kernel
theorem ds_coder_6 : decode cJ0_coder_7d493 6 = .ok (.aload_n 0, 1) := by decide +kernel
theorem ds_coder_7 : decode cJ0_coder_7d493 7 = .ok (.getfield 15, 3) := by decide +kernel
theorem ds_coder_10 : decode cJ0_coder_7d493 10 = .ok (.goto 4, 3) := by decide +kernel
theorem ds_coder_13 : decode cJ0_coder_7d493 13 = .ok (.iconst 1, 1) := by decide +kernel
theorem ds_coder_14 : decode cJ0_coder_7d493 14 = .ok (.ireturn, 1) := by decide +kernel
theorem ds_length_0 : decode cJ0_length_8abf5 0 = .ok (.aload_n 0, 1) := by decide +kernel
theorem ds_length_1 : decode cJ0_length_8abf5 1 = .ok (.getfield 9, 3) := by decide +kernel
theorem ds_length_4 : decode cJ0_length_8abf5 4 = .ok (.arraylength, 1) := by decide +kernel
theorem ds_length_5 : decode cJ0_length_8abf5 5 = .ok (.aload_n 0, 1) := by decide +kernel
theorem ds_length_6 : decode cJ0_length_8abf5 6 = .ok (.invokevirtual 335, 3) := by decide +kernel
theorem ds_length_9 : decode cJ0_length_8abf5 9 = .ok (.ishr, 1) := by decide +kernel
theorem ds_length_10 : decode cJ0_length_8abf5 10 = .ok (.ireturn, 1) := by decide +kernel
theorem ds_isLatin1_0 : decode cJ0_isLatin1_aae02 0 = .ok (.getstatic 38, 3) := by decide +kernel
theorem ds_isLatin1_3 : decode cJ0_isLatin1_aae02 3 = .ok (.ifCond .eq 14, 3) := by decide +kernel
theorem ds_isLatin1_6 : decode cJ0_isLatin1_aae02 6 = .ok (.aload_n 0, 1) := by decide +kernel
theorem ds_isLatin1_7 : decode cJ0_isLatin1_aae02 7 = .ok (.getfield 15, 3) := by decide +kernel
theorem ds_isLatin1_10 : decode cJ0_isLatin1_aae02 10 = .ok (.ifCond .ne 7, 3) := by decide +kernel
theorem ds_isLatin1_13 : decode cJ0_isLatin1_aae02 13 = .ok (.iconst 1, 1) := by decide +kernel
theorem ds_isLatin1_14 : decode cJ0_isLatin1_aae02 14 = .ok (.goto 4, 3) := by decide +kernel
theorem ds_isLatin1_17 : decode cJ0_isLatin1_aae02 17 = .ok (.iconst 0, 1) := by decide +kernel
theorem ds_isLatin1_18 : decode cJ0_isLatin1_aae02 18 = .ok (.ireturn, 1) := by decide +kernel
theorem ds_charAt_0 : decode cJ0_charAt_5068e 0 = .ok (.aload_n 0, 1) := by decide +kernel
theorem ds_charAt_1 : decode cJ0_charAt_5068e 1 = .ok (.invokevirtual 492, 3) := by decide +kernel
theorem ds_charAt_4 : decode cJ0_charAt_5068e 4 = .ok (.ifCond .eq 12, 3) := by decide +kernel
theorem ds_charAt_7 : decode cJ0_charAt_5068e 7 = .ok (.aload_n 0, 1) := by decide +kernel
theorem ds_charAt_8 : decode cJ0_charAt_5068e 8 = .ok (.getfield 9, 3) := by decide +kernel
theorem ds_charAt_11 : decode cJ0_charAt_5068e 11 = .ok (.iload_n 1, 1) := by decide +kernel
theorem ds_charAt_12 : decode cJ0_charAt_5068e 12 = .ok (.invokestatic 495, 3) := by decide +kernel
theorem ds_charAt_15 : decode cJ0_charAt_5068e 15 = .ok (.ireturn, 1) := by decide +kernel
theorem ds_charAt_16 : decode cJ0_charAt_5068e 16 = .ok (.aload_n 0, 1) := by decide +kernel
theorem ds_charAt_17 : decode cJ0_charAt_5068e 17 = .ok (.getfield 9, 3) := by decide +kernel
theorem ds_charAt_20 : decode cJ0_charAt_5068e 20 = .ok (.iload_n 1, 1) := by decide +kernel
theorem ds_charAt_21 : decode cJ0_charAt_5068e 21 = .ok (.invokestatic 498, 3) := by decide +kernel
theorem ds_charAt_24 : decode cJ0_charAt_5068e 24 = .ok (.ireturn, 1) := by decide +kernel
theorem ds_checkIndex_0 : decode cJ0_checkIndex_df160 0 = .ok (.iload_n 0, 1) := by decide +kernel
theorem ds_checkIndex_1 : decode cJ0_checkIndex_df160 1 = .ok (.iload_n 1, 1) := by decide +kernel
theorem ds_checkIndex_2 : decode cJ0_checkIndex_df160 2 = .ok (.getstatic 1053, 3) := by decide +kernel
theorem ds_checkIndex_5 : decode cJ0_checkIndex_df160 5 = .ok (.invokestatic 1059, 3) := by decide +kernel
theorem ds_checkIndex_8 : decode cJ0_checkIndex_df160 8 = .ok (.pop, 1) := by decide +kernel
theorem ds_checkIndex_9 : decode cJ0_checkIndex_df160 9 = .ok (.return_, 1) := by decide +kernel
theorem ds_lcharAt_0 : decode cJ1_charAt_3b067 0 = .ok (.iload_n 1, 1) := by decide +kernel
theorem ds_lcharAt_1 : decode cJ1_charAt_3b067 1 = .ok (.aload_n 0, 1) := by decide +kernel
theorem ds_lcharAt_2 : decode cJ1_charAt_3b067 2 = .ok (.arraylength, 1) := by decide +kernel
theorem ds_lcharAt_3 : decode cJ1_charAt_3b067 3 = .ok (.invokestatic 9, 3) := by decide +kernel
theorem ds_lcharAt_6 : decode cJ1_charAt_3b067 6 = .ok (.aload_n 0, 1) := by decide +kernel
theorem ds_lcharAt_7 : decode cJ1_charAt_3b067 7 = .ok (.iload_n 1, 1) := by decide +kernel
theorem ds_lcharAt_8 : decode cJ1_charAt_3b067 8 = .ok (.baload, 1) := by decide +kernel
theorem ds_lcharAt_9 : decode cJ1_charAt_3b067 9 = .ok (.sipush 255, 3) := by decide +kernel
theorem ds_lcharAt_12 : decode cJ1_charAt_3b067 12 = .ok (.iand, 1) := by decide +kernel
theorem ds_lcharAt_13 : decode cJ1_charAt_3b067 13 = .ok (.i2c, 1) := by decide +kernel
theorem ds_lcharAt_14 : decode cJ1_charAt_3b067 14 = .ok (.ireturn, 1) := by decide +kernel
theorem ds_pcheck_0 : decode cJ3_checkIndex_8e157 0 = .ok (.iload_n 0, 1) := by decide +kernel
theorem ds_pcheck_1 : decode cJ3_checkIndex_8e157 1 = .ok (.ifCond .lt 8, 3) := by decide +kernel
theorem ds_pcheck_4 : decode cJ3_checkIndex_8e157 4 = .ok (.iload_n 0, 1) := by decide +kernel
theorem ds_pcheck_5 : decode cJ3_checkIndex_8e157 5 = .ok (.iload_n 1, 1) := by decide +kernel
theorem ds_pcheck_6 : decode cJ3_checkIndex_8e157 6 = .ok (.if_icmp .lt 10, 3) := by decide +kernel
theorem ds_pcheck_9 : decode cJ3_checkIndex_8e157 9 = .ok (.aload_n 2, 1) := by decide +kernel
theorem ds_pcheck_10 : decode cJ3_checkIndex_8e157 10 = .ok (.iload_n 0, 1) := by decide +kernel
theorem ds_pcheck_11 : decode cJ3_checkIndex_8e157 11 = .ok (.iload_n 1, 1) := by decide +kernel
theorem ds_pcheck_12 : decode cJ3_checkIndex_8e157 12 = .ok (.invokestatic 95, 3) := by decide +kernel
theorem ds_pcheck_15 : decode cJ3_checkIndex_8e157 15 = .ok (.athrow, 1) := by decide +kernel
theorem ds_pcheck_16 : decode cJ3_checkIndex_8e157 16 = .ok (.iload_n 0, 1) := by decide +kernel
theorem ds_pcheck_17 : decode cJ3_checkIndex_8e157 17 = .ok (.ireturn, 1) := by decide +kernel
theorem goodIn_b {w w' : Cond} (h : w' ∈ mBT) : GoodIn (w :: mBT) (w' :: mBT) := by
  intro x hx
  have hb : x ∈ mBT := by
    rcases List.mem_cons.mp hx with rfl | hx
    · exact h
    · exact hx
  exact ⟨List.mem_cons_of_mem _ hb, good_of_word (List.mem_filter.mp hb).2⟩
theorem mtx_ok : (mtxs.all fun t => t.all fun b => decide (((b &&& 255).toUInt32 % 65536).toInt32 = b) && decide (narrow .char (.int b) = .int b)) = true := by decide +kernel
theorem mtx_b {i k : Nat} (hi : i < 28) (hk : k < (mtxs.getD i []).length) : (((mtxs.getD i []).getD k 0 &&& 255).toUInt32 % 65536).toInt32 = (mtxs.getD i []).getD k 0 ∧ narrow .char (.int ((mtxs.getD i []).getD k 0)) = .int ((mtxs.getD i []).getD k 0) := by
  have h1 := List.all_eq_true.mp mtx_ok (mtxs.getD i []) (by
    rw [List.getD_eq_getElem?_getD, List.getElem?_eq_getElem (show i < mtxs.length from hi)]
    exact List.getElem_mem _)
  have h2 := List.all_eq_true.mp h1 ((mtxs.getD i []).getD k 0) (by
    rw [List.getD_eq_getElem?_getD (l := mtxs.getD i []), List.getElem?_eq_getElem hk]
    exact List.getElem_mem _)
  simp only [Bool.and_eq_true, decide_eq_true_eq] at h2
  exact h2
def mPs (V : mEv) (as : List Value) : Array Value → State → Prop := va_Pc as (fun U => mEnv V U)
theorem mPs_blind {V : mEv} {as : List Value} : FrameBlind (mPs V as) := fun a U g mk q => ⟨q.1, mEnv_same (u := U) (U := U.calling g mk a) rfl rfl q.2⟩
def mQv : Array Value → State → Outcome → State → Prop := fun _ st o t => o = .returned none ∧ t.heap = st.heap
theorem w_callv {p : Program} {l : Launch} {e : Env} {R : Room} {s : State} {m : MethodId} {args : Array Value} {below : List Frame} {meth : Method} {c : Code} {H : Heap} {locs : List Loc} {cells slots : Nat} {g : JFrame} {rest : List Value} {a : Array Value} {Q : State → Prop} (hr : CallRun p l e R s m args below meth c H locs cells slots 0 0 g rest (mQv a) (fun _ => False)) (kk : W p l e R s m args below meth c H locs cells slots Q { g with pc := g.pc + 3, stack := rest }) : W p l e R s m args below meth c H locs cells slots Q g := by
  intro T hT X
  obtain ⟨v, st₀, t, T', L, h0, X', hL, e1, ⟨hv, hh⟩, st⟩ := hr T hT X
  cases hv
  obtain ⟨t2, a1, b1⟩ := kk T' (by rw [e1, hh, h0]) (Stand.forget X' (fun q h => (hL q h).elim))
  exact ⟨t2, st t2 a1, b1⟩
set_option maxHeartbeats 4000000 in
theorem cs_coder (l : Launch) (V : mEv) {i : Nat} (hi : i < 28) : Met l yJ0_coder_7d493 (.code yJ0_coder_7d493 cJ0_coder_7d493 1 (some .byte) :: mBT) (k2_rm 0 0) (mPs V [.ref (eK V i)]) (QcRead 0) 0 0 (fun _ => False) := by
  refine Met.ofW (cc := cJ0_coder_7d493) (maxL := 1) (ret := some .byte) (by decide) rfl ?_
  intro p e s m args below meth c s₁ B hml hv
  obtain ⟨rfl, hE⟩ := hv
  have hx := B.exec
  have hb := B.bytes
  have hr := B.returns
  have hts := atoms_spec (ws := .code yJ0_coder_7d493 cJ0_coder_7d493 1 (some .byte) :: mBT) B.pre
  have hw : ∀ {w : Nat} {x : Cond}, mwd w x = true → x.before _ s = true := fun h => hts _ (List.mem_cons_of_mem _ (mwd_mem h))
  have hown : s.vm.findClass RJ0 = some m.cls := findClass_of_methodNamed B.named
  have hlocks := B.notSynchronized
  have hS : va_S (eA V) s.heap s.heap [] := va_S.rf
  have hl := lv_entry ([.ref (eK V i)]) (n := 1) (Nat.le_of_ble_eq_true rfl)
  rw [lg_entry_eq]
  generalize (lg_sl ([.ref (eK V i)]) ++ List.replicate (1 - (lg_sl ([.ref (eK V i)])).length) Slot.unset).toArray = ls at hl ⊢
  have hl : lv_has ls 1 [(0, .ref (eK V i))] := hl
  obtain ⟨-, -, -, -, -, -, -, -, hstr, -, hcmp, -, -⟩ := id hE
  refine va_gets hx hb hcmp hS hown (hw (w := 4055) (by decide +kernel)) (fun _ h => h) ds_coder_0 ?_
  refine lv_if_eq (tgt := 13) hx hb ds_coder_3 (by decide) (fun q => by cases q) (fun _ => ?_)
  refine lv_aload_n hx hb ds_coder_6 rfl (lv_at hl 0 rfl) ?_
  refine vk_getf hx hb (hstr i hi).2.1 hS hown (hw (w := 10062) (by decide +kernel)) (fun _ h => h) ds_coder_7 ?_
  refine lv_goto (tgt := 14) hx hb ds_coder_10 (by decide) ?_
  exact W.zret (v := 0) hx hb hr rfl (fun t ht hW => ⟨rfl, ht⟩) (fun _ h => by cases h) ds_coder_14
set_option maxHeartbeats 4000000 in
theorem cs_isLatin1 (l : Launch) (V : mEv) {i : Nat} (hi : i < 28) : Met l yJ0_isLatin1_aae02 (.code yJ0_isLatin1_aae02 cJ0_isLatin1_aae02 1 (some .boolean) :: mBT) (k2_rm 0 0) (mPs V [.ref (eK V i)]) (QcRead 1) 0 0 (fun _ => False) := by
  refine Met.ofW (cc := cJ0_isLatin1_aae02) (maxL := 1) (ret := some .boolean) (by decide) rfl ?_
  intro p e s m args below meth c s₁ B hml hv
  obtain ⟨rfl, hE⟩ := hv
  have hx := B.exec
  have hb := B.bytes
  have hr := B.returns
  have hts := atoms_spec (ws := .code yJ0_isLatin1_aae02 cJ0_isLatin1_aae02 1 (some .boolean) :: mBT) B.pre
  have hw : ∀ {w : Nat} {x : Cond}, mwd w x = true → x.before _ s = true := fun h => hts _ (List.mem_cons_of_mem _ (mwd_mem h))
  have hown : s.vm.findClass RJ0 = some m.cls := findClass_of_methodNamed B.named
  have hlocks := B.notSynchronized
  have hS : va_S (eA V) s.heap s.heap [] := va_S.rf
  have hl := lv_entry ([.ref (eK V i)]) (n := 1) (Nat.le_of_ble_eq_true rfl)
  rw [lg_entry_eq]
  generalize (lg_sl ([.ref (eK V i)]) ++ List.replicate (1 - (lg_sl ([.ref (eK V i)])).length) Slot.unset).toArray = ls at hl ⊢
  have hl : lv_has ls 1 [(0, .ref (eK V i))] := hl
  obtain ⟨-, -, -, -, -, -, -, -, hstr, -, hcmp, -, -⟩ := id hE
  refine va_gets hx hb hcmp hS hown (hw (w := 4055) (by decide +kernel)) (fun _ h => h) ds_isLatin1_0 ?_
  refine lv_if_eq (tgt := 17) hx hb ds_isLatin1_3 (by decide) (fun q => by cases q) (fun _ => ?_)
  refine lv_aload_n hx hb ds_isLatin1_6 rfl (lv_at hl 0 rfl) ?_
  refine vk_getf hx hb (hstr i hi).2.1 hS hown (hw (w := 10062) (by decide +kernel)) (fun _ h => h) ds_isLatin1_7 ?_
  refine lv_if_ne (tgt := 17) hx hb ds_isLatin1_10 (by decide) (fun q => absurd rfl q) (fun _ => ?_)
  refine lv_iconst (v := 1) hx hb ds_isLatin1_13 (by decide) ?_
  refine lv_goto (tgt := 18) hx hb ds_isLatin1_14 (by decide) ?_
  exact W.zret (v := 1) hx hb hr rfl (fun t ht hW => ⟨rfl, ht⟩) (fun _ h => by cases h) ds_isLatin1_18
set_option maxHeartbeats 4000000 in
theorem cs_length (l : Launch) (V : mEv) {i : Nat} (hi : i < 28) : Met l yJ0_length_8abf5 (.code yJ0_length_8abf5 cJ0_length_8abf5 1 (some .int) :: mBT) (k2_rm 1 30) (mPs V [.ref (eK V i)]) (QcRead (Int32.ofNat (mtxs.getD i []).length >>> ((0 : Int32) &&& 31))) 0 0 (fun _ => False) := by
  refine Met.ofW (cc := cJ0_length_8abf5) (maxL := 1) (ret := some .int) (by decide) rfl ?_
  intro p e s m args below meth c s₁ B hml hv
  obtain ⟨rfl, hE⟩ := hv
  have hx := B.exec
  have hb := B.bytes
  have hr := B.returns
  have hts := atoms_spec (ws := .code yJ0_length_8abf5 cJ0_length_8abf5 1 (some .int) :: mBT) B.pre
  have hw : ∀ {w : Nat} {x : Cond}, mwd w x = true → x.before _ s = true := fun h => hts _ (List.mem_cons_of_mem _ (mwd_mem h))
  have hown : s.vm.findClass RJ0 = some m.cls := findClass_of_methodNamed B.named
  have hlocks := B.notSynchronized
  have hS : va_S (eA V) s.heap s.heap [] := va_S.rf
  have hl := lv_entry ([.ref (eK V i)]) (n := 1) (Nat.le_of_ble_eq_true rfl)
  rw [lg_entry_eq]
  generalize (lg_sl ([.ref (eK V i)]) ++ List.replicate (1 - (lg_sl ([.ref (eK V i)])).length) Slot.unset).toArray = ls at hl ⊢
  have hl : lv_has ls 1 [(0, .ref (eK V i))] := hl
  obtain ⟨-, -, -, -, -, -, -, -, hstr, -, hcmp, -, -⟩ := id hE
  refine lv_aload_n hx hb ds_length_0 rfl (lv_at hl 0 rfl) ?_
  refine vk_getf hx hb (hstr i hi).2.2.1 hS hown (hw (w := 10061) (by decide +kernel)) (fun _ h => h) ds_length_1 ?_
  refine va_tlen hx hb (hstr i hi).2.2.2 hS rfl ds_length_4 ?_
  refine lv_aload_n hx hb ds_length_5 rfl (lv_at hl 0 rfl) ?_
  obtain ⟨cell, q1, q2, q3, -⟩ := (hstr i hi).1
  refine W.callR (W.runV (C := RJ0) (As := []) (rest := [.int (Int32.ofNat (mtxs.getD i []).length)]) ⟨hx, hb, hml, hown, hts⟩ (cs_coder l V hi) ⟨callB_of 0 hts (goodIn_b (mwd_mem (w := 4054) (by decide +kernel))) rfl rfl rfl (hw (w := 1019) (by decide +kernel)) (hw (w := 4051) (by decide +kernel)) (by decide +kernel) ⟨Nat.le_of_ble_eq_true rfl, Nat.le_of_ble_eq_true rfl⟩, hw (w := 4052) (by decide +kernel), hw (w := 4053) (by decide +kernel)⟩ ⟨mPs_blind, ⟨cell, q1, q2, q3⟩, fun U hU hW => ⟨rfl, mEnv_next hE hS hU hW⟩⟩ rfl rfl hl.1 rfl (lv_room (Nat.le_of_ble_eq_true rfl)) ds_length_6 ⟨Nat.le_refl _, Nat.le_refl _⟩) ?_
  refine lv_ishr hx hb ds_length_9 ?_
  exact W.iret hx hb hr (fun t ht hW => ⟨rfl, ht⟩) (fun _ h => by cases h) ds_length_10
set_option maxHeartbeats 4000000 in
theorem cs_pcheck (l : Launch) {a n : Int32} {fv : Value} (hf : fv = .null ∨ ∃ t, fv = .ref t) (h0 : ¬ a < 0) (h1 : a < n) : Met l yJ3_checkIndex_8e157 (.code yJ3_checkIndex_8e157 cJ3_checkIndex_8e157 3 (some .int) :: mBT) (k2_rm 0 0) (va_Pc [.int a, .int n, fv] (fun _ => True)) (QcRead a) 0 0 (fun _ => False) := by
  refine Met.ofW (cc := cJ3_checkIndex_8e157) (maxL := 3) (ret := some .int) (by decide) rfl ?_
  intro p e s m args below meth c s₁ B hml hv
  obtain ⟨rfl, -⟩ := hv
  have hx := B.exec
  have hb := B.bytes
  have hr := B.returns
  have hlocks := B.notSynchronized
  have hcat : fv.category = 1 := by rcases hf with rfl | ⟨t, rfl⟩ <;> rfl
  have hsz : (lg_sl ([.int a, .int n, fv])).length ≤ 3 := by rcases hf with rfl | ⟨t, rfl⟩ <;> exact Nat.le_of_ble_eq_true rfl
  have hl := lv_entry ([.int a, .int n, fv]) (n := 3) hsz
  rw [lg_entry_eq]
  generalize (lg_sl ([.int a, .int n, fv]) ++ List.replicate (3 - (lg_sl ([.int a, .int n, fv])).length) Slot.unset).toArray = ls at hl ⊢
  have hl : lv_has ls 3 [(0, .int a), (1, .int n), (2, fv)] := hl
  refine lv_iload_n hx hb ds_pcheck_0 rfl (lv_at hl 0 rfl) ?_
  refine lv_if_lt (tgt := 9) hx hb ds_pcheck_1 (by decide) (fun q => absurd q h0) (fun _ => ?_)
  refine lv_iload_n hx hb ds_pcheck_4 rfl (lv_at hl 0 rfl) ?_
  refine lv_iload_n hx hb ds_pcheck_5 rfl (lv_at hl 1 rfl) ?_
  refine lv_icmp_lt (tgt := 16) hx hb ds_pcheck_6 (by decide) (fun _ => ?_) (fun q => absurd h1 q)
  refine lv_iload_n hx hb ds_pcheck_16 rfl (lv_at hl 0 rfl) ?_
  exact W.iret hx hb hr (fun t ht hW => ⟨rfl, ht⟩) (fun _ h => by cases h) ds_pcheck_17
set_option maxHeartbeats 4000000 in
theorem cs_checkIndex (l : Launch) (V : mEv) {a n : Int32} (h0 : ¬ a < 0) (h1 : a < n) : Met l yJ0_checkIndex_df160 (.code yJ0_checkIndex_df160 cJ0_checkIndex_df160 2 none :: mBT) (k2_rm 1 30) (mPs V [.int a, .int n]) mQv 0 0 (fun _ => False) := by
  refine Met.ofW (cc := cJ0_checkIndex_df160) (maxL := 2) (ret := none) (by decide) rfl ?_
  intro p e s m args below meth c s₁ B hml hv
  obtain ⟨rfl, hE⟩ := hv
  have hx := B.exec
  have hb := B.bytes
  have hr := B.returns
  have hts := atoms_spec (ws := .code yJ0_checkIndex_df160 cJ0_checkIndex_df160 2 none :: mBT) B.pre
  have hw : ∀ {w : Nat} {x : Cond}, mwd w x = true → x.before _ s = true := fun h => hts _ (List.mem_cons_of_mem _ (mwd_mem h))
  have hown : s.vm.findClass RJ0 = some m.cls := findClass_of_methodNamed B.named
  have hlocks := B.notSynchronized
  have hS : va_S (eA V) s.heap s.heap [] := va_S.rf
  have hl := lv_entry ([.int a, .int n]) (n := 2) (Nat.le_of_ble_eq_true rfl)
  rw [lg_entry_eq]
  generalize (lg_sl ([.int a, .int n]) ++ List.replicate (2 - (lg_sl ([.int a, .int n])).length) Slot.unset).toArray = ls at hl ⊢
  have hl : lv_has ls 2 [(0, .int a), (1, .int n)] := hl
  obtain ⟨-, -, -, -, -, -, -, -, -, -, -, -, hfm⟩ := id hE
  obtain ⟨fv, hfv, hZ⟩ : ∃ fv : Value, (fv = .null ∨ ∃ t, fv = .ref t) ∧ va_Z "jdk/internal/util/Preconditions" "SIOOBE_FORMATTER" "Ljava/util/function/BiFunction;" fv (eA V) s s.heap := by
    rcases hfm with h | ⟨t, h⟩
    · exact ⟨_, Or.inl rfl, h⟩
    · exact ⟨_, Or.inr ⟨t, rfl⟩, h⟩
  refine lv_iload_n hx hb ds_checkIndex_0 rfl (lv_at hl 0 rfl) ?_
  refine lv_iload_n hx hb ds_checkIndex_1 rfl (lv_at hl 1 rfl) ?_
  refine va_gets hx hb hZ hS hown (hw (w := 4071) (by decide +kernel)) (fun _ h => h) ds_checkIndex_2 ?_
  refine W.callR (W.runS (As := [.int a, .int n, fv]) (rest := []) ⟨hx, hb, hml, hown, hts⟩ (cs_pcheck l hfv h0 h1) ⟨callB_of 3 hts (goodIn_b (mwd_mem (w := 4075) (by decide +kernel))) rfl rfl rfl (hw (w := 1021) (by decide +kernel)) (hw (w := 4073) (by decide +kernel)) (by decide +kernel) ⟨Nat.le_of_ble_eq_true rfl, Nat.le_of_ble_eq_true rfl⟩, hw (w := 4074) (by decide +kernel)⟩ ⟨fun _ _ _ _ q => q, fun U hU hW => ⟨rfl, trivial⟩⟩ rfl rfl hl.1 rfl (lv_room (Nat.le_of_ble_eq_true rfl)) ds_checkIndex_5 ⟨Nat.le_refl _, Nat.le_refl _⟩) ?_
  refine lv_pop hx hb ds_checkIndex_8 rfl ?_
  exact W.vret hx hb hr (fun t ht hW => ⟨rfl, ht⟩) (fun _ h => by cases h) ds_checkIndex_9
set_option maxHeartbeats 4000000 in
theorem cs_lcharAt (l : Launch) (V : mEv) {i : Nat} (hi : i < 28) {a : Int32} (h0 : ¬ a < 0) (h1 : a.toNatClampNeg < (mtxs.getD i []).length) (h2 : a < Int32.ofNat (mtxs.getD i []).length) : Met l yJ1_charAt_3b067 (.code yJ1_charAt_3b067 cJ1_charAt_3b067 2 (some .char) :: mBT) (k2_rm 2 60) (mPs V [.ref (eV V i), .int a]) (QcRead ((mtxs.getD i []).getD a.toNatClampNeg 0)) 0 0 (fun _ => False) := by
  refine Met.ofW (cc := cJ1_charAt_3b067) (maxL := 2) (ret := some .char) (by decide) rfl ?_
  intro p e s m args below meth c s₁ B hml hv
  obtain ⟨rfl, hE⟩ := hv
  have hx := B.exec
  have hb := B.bytes
  have hr := B.returns
  have hts := atoms_spec (ws := .code yJ1_charAt_3b067 cJ1_charAt_3b067 2 (some .char) :: mBT) B.pre
  have hw : ∀ {w : Nat} {x : Cond}, mwd w x = true → x.before _ s = true := fun h => hts _ (List.mem_cons_of_mem _ (mwd_mem h))
  have hown : s.vm.findClass RJ1 = some m.cls := findClass_of_methodNamed B.named
  have hlocks := B.notSynchronized
  have hS : va_S (eA V) s.heap s.heap [] := va_S.rf
  have hl := lv_entry ([.ref (eV V i), .int a]) (n := 2) (Nat.le_of_ble_eq_true rfl)
  rw [lg_entry_eq]
  generalize (lg_sl ([.ref (eV V i), .int a]) ++ List.replicate (2 - (lg_sl ([.ref (eV V i), .int a])).length) Slot.unset).toArray = ls at hl ⊢
  have hl : lv_has ls 2 [(0, .ref (eV V i)), (1, .int a)] := hl
  obtain ⟨-, -, -, -, -, -, -, -, hstr, -, -, -, -⟩ := id hE
  have hin : vp_in a (mtxs.getD i []).length := fun q => q.elim h0 (fun q => by omega)
  refine lv_iload_n hx hb ds_lcharAt_0 rfl (lv_at hl 1 rfl) ?_
  refine lv_aload_n hx hb ds_lcharAt_1 rfl (lv_at hl 0 rfl) ?_
  refine va_tlen hx hb (hstr i hi).2.2.2 hS rfl ds_lcharAt_2 ?_
  refine w_callv (W.runS (As := [.int a, .int (Int32.ofNat (mtxs.getD i []).length)]) (rest := []) ⟨hx, hb, hml, hown, hts⟩ (cs_checkIndex l V h0 h2) ⟨callB_of 2 hts (goodIn_b (mwd_mem (w := 4070) (by decide +kernel))) rfl rfl rfl (hw (w := 1019) (by decide +kernel)) (hw (w := 4068) (by decide +kernel)) (by decide +kernel) ⟨Nat.le_of_ble_eq_true rfl, Nat.le_of_ble_eq_true rfl⟩, hw (w := 4069) (by decide +kernel)⟩ ⟨mPs_blind, fun U hU hW => ⟨rfl, mEnv_next hE hS hU hW⟩⟩ rfl rfl hl.1 rfl (lv_room (Nat.le_of_ble_eq_true rfl)) ds_lcharAt_3 ⟨Nat.le_refl _, Nat.le_refl _⟩) ?_
  refine lv_aload_n hx hb ds_lcharAt_6 rfl (lv_at hl 0 rfl) ?_
  refine lv_iload_n hx hb ds_lcharAt_7 rfl (lv_at hl 1 rfl) ?_
  refine va_tb hx hb (hstr i hi).2.2.2 hS hin rfl ds_lcharAt_8 ?_
  refine lv_sipush (v := 255) hx hb ds_lcharAt_9 (by decide) ?_
  refine lv_iand hx hb ds_lcharAt_12 ?_
  refine lv_i2c hx hb ds_lcharAt_13 (mtx_b hi h1).1 ?_
  exact W.zret hx hb hr (mtx_b hi h1).2 (fun t ht hW => ⟨rfl, ht⟩) (fun _ h => by cases h) ds_lcharAt_14
set_option maxHeartbeats 4000000 in
theorem cs_charAt (l : Launch) (V : mEv) {i : Nat} (hi : i < 28) {a : Int32} (h0 : ¬ a < 0) (h1 : a.toNatClampNeg < (mtxs.getD i []).length) (h2 : a < Int32.ofNat (mtxs.getD i []).length) : Met l yJ0_charAt_5068e (.code yJ0_charAt_5068e cJ0_charAt_5068e 2 (some .char) :: mBT) (k2_rm 3 90) (mPs V [.ref (eK V i), .int a]) (QcRead ((mtxs.getD i []).getD a.toNatClampNeg 0)) 0 0 (fun _ => False) := by
  refine Met.ofW (cc := cJ0_charAt_5068e) (maxL := 2) (ret := some .char) (by decide) rfl ?_
  intro p e s m args below meth c s₁ B hml hv
  obtain ⟨rfl, hE⟩ := hv
  have hx := B.exec
  have hb := B.bytes
  have hr := B.returns
  have hts := atoms_spec (ws := .code yJ0_charAt_5068e cJ0_charAt_5068e 2 (some .char) :: mBT) B.pre
  have hw : ∀ {w : Nat} {x : Cond}, mwd w x = true → x.before _ s = true := fun h => hts _ (List.mem_cons_of_mem _ (mwd_mem h))
  have hown : s.vm.findClass RJ0 = some m.cls := findClass_of_methodNamed B.named
  have hlocks := B.notSynchronized
  have hS : va_S (eA V) s.heap s.heap [] := va_S.rf
  have hl := lv_entry ([.ref (eK V i), .int a]) (n := 2) (Nat.le_of_ble_eq_true rfl)
  rw [lg_entry_eq]
  generalize (lg_sl ([.ref (eK V i), .int a]) ++ List.replicate (2 - (lg_sl ([.ref (eK V i), .int a])).length) Slot.unset).toArray = ls at hl ⊢
  have hl : lv_has ls 2 [(0, .ref (eK V i)), (1, .int a)] := hl
  obtain ⟨-, -, -, -, -, -, -, -, hstr, -, -, -, -⟩ := id hE
  refine lv_aload_n hx hb ds_charAt_0 rfl (lv_at hl 0 rfl) ?_
  obtain ⟨cell, q1, q2, q3, -⟩ := (hstr i hi).1
  refine W.callR (W.runV (C := RJ0) (As := []) (rest := []) ⟨hx, hb, hml, hown, hts⟩ (cs_isLatin1 l V hi) ⟨callB_of 0 hts (goodIn_b (mwd_mem (w := 4064) (by decide +kernel))) rfl rfl rfl (hw (w := 1019) (by decide +kernel)) (hw (w := 4061) (by decide +kernel)) (by decide +kernel) ⟨Nat.le_of_ble_eq_true rfl, Nat.le_of_ble_eq_true rfl⟩, hw (w := 4062) (by decide +kernel), hw (w := 4063) (by decide +kernel)⟩ ⟨mPs_blind, ⟨cell, q1, q2, q3⟩, fun U hU hW => ⟨rfl, mEnv_next hE hS hU hW⟩⟩ rfl rfl hl.1 rfl (lv_room (Nat.le_of_ble_eq_true rfl)) ds_charAt_1 ⟨Nat.le_refl _, Nat.le_refl _⟩) ?_
  refine W.eq (g2 := F0 m 4 ls [.int 1]) rfl ?_
  refine lv_if_eq (tgt := 16) hx hb ds_charAt_4 (by decide) (fun q => by cases q) (fun _ => ?_)
  refine lv_aload_n hx hb ds_charAt_7 rfl (lv_at hl 0 rfl) ?_
  refine vk_getf hx hb (hstr i hi).2.2.1 hS hown (hw (w := 10061) (by decide +kernel)) (fun _ h => h) ds_charAt_8 ?_
  refine lv_iload_n hx hb ds_charAt_11 rfl (lv_at hl 1 rfl) ?_
  refine W.callR (W.runS (As := [.ref (eV V i), .int a]) (rest := []) ⟨hx, hb, hml, hown, hts⟩ (cs_lcharAt l V hi h0 h1 h2) ⟨callB_of 2 hts (goodIn_b (mwd_mem (w := 4067) (by decide +kernel))) rfl rfl rfl (hw (w := 1020) (by decide +kernel)) (hw (w := 4065) (by decide +kernel)) (by decide +kernel) ⟨Nat.le_of_ble_eq_true rfl, Nat.le_of_ble_eq_true rfl⟩, hw (w := 4066) (by decide +kernel)⟩ ⟨mPs_blind, fun U hU hW => ⟨rfl, mEnv_next hE hS hU hW⟩⟩ rfl rfl hl.1 rfl (lv_room (Nat.le_of_ble_eq_true rfl)) ds_charAt_12 ⟨Nat.le_refl _, Nat.le_refl _⟩) ?_
  exact W.zret hx hb hr (mtx_b hi h1).2 (fun t ht hW => ⟨rfl, ht⟩) (fun _ h => by cases h) ds_charAt_15
