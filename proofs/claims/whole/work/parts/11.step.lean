/-! the environment of a method, the check of a row, and the soundness of plain instructions -/
def mngw (w : Cond) : Bool := match w with
  | .castable .. => true
  | .declares .. => true
  | .methodLinkNest .. => true
  | _ => false
def mNG : List Cond := tables_1.filter mngw
def mstrs : List (String × Nat × String) := [
  ("BoilerTapsModel", 183, "snap"),
  ("BoilerTapsModel", 189, "slow"),
  ("BoilerTapsModel", 191, "draught"),
  ("BoilerTapsModel", 193, "room"),
  ("BoilerTapsModel", 195, "wall"),
  ("BoilerTapsModel", 197, "outer"),
  ("BoilerTapsModel", 199, "window"),
  ("BoilerTapsModel", 201, "sun"),
  ("BoilerTapsModel", 203, "radiator"),
  ("BoilerTapsModel", 205, "pump"),
  ("BoilerTapsModel", 207, "boiler"),
  ("BoilerTapsModel", 416, "meter"),
  ("BoilerTapsModel", 418, "size"),
  ("BoilerTapsModel", 419, "all"),
  ("BoilerTapsModel", 421, "many"),
  ("BoilerTapsModel", 423, "set"),
  ("BoilerTapsModel", 447, "or"),
  ("BoilerTapsModel", 456, "and"),
  ("BoilerTapsModel", 464, "not"),
  ("BoilerTapsModel", 466, "under"),
  ("BoilerTapsModel", 468, "over"),
  ("BoilerTapsModel", 470, "opened"),
  ("BoilerTapsModel", 472, "got"),
  ("BoilerTaps$Bill", 65, "meter size all many set"),
  ("BoilerTaps$Claim", 35, "or"),
  ("BoilerTaps$Claim", 48, "and"),
  ("BoilerTaps$Claim", 54, "under over opened got not"),
  ("BoilerTaps$House", 96, "room wall outer window sun radiator snap slow draught pump boiler")]
def mStr (V : mEv) (U : State) (H : Heap) : Prop := ∀ i : Nat, i < 28 → va_O "java/lang/String" (eK V i) (eA V) U H ∧ va_OF "java/lang/String" "coder" "B" (.int 0) (eK V i) (eA V) U H ∧ va_OF "java/lang/String" "value" "[B" (.ref (eV V i)) (eK V i) (eA V) U H ∧ va_T .byte (eV V i) (mtxs.getD i []).length (fun j => .int ((mtxs.getD i []).getD j 0)) (eA V) U H
def mSr (V : mEv) (U : State) : Prop := ∀ (i : Nat) (q : String × Nat × String), mstrs[i]? = some q → vk_R q.1 q.2.1 q.2.2 (eK V i) U
def mEnv (V : mEv) (U : State) : Prop :=
  va_K (eD V) vwCl (eT V) U ∧ eB V ≤ U.heap.size ∧ va_X (eS V) (eL V) (eX V) U U.heap ∧ eS V < eB V ∧ vx_Zq Bundle.tN "UNASSIGNED_STACK" Bundle.steD (eA V) U U.heap ∧ vx_Zq Bundle.tN "SUPPRESSED_SENTINEL" Bundle.listD (eA V) U U.heap ∧
  va_AO "BoilerTaps$Mark" U ∧ (∀ w ∈ mNG, va_Nw w U) ∧ mStr V U U.heap ∧ mSr V U ∧ va_Z "java/lang/String" "COMPACT_STRINGS" "Z" (.int 1) (eA V) U U.heap ∧ (∀ i j, i < 4 → j < 4 → i ≠ j → va_Nc (mexn i) (mexn j) U) ∧ va_Zq "jdk/internal/util/Preconditions" "SIOOBE_FORMATTER" "Ljava/util/function/BiFunction;" (eA V) U U.heap
def mBT : List Cond := lw_tbl.filter goodWord
/-- the words, in pieces: w is 1000 times the piece and a place in it -/
def mtb (k : Nat) : List Cond := match k with
  | 0 => k2_sels lw_privs
  | 1 => tables_1_1
  | 2 => tables_1_2
  | 3 => tables_1_3
  | 4 => tables_1_4
  | 5 => tables_1_5
  | 6 => tables_1_6
  | 7 => tables_1_7
  | 8 => tables_1_8
  | 9 => tables_1_9
  | _ => tables_1_10
theorem mtb_in {k : Nat} {x : Cond} (h : x ∈ mtb k) : x ∈ lw_tbl := by
  unfold lw_tbl
  unfold mtb at h
  split at h
  · exact List.mem_append_left _ h
  all_goals
    refine List.mem_append_right _ ?_
    unfold tables_1
    simp only [List.mem_append]
    simp only [h, true_or, or_true]
theorem mtb_in2 {k : Nat} {x : Cond} (h : x ∈ mtb (k + 1)) : x ∈ tables_1 := by
  unfold tables_1
  unfold mtb at h
  split at h
  · omega
  all_goals
    simp only [List.mem_append]
    simp only [h, true_or, or_true]
def mwd (w : Nat) (x : Cond) : Bool := decide ((mtb (w / 1000))[w % 1000]? = some x) && goodWord x
theorem mwd_mem {w : Nat} {x : Cond} (h : mwd w x = true) : x ∈ mBT := by
  simp only [mwd, Bool.and_eq_true, decide_eq_true_eq] at h
  exact List.mem_filter.mpr ⟨mtb_in (List.mem_of_getElem? h.1), h.2⟩
def mnw (w : Nat) (x : Cond) : Bool := decide (0 < w / 1000) && (decide ((mtb (w / 1000))[w % 1000]? = some x) && mngw x)
theorem mnw_mem {w : Nat} {x : Cond} (h : mnw w x = true) : x ∈ mNG := by
  simp only [mnw, Bool.and_eq_true, decide_eq_true_eq] at h
  obtain ⟨k, hk⟩ : ∃ k, w / 1000 = k + 1 := ⟨w / 1000 - 1, by omega⟩
  rw [hk] at h
  exact List.mem_filter.mpr ⟨mtb_in2 (List.mem_of_getElem? h.2.1), h.2.2⟩
def mlen (i : mI_) : Nat := match i with
  | .bipush _ | .ldc _ | .iload _ | .lload _ | .aload _ | .istore _ | .lstore _ | .astore _ | .newarray _ => 2
  | .sipush _ | .ldc_w _ | .ldc2_w _ | .iinc _ _ | .ifCond _ _ | .if_icmp _ _ | .goto _ | .ifnull _ | .ifnonnull _ | .getfield _ | .putfield _ | .invokevirtual _ | .invokestatic _ | .invokespecial _ | .new _ | .anewarray _ => 3
  | _ => 1
/-- a plain instruction's row is good -/
def mokx (own : String) (nL : Nat) (ini : Bool) (pc : Nat) (i : mI_) (x y w : Nat) (vi : Int32) (vl : Int64) : Bool := match i with
  | .iconst n => decide (Int32.ofInt n = vi)
  | .bipush n => decide ((Int8.ofInt n).toInt32 = vi)
  | .sipush n => decide ((Int16.ofInt n).toInt32 = vi)
  | .ldc k => (match y with
    | 0 => mwd w (.constant own k vi)
    | _ => (match x with
      | 0 => false
      | j + 1 => decide ((mstrs[j]?).map (fun q => (q.1, q.2.1)) = some (own, k)) && decide (j < 28)))
  | .ldc_w k => (match y with
    | 0 => mwd w (.constant own k vi)
    | _ => (match x with
      | 0 => false
      | j + 1 => decide ((mstrs[j]?).map (fun q => (q.1, q.2.1)) = some (own, k)) && decide (j < 28)))
  | .ldc2_w k => mwd w (.constantLong own k vl)
  | .lconst n => decide (Int64.ofNat n.val = vl)
  | .iload k => decide (k = x)
  | .lload k => decide (k = x)
  | .aload k => decide (k = x)
  | .iload_n k => decide (k.val = x)
  | .lload_n k => decide (k.val = x)
  | .aload_n k => decide (k.val = x)
  | .istore k => decide (k = x) && decide (x < nL)
  | .lstore k => decide (k = x) && decide (x + 1 < nL)
  | .astore k => decide (k = x) && decide (x < nL)
  | .istore_n k => decide (k.val = x) && decide (x < nL)
  | .lstore_n k => decide (k.val = x) && decide (x + 1 < nL)
  | .astore_n k => decide (k.val = x) && decide (x < nL)
  | .iinc k n => decide (k = x) && (decide (x < nL) && decide (Int32.ofInt n = vi))
  | .ifCond _ off => decide ((pc : Int) + off = (x : Int))
  | .if_icmp _ off => decide ((pc : Int) + off = (x : Int))
  | .goto off => decide ((pc : Int) + off = (x : Int))
  | .ifnull off => decide ((pc : Int) + off = (x : Int))
  | .ifnonnull off => decide ((pc : Int) + off = (x : Int))
  | .tableswitch d lo hi os => decide (0 ≤ (pc : Int) + d) && (os.toList.all (fun q => decide (0 ≤ (pc : Int) + q)) && (decide (lo + os.size = hi + 1) && (decide (-2147483648 ≤ lo) && decide (hi < 2147483648))))
  | .getfield k => decide (x < 13) && (decide (y < (mft.getD x []).length) && (match mfl own k x y with
    | some q => mwd w q
    | none => false))
  | .putfield k => decide (x < 13) && (decide (y < (mft.getD x []).length) && ((match mfl own k x y with
    | some q => mwd w q
    | none => false) && (mfw own ini x y && decide (mfk x y < 3))))
  | .iaload => decide (x = 20) || decide (x = 31)
  | .arraylength => decide (x = 20) || (decide (x = 21) || decide (x = 31))
  | .new k => decide (y = 0) && (decide (x < 13) && (match vwCl[x]? with
    | some q => mwd w (.classLink own k q.1)
    | none => false))
  | .newarray t => (match t with
    | .int => decide (x = 20)
    | .long => decide (x = 21)
    | _ => false)
  | .anewarray k => mwd w (.classLink own k "BoilerTaps$Mark")
  | .iadd | .isub | .imul | .iand | .ior | .ixor | .idiv | .irem | .ineg | .ishl | .ishr | .iushr | .ladd | .lsub | .lmul | .land | .lor | .ldiv | .lrem | .lshl | .lshr | .lushr | .lcmp | .i2l | .l2i | .dup | .pop | .dup2 | .iastore | .laload | .lastore | .aaload | .aastore => true
  | _ => false
/-- what stands fast in a method's body -/
def mCx (p : Program) (l : Launch) (R : Room) (s : State) (m : MethodId) (args : Array Value) (meth : Method) (c : Code) (V : mEv) (own : String) (cc : ByteArray) (nL : Nat) (Ts : List Cond) (ini : Bool) : Prop :=
  p.tables.exec = Jvm.exec ∧ c.code = cc ∧ c.maxLocals = nL ∧ s.vm.findClass own = some m.cls ∧ (∀ w ∈ Ts, w.before args s = true) ∧ mCls Ts ∧ meth.locks = false ∧ (ini = true → meth.name = "<init>") ∧ mEnv V s ∧ l.stackTraces = false ∧ 8 ≤ R.frames ∧ 150 ≤ R.locals ∧ (∀ w ∈ mBT, w ∈ Ts)
abbrev mWp (p : Program) (l : Launch) (e : Env) (R : Room) (s : State) (m : MethodId) (args : Array Value) (below : List Frame) (meth : Method) (c : Code) (Q : State → Prop) : mQ_ := fun pc als st H locs k n => W p l e R s m args below meth c H locs k n Q (F0 m pc als st)
theorem mrf_tl {z : Nat} {v : Value} {st : List Value} (h : mrf z (v :: st)) : mrf z st := (mrf_cons.mp h).2
theorem mrf_i {z : Nat} {v : Int32} {st : List Value} (h : mrf z st) : mrf z (.int v :: st) := mrf_cons.mpr ⟨fun _ e => (by cases e), h⟩
theorem mrf_l {z : Nat} {v : Int64} {st : List Value} (h : mrf z st) : mrf z (.long v :: st) := mrf_cons.mpr ⟨fun _ e => (by cases e), h⟩
theorem mrf_n {z : Nat} {st : List Value} (h : mrf z st) : mrf z (.null :: st) := mrf_cons.mpr ⟨fun _ e => (by cases e), h⟩
theorem mrf_r {z a : Nat} {st : List Value} (ha : a < z) (h : mrf z st) : mrf z (.ref a :: st) := mrf_cons.mpr ⟨fun _ e => (by cases e; exact ha), h⟩
theorem mrf_hd {z a : Nat} {st : List Value} (h : mrf z (.ref a :: st)) : a < z := (mrf_cons.mp h).1 a rfl
theorem mtsw_inv {pc : Nat} {d : Int} {v : Int32} {J : Nat → Option mO} {o : mO} : ∀ (os : List Int) (lo : Int), (-2147483648 ≤ lo) → (lo + os.length ≤ 2147483648) → mtsw pc d v J lo os = some o → (∃ (k : Nat) (q : Int), os[k]? = some q ∧ v.toInt = lo + (k : Int) ∧ J ((pc : Int) + q).toNat = some o) ∨ ((v.toInt < lo ∨ lo + os.length ≤ v.toInt) ∧ J ((pc : Int) + d).toNat = some o) := by
  intro os
  induction os with
  | nil =>
    intro lo h1 h2 h
    refine Or.inr ⟨?_, h⟩
    simp only [List.length_nil]
    omega
  | cons q os ih =>
    intro lo h1 h2 h
    simp only [List.length_cons] at h2
    unfold mtsw at h
    have e1 : (Int32.ofInt lo).toInt = lo := by
      rw [Int32.toInt_ofInt]
      exact Int.bmod_eq_of_le (by simp; omega) (by simp; omega)
    split at h
    · rename_i hv
      refine Or.inl ⟨0, q, rfl, ?_, h⟩
      rw [hv, e1]
      simp
    · rename_i hv
      have hne : v.toInt ≠ lo := fun e => hv (Int32.toInt_inj.mp (by rw [e1]; exact e))
      rcases ih (lo + 1) (by omega) (by omega) h with ⟨k, q', a1, a2, a3⟩ | ⟨a1, a2⟩
      · exact Or.inl ⟨k + 1, q', by simpa using a1, by rw [a2]; push_cast; omega, a3⟩
      · refine Or.inr ⟨?_, a2⟩
        simp only [List.length_cons]
        push_cast at a1 ⊢
        omega
