/-! methods by their numbers -/
/-- name, bytes, locals, what it returns, kind (0 static, 1 instance, 2 constructor, 3 static with a table), its table, words, rows, handlers, cuts -/
abbrev mMi : Type := MethodName × ByteArray × Nat × Option FieldType × Nat × List (Nat × Nat × Nat × Nat) × List Nat × List mRow × mHd × mCm
abbrev iY (q : mMi) : MethodName := q.1
abbrev iB (q : mMi) : ByteArray := q.2.1
abbrev iL (q : mMi) : Nat := q.2.2.1
abbrev iR (q : mMi) : Option FieldType := q.2.2.2.1
abbrev iK (q : mMi) : Nat := q.2.2.2.2.1
abbrev iH (q : mMi) : List (Nat × Nat × Nat × Nat) := q.2.2.2.2.2.1
abbrev iW (q : mMi) : List Nat := q.2.2.2.2.2.2.1
abbrev iC (q : mMi) : List mRow := q.2.2.2.2.2.2.2.1
abbrev iD (q : mMi) : mHd := q.2.2.2.2.2.2.2.2.1
abbrev iM (q : mMi) : mCm := q.2.2.2.2.2.2.2.2.2
noncomputable def mcal (T : List mMi) : Nat → mC
  | 0 => fun _ _ _ => none
  | d + 1 => fun j as h => match T[j]? with
    | some q => if (mlay as).length ≤ iL q then mfx (mcal T d) (iD q) (iM q) (iC q) 0 (mpad as (iL q)) [] h else none
    | none => none
def mCw (q : mMi) : Cond := match iK q with
  | 3 => .codeWith (iY q) (iB q) (iL q) (iR q) (iH q)
  | _ => .code (iY q) (iB q) (iL q) (iR q)
def mWs (q : mMi) : List Cond := mCw q :: mBT
def mRm (d : Nat) (h : mH) (o : mO) : Room := { frames := 8 + d, cells := mmc h o, slots := mms h o, locals := 150 + 60 * d }
/-- the words of a callee: its code, static or instance, what is selected, its class initialised -/
def mokm (q : mMi) : Bool :=
  (plainName (iY q).cls && (decide ((iY q).cls ≠ "java/lang/invoke/MethodHandle") && decide ((iY q).cls ≠ "java/lang/invoke/VarHandle"))) && (decide (iL q ≤ 40) && (mwd ((iW q).getD 0 0) (mCw q) && (mwd ((iW q).getD 1 0) (.initialized (iY q).cls) && (match iK q with
  | 0 => mwd ((iW q).getD 2 0) (.static (iY q)) && decide (iH q = [] ∧ iD q = [])
  | 1 => mwd ((iW q).getD 2 0) (.instanceMethod (iY q)) && (mwd ((iW q).getD 3 0) (.selects (iY q).cls (iY q) (iY q)) && decide (iH q = [] ∧ iD q = []))
  | 2 => mwd ((iW q).getD 2 0) (.instanceMethod (iY q)) && (decide ((iY q).name = "<init>") && (decide (iR q = none) && decide (iH q = [] ∧ iD q = [])))
  | 3 => mwd ((iW q).getD 2 0) (.static (iY q))
  | _ => false))))
def mnp (q : mMi) : Option Nat := (parseMethodDescriptor (iY q).desc).map (fun d => d.parameters.length)
def mLen : MethodName := ⟨"java/lang/String", "length", "()I"⟩
def mCha : MethodName := ⟨"java/lang/String", "charAt", "(I)C"⟩
/-- the check of an invocation -/
def mokc (T : List mMi) (own : String) (i : mI_) (x y w : Nat) : Bool := match i with
  | .invokevirtual k => (match x with
    | 900 => mwd w (.methodLink own k mLen)
    | 901 => mwd w (.methodLink own k mCha)
    | 902 => false
    | 903 => false
    | 904 => false
    | 905 => false
    | 906 => false
    | 907 => false
    | x => (match T[x]? with
      | some q => decide (iK q = 1) && (decide (mnp q = some (y % 10 - 1) ∧ 0 < y % 10) && (decide ((vwCl[y / 100 % 100 - 1]?).map (fun r => r.1) = some (iY q).cls ∧ 0 < y / 100 % 100) && (match y / 10000 with
        | 0 => mwd w (.methodLink own k (iY q))
        | _ => mwd w (.methodLink own k (iY q)) || mnw w (.methodLinkNest own k (iY q) "BoilerTaps"))))
      | none => false))
  | .invokestatic k => (match x with
    | 900 => false
    | 901 => false
    | 902 => mwd w (.methodLink own k arraycopyName)
    | 903 => false
    | 904 => mwd w (.methodLink own k arraycopyName)
    | 905 => mwd w (.methodLink own k Lib.Math.max.name)
    | 906 => mwd w (.methodLink own k Lib.Math.min.name)
    | 907 => mwd w (.methodLink own k Lib.Math.abs.name)
    | x => (match T[x]? with
      | some q => decide (mnp q = some (y % 10)) && (decide (y / 100 % 100 = 0) && (match iK q with
        | 0 => (match y / 10000 with
          | 0 => mwd w (.methodLink own k (iY q))
          | _ => mwd w (.methodLink own k (iY q)) || mnw w (.methodLinkNest own k (iY q) "BoilerTaps"))
        | 3 => decide (y / 10000 ≠ 0) && mwd w (.methodLink own k (iY q))
        | _ => false))
      | none => false))
  | .invokespecial k => (match x with
    | 900 => false
    | 901 => false
    | 902 => false
    | 903 => mwd w (.methodLink own k objectInit)
    | 904 => false
    | 905 => false
    | 906 => false
    | 907 => false
    | x => (match T[x]? with
      | some q => decide (iK q = 2) && (decide (mnp q = some (y % 10 - 1) ∧ 0 < y % 10) && (decide (0 < y / 100 % 100) && (decide (y / 10000 ≠ 0) && (mwd w (.methodLink own k (iY q)) || mnw w (.methodLinkNest own k (iY q) "BoilerTaps")))))
      | none => false))
  | _ => false
/-- what is known of the callees at depth d -/
def mGood (l : Launch) (V : mEv) (T : List mMi) (d : Nat) : Prop := ∀ j as h o', mcal T d j as h = some o' → (h.1.1 ≤ o'.2.1.1 ∧ h.1.2.1 ≤ o'.2.1.2.1) ∧ (∀ E, o'.1 = .inr E → ∃ k, k < 4 ∧ E = mexn k) ∧ ∀ q, T[j]? = some q → ∀ φ, vx_Met l (iY q) (mWs q) (mRm d h o') (mPc V φ h as) (mQc V φ h o') (mXC V φ h o') (mmc h o') (mms h o') (eA V)
theorem vx_toMet {l : Launch} {y : MethodName} {ws : List Cond} {rm : Room} {Pc : Array Value → State → Prop} {Qc : Array Value → State → Outcome → State → Prop} {XC : String → State → State → Prop} {mc ms : Nat} {free : Addr → Prop} (hX : ∀ E st t, ¬ XC E st t) (h : vx_Met l y ws rm Pc Qc XC mc ms free) : Met l y ws rm Pc Qc mc ms free := by
  intro p e a1 a2 a3 s m args below b1 b2 b3 b4
  obtain ⟨n, o, c1, c2, c3, c4⟩ := h p e a1 a2 a3 s m args below b1 b2 b3 b4
  refine ⟨n, o, c1, c2, c3, ?_⟩
  rcases c4 with c4 | ⟨q, -, E, ce, L, hx, -⟩
  · exact c4
  · exact (hX _ _ _ hx).elim
theorem run_of_va {p : Program} {l : Launch} {e : Env} {R : Room} {s : State} {m : MethodId} {args : Array Value} {below : List Frame} {meth : Method} {c : Code} {H : Heap} {locs : List Loc} {cells slots mc ms : Nat} {g : JFrame} {rest : List Value} {Qa : State → Outcome → State → Prop} {XC : String → State → State → Prop} {free : Addr → Prop}
    (h : va_Run p l e R s m args below meth c H locs cells slots mc ms g rest Qa free) : vx_Run p l e R s m args below meth c H locs cells slots mc ms g rest Qa XC free := fun T hT X => Or.inl (h T hT X)
theorem goodIn_ws {q q' : mMi} (h : mCw q' ∈ mBT) : GoodIn (mWs q) (mWs q') := by
  intro w hw
  have hb : w ∈ mBT := by
    rcases List.mem_cons.mp hw with rfl | hw
    · exact h
    · exact hw
  exact ⟨List.mem_cons_of_mem _ hb, good_of_word (List.mem_filter.mp hb).2⟩
