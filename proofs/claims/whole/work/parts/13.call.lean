/-! what a method owes: its end by the abstract outcome -/
def mQc (V : mEv) (φ0 : Nat → Nat) (h0 : mH) (o : mO) : Array Value → State → Outcome → State → Prop := fun _ st oc t => ∃ φ' : Nat → Nat, (∀ a, a < h0.1.1 → φ' a = φ0 a) ∧ (∃ ov, o.1 = .inl ov ∧ oc = .returned (ov.map (vm_ φ')) ∧ ∀ a, ov = some (.ref a) → a < o.2.1.1) ∧ mHp V φ' o.2 t.heap ∧ va_F (eA V) st t
def mXC (V : mEv) (φ0 : Nat → Nat) (h0 : mH) (o : mO) : String → State → State → Prop := fun E st t => o.1 = .inr E ∧ ∃ φ' : Nat → Nat, (∀ a, a < h0.1.1 → φ' a = φ0 a) ∧ mHp V φ' o.2 t.heap ∧ va_F (eA V) st t
def mex (o : mO) : Nat := match o.1 with
  | .inl _ => 0
  | .inr _ => 1
def mmc (h0 : mH) (o : mO) : Nat := o.2.1.1 - h0.1.1 + mex o
def mms (h0 : mH) (o : mO) : Nat := o.2.1.2.1 - h0.1.2.1 + 6 * mex o
theorem mHp_kept {V : mEv} {φ : Nat → Nat} {h : mH} {H H1 : Heap} (hP : mHp V φ h H) (hk : ∀ q : Nat, q < H.size → H1[q]? = H[q]?) : mHp V φ h H1 :=
  ⟨hP.1.kept (fun k q hq => hk q.1 (hP.1 k q hq).lt), hP.2⟩
section CALL
variable {p : Program} {l : Launch} {e : Env} {R : Room} {s : State} {m : MethodId} {args : Array Value} {below : List Frame} {meth : Method} {c : Code}
variable {cc : ByteArray} {pc : Nat} {V : mEv} {h : mH} {Ts : List Cond} {own : String} {nL : Nat} {ini : Bool} {φ0 : Nat → Nat} {h0 : mH} {o : mO} {ls st : List Value}
/-- a method's returns -/
def mokret (ret : Option FieldType) (i : mI_) (x : Nat) : Bool := match i with
  | .ireturn => (match x with
    | 0 => decide (ret = some .int)
    | _ => decide (ret = some .boolean))
  | .lreturn => decide (ret = some .long)
  | .return_ => decide (ret = none)
  | _ => false
theorem snd_ret {ret : Option FieldType} (C : mCx p l R s m args meth c V own cc nL Ts ini) (hr : meth.sig.returnType = ret) {i : mI_} {x y : Nat} {vi : Int32} {vl : Int64} (hdg : decode cc pc = .ok (i, 1)) (hok : mokret ret i x = true) {cal : mC} {hd : mHd} {cm : mCm} {K : mS} {nx : List Value → List Value → mH → Option mO}
    (hm : mstep cal hd cm K nx pc i x y vi vl ls st h = some o) : mGo V s.heap nL φ0 h0 (mWp p l e R s m args below meth c (vx_MQ below (mQc V φ0 h0 o) (mXC V φ0 h0 o) args s (mmc h0 o) (mms h0 o) (eA V))) o pc ls st h := by
  obtain ⟨hx, hb, hml, hown, hts, hcl, hlocks, -⟩ := C
  cases i <;> try (cases hok; done)
  case ireturn =>
    dsimp only [mstep] at hm
    split at hm
    · rename_i v
      cases x with
      | zero =>
        have hret : ret = some .int := of_decide_eq_true hok
        cases hm
        refine ⟨⟨Nat.le_refl _, Nat.le_refl _⟩, fun φ als H locs hc hs => vx_ret ?_⟩
        exact W.iret (v := v) hx hb (hr.trans hret) (fun t ht hW => ⟨φ, hc.2.2.2.1, ⟨_, rfl, rfl, fun a q => by cases q⟩, by rw [ht]; exact hc.1, hc.2.1.F ht⟩) hc.2.1.2.2 hdg hlocks
      | succ x =>
        have hret : ret = some .boolean := of_decide_eq_true hok
        obtain ⟨hv, hm2⟩ := mbool_inv hm
        cases hm2
        refine ⟨⟨Nat.le_refl _, Nat.le_refl _⟩, fun φ als H locs hc hs => vx_ret ?_⟩
        exact W.zret (v := v) hx hb (hr.trans hret) (by rcases hv with rfl | rfl <;> rfl) (fun t ht hW => ⟨φ, hc.2.2.2.1, ⟨_, rfl, rfl, fun a q => by cases q⟩, by rw [ht]; exact hc.1, hc.2.1.F ht⟩) hc.2.1.2.2 hdg hlocks
    · cases hm
  case lreturn =>
    dsimp only [mstep] at hm
    split at hm
    · rename_i v
      have hret : ret = some .long := of_decide_eq_true hok
      cases hm
      refine ⟨⟨Nat.le_refl _, Nat.le_refl _⟩, fun φ als H locs hc hs => vx_ret ?_⟩
      exact W.lret (v := v) hx hb (hr.trans hret) (fun t ht hW => ⟨φ, hc.2.2.2.1, ⟨_, rfl, rfl, fun a q => by cases q⟩, by rw [ht]; exact hc.1, hc.2.1.F ht⟩) hc.2.1.2.2 hdg hlocks
    · cases hm
  case return_ =>
    dsimp only [mstep] at hm
    split at hm
    · have hret : ret = none := of_decide_eq_true hok
      cases hm
      refine ⟨⟨Nat.le_refl _, Nat.le_refl _⟩, fun φ als H locs hc hs => vx_ret ?_⟩
      exact W.vret hx hb (hr.trans hret) (fun t ht hW => ⟨φ, hc.2.2.2.1, ⟨_, rfl, rfl, fun a q => by cases q⟩, by rw [ht]; exact hc.1, hc.2.1.F ht⟩) hc.2.1.2.2 hdg hlocks
    · cases hm
/-- 'throw new E()' -/
theorem snd_throw (C : mCx p l R s m args meth c V own cc nL Ts ini) (hRc : mmc h0 o ≤ R.cells) (hRs : mms h0 o ≤ R.slots) (hout : ∀ x ∈ c.exceptionTable.toList, False) {ik ic x y : Nat} {vi : Int32} {vl : Int64} {names : List String} (hnl : names.length = 2) (hfit : Bundle.fit (mexn x) = true) (hfits : ∀ n ∈ names, Bundle.fit n = true)
    (hk : (Cond.classLink own ik (mexn x)).before args s = true) (hini : (Cond.initialized (mexn x)).before args s = true) (hat : ∀ w ∈ vx_at0 own ic (mexn x) names, w.before args s = true) (hgood : ∀ w ∈ Cond.classLink own ik (mexn x) :: Cond.initialized (mexn x) :: vx_at0 own ic (mexn x) names, vx_ot w = true)
    (d0 : decode cc pc = .ok (.new ik, 3)) (d3 : decode cc (pc + 3) = .ok (.dup, 1)) (d4 : decode cc (pc + 4) = .ok (.invokespecial ic, 3)) (d7 : decode cc (pc + 7) = .ok (.athrow, 1)) (hy : y ≠ 0) {cal : mC} {hd : mHd} {cm : mCm} {K : mS} {nx : List Value → List Value → mH → Option mO}
    (hm : mstep cal hd cm K nx pc (.new ik) x y vi vl ls st h = some o) : mGo V s.heap nL φ0 h0 (mWp p l e R s m args below meth c (vx_MQ below (mQc V φ0 h0 o) (mXC V φ0 h0 o) args s (mmc h0 o) (mms h0 o) (eA V))) o pc ls st h := by
  obtain ⟨hx, hb, hml, hown, hts, hcl, hlocks, -, hE, hst, hfr, hlo, -⟩ := C
  obtain ⟨-, -, -, -, hU, hN, -⟩ := hE
  cases y with
  | zero => exact absurd rfl hy
  | succ y =>
    cases st with
    | cons v st => cases (show (none : Option mO) = some o from hm)
    | nil =>
      cases (show some ((.inr (mexn x), h) : mO) = some o from hm)
      refine ⟨⟨Nat.le_refl _, Nat.le_refl _⟩, fun φ als H locs hc hs => ?_⟩
      have e1 : mmc h0 (.inr (mexn x), h) = h.1.1 - h0.1.1 + 1 := rfl
      have e2 : mms h0 (.inr (mexn x), h) = h.1.2.1 - h0.1.2.1 + 6 := rfl
      refine vx_throw0 (rest := []) (A := eA V) (names := names) hx hb hst hown hfit hfits hk hini hat hgood hU hN hc.2.1 (hc.2.2.1.1.trans hml.symm) d0 d3 d4 d7 (fun x hx => (hout x hx).elim) (by rw [hnl]; omega) (by rw [hnl]; simp only [List.map_nil, List.sum_nil]; omega) (by rw [← e1]; exact hRc) (by rw [← e2]; exact hRs) hlocks ?_ hc.2.1.2.2 (Nat.le_refl _) (Nat.le_refl _)
      intro t hvm hz hk2
      refine ⟨rfl, φ, hc.2.2.2.1, mHp_kept hc.1 hk2, Nat.le_trans hc.2.1.1 hz, fun q q1 q2 => ?_⟩
      rw [hk2 q (Nat.lt_of_lt_of_le q1 hc.2.1.1)]
      exact hc.2.1.2.1 q q1 q2
end CALL
