/-! blocks, runs, methods -/
theorem msfx_sub (c : Nat) : ∀ (rs : List mRow) (x : mRow), x ∈ msfx c rs → x ∈ rs := by
  intro rs
  induction rs with
  | nil => intro x h; exact h
  | cons r rs ih =>
    intro x h
    unfold msfx at h
    split at h
    · exact h
    · exact List.mem_cons_of_mem _ (ih x h)
section MAIN2
variable {p : Program} {l : Launch} {e : Env} {s : State} {m : MethodId} {args : Array Value} {below : List Frame} {meth : Method} {c : Code}
variable {V : mEv} {d : Nat} {φ0 : Nat → Nat} {h0 : mH} {o : mO} {T : List mMi} {q0 : mMi}
theorem snd_blk (hG : mGood l V T d) (hT : ∀ (j : Nat) (q : mMi), T[j]? = some q → mokm q = true) {own : String} {cc : ByteArray} {nL : Nat} {ret : Option FieldType} {ini tab : Bool} (C : mCx p l (mRm (d + 1) h0 o) s m args meth c V own cc nL (mWs q0) ini) (hr : meth.sig.returnType = ret) (htab : tab = false → ∀ x ∈ c.exceptionTable.toList, False) {hd : mHd} {cm : mCm} {K : mS}
    (hK : ∀ c' ls st h, K c' ls st h = some o → mGo V s.heap nL φ0 h0 (mWp p l e (mRm (d + 1) h0 o) s m args below meth c (mQm below V φ0 h0 o args s)) o c' ls st h)
    (hX : ∀ pc ls, mHx p l e (mRm (d + 1) h0 o) s m args below meth c (mQm below V φ0 h0 o args s) V nL φ0 h0 o pc ls (mexc hd cm K pc ls)) :
    ∀ (rs : List mRow) (r : mRow), mokl T own nL ret ini tab (r :: rs) = true → (∀ x ∈ r :: rs, mdc cc x = true) → ∀ ls st h, mblk (mcal T d) hd cm K (r :: rs) ls st h = some o → mGo V s.heap nL φ0 h0 (mWp p l e (mRm (d + 1) h0 o) s m args below meth c (mQm below V φ0 h0 o args s)) o r.1 ls st h := by
  intro rs
  induction rs with
  | nil =>
    intro r hok hdc ls st h hm
    simp only [mokl, Bool.and_eq_true] at hok
    exact snd_row hG hT C hr htab hok.1 (hdc r List.mem_cons_self) hK (fun ls st h q => by cases q) (hX r.1) hm
  | cons r2 rs ih =>
    intro r hok hdc ls st h hm
    have hok2 : mokr T own nL ret ini tab r r2.1 = true ∧ mokl T own nL ret ini tab (r2 :: rs) = true := by
      have := hok
      rw [mokl, Bool.and_eq_true] at this
      exact this
    refine snd_row hG hT C hr htab hok2.1 (hdc r List.mem_cons_self) hK (fun ls st h q => ?_) (hX r.1) hm
    dsimp only at q
    split at q
    · exact ih r2 hok2.2 (fun x hx => hdc x (List.mem_cons_of_mem _ hx)) ls st h q
    · exact go_norm _ (hK _ _ _ _ q)
theorem snd_run (hG : mGood l V T d) (hT : ∀ (j : Nat) (q : mMi), T[j]? = some q → mokm q = true) {own : String} {cc : ByteArray} {nL : Nat} {ret : Option FieldType} {ini tab : Bool} (C : mCx p l (mRm (d + 1) h0 o) s m args meth c V own cc nL (mWs q0) ini) (hr : meth.sig.returnType = ret) (htab : tab = false → ∀ x ∈ c.exceptionTable.toList, False) {hd : mHd} {cm : mCm} {code : List mRow} (hok : mokl T own nL ret ini tab code = true) (hdc : ∀ x ∈ code, mdc cc x = true)
    (hX : ∀ n, (∀ c' ls st h, mrun (mcal T d) hd cm code n c' ls st h = some o → mGo V s.heap nL φ0 h0 (mWp p l e (mRm (d + 1) h0 o) s m args below meth c (mQm below V φ0 h0 o args s)) o c' ls st h) → ∀ pc ls, mHx p l e (mRm (d + 1) h0 o) s m args below meth c (mQm below V φ0 h0 o args s) V nL φ0 h0 o pc ls (mexc hd cm (mrun (mcal T d) hd cm code n) pc ls)) :
    ∀ (n : Nat) (c' : Nat) (ls st : List Value) (h : mH), mrun (mcal T d) hd cm code n c' ls st h = some o → mGo V s.heap nL φ0 h0 (mWp p l e (mRm (d + 1) h0 o) s m args below meth c (mQm below V φ0 h0 o args s)) o c' ls st h := by
  intro n
  induction n with
  | zero => intro c' ls st h hm; cases hm
  | succ n ih =>
    intro c' ls st h hm
    have hm2 : mblk (mcal T d) hd cm (mrun (mcal T d) hd cm code n) (msfx c' code) ls st h = some o := hm
    cases hs : msfx c' code with
    | nil => rw [hs] at hm2; cases hm2
    | cons r rs =>
      rw [hs] at hm2
      have h1 := msfx_head c' code r rs hs
      have h2 : mokl T own nL ret ini tab (r :: rs) = true := by rw [← hs]; exact mokl_sfx c' code hok
      have := snd_blk hG hT C hr htab ih (hX n ih) rs r h2 (fun x hx => hdc x (msfx_sub c' code x (by rw [hs]; exact hx))) ls st h hm2
      rw [h1] at this
      exact this
/-- no table -/
theorem hx_none {R : Room} {nL : Nat} {cm : mCm} {K : mS} (hout : ∀ x ∈ c.exceptionTable.toList, False) (hlocks : meth.locks = false) (pc : Nat) (ls : List Value) : mHx p l e R s m args below meth c (mQm below V φ0 h0 o args s) V nL φ0 h0 o pc ls (mexc [] cm K pc ls) := by
  intro E h' _ hm
  cases (show some ((.inr E, h') : mO) = some o from hm)
  exact ⟨⟨Nat.le_refl _, Nat.le_refl _⟩, fun _ => Nat.le_refl _, fun _ => Nat.le_refl _, fun φ' als H locs q ce rest hc h1 h2 h3 => thr_out hout hlocks φ' als H locs q ce hc h1 h2 h3⟩
theorem mhand_split {own : String} {E : String} {pc : Nat} : ∀ (ws : List Nat) (hd : mHd) (hh : List (Nat × Nat × Nat × Nat)), mokh own ws hd hh = true →
    (∀ c', mhand hd pc E = some c' → ∃ pre x suf, tableOf hh = pre ++ x :: suf ∧ (∀ z ∈ pre, covers z pc = false ∨ (z.catchType ≠ 0 ∧ ∃ nm : String, Cond.classLink own z.catchType nm ∈ mBT ∧ nm ≠ E ∧ ∃ k, k < 4 ∧ nm = mexn k)) ∧ covers x pc = true ∧ x.catchType ≠ 0 ∧ x.handlerPc = c' ∧ Cond.classLink own x.catchType E ∈ mBT) ∧
    (mhand hd pc E = none → ∀ z ∈ tableOf hh, covers z pc = false ∨ (z.catchType ≠ 0 ∧ ∃ nm : String, Cond.classLink own z.catchType nm ∈ mBT ∧ nm ≠ E ∧ ∃ k, k < 4 ∧ nm = mexn k)) := by
  intro ws
  induction ws with
  | nil =>
    intro hd hh hok
    cases hd with
    | nil =>
      cases hh with
      | nil => exact ⟨fun c' h => (by cases h), fun _ z hz => (by cases hz)⟩
      | cons r hh => cases hok
    | cons q hd => cases hh <;> cases hok
  | cons w ws ih =>
    intro hd hh hok
    cases hd with
    | nil =>
      cases hh with
      | nil => exact ⟨fun c' h => (by cases h), fun _ z hz => (by cases hz)⟩
      | cons r hh => cases hok
    | cons q hd =>
      cases hh with
      | nil => cases hok
      | cons r hh =>
        simp only [mokh, Bool.and_eq_true, decide_eq_true_eq] at hok
        obtain ⟨⟨⟨k1, k2, k3, k4⟩, k5, k6⟩, k7⟩ := hok
        obtain ⟨i1, i2⟩ := ih hd hh k7
        have ht : tableOf (r :: hh) = ⟨r.1, r.2.1, r.2.2.1, r.2.2.2⟩ :: tableOf hh := rfl
        have hex : ∃ k, k < 4 ∧ q.2.2.2 = mexn k := by
          rcases k5 with k | k | k | k
          · exact ⟨0, by omega, k⟩
          · exact ⟨1, by omega, k⟩
          · exact ⟨2, by omega, k⟩
          · exact ⟨3, by omega, k⟩
        have hcov : ∀ b, (covers (⟨r.1, r.2.1, r.2.2.1, r.2.2.2⟩ : ExceptionTableEntry) pc = b) ↔ ((decide (q.1 ≤ pc) && decide (pc < q.2.1)) = b) := by
          intro b
          rw [k1, k2]
        unfold mhand
        by_cases hc : q.1 ≤ pc ∧ pc < q.2.1 ∧ q.2.2.2 = E
        · rw [if_pos hc]
          refine ⟨fun c' h => ?_, fun h => (by cases h)⟩
          cases h
          refine ⟨[], _, tableOf hh, ht, fun z hz => (by cases hz), (hcov true).mpr (by simp [hc.1, hc.2.1]), k4, k3.symm, ?_⟩
          rw [← hc.2.2]
          exact mwd_mem k6
        · rw [if_neg hc]
          have hhead : covers (⟨r.1, r.2.1, r.2.2.1, r.2.2.2⟩ : ExceptionTableEntry) pc = false ∨ (r.2.2.2 ≠ 0 ∧ ∃ nm : String, Cond.classLink own r.2.2.2 nm ∈ mBT ∧ nm ≠ E ∧ ∃ k, k < 4 ∧ nm = mexn k) := by
            by_cases hE : q.2.2.2 = E
            · refine Or.inl ((hcov false).mpr ?_)
              by_cases h1 : q.1 ≤ pc
              · have h2 : ¬ pc < q.2.1 := fun h2 => hc ⟨h1, h2, hE⟩
                simp [h2]
              · simp [h1]
            · exact Or.inr ⟨k4, q.2.2.2, mwd_mem k6, hE, hex⟩
          refine ⟨fun c' h => ?_, fun h z hz => ?_⟩
          · obtain ⟨pre, x, suf, j1, j2, j3⟩ := i1 c' h
            refine ⟨⟨r.1, r.2.1, r.2.2.1, r.2.2.2⟩ :: pre, x, suf, by rw [ht, j1]; rfl, fun z hz => ?_, j3⟩
            rcases List.mem_cons.mp hz with rfl | hz
            · exact hhead
            · exact j2 z hz
          · rw [ht] at hz
            rcases List.mem_cons.mp hz with rfl | hz
            · exact hhead
            · exact i2 h z hz
theorem hx_tab {own : String} {cc : ByteArray} {nL : Nat} {Ts : List Cond} {ini : Bool} (C : mCx p l (mRm (d + 1) h0 o) s m args meth c V own cc nL Ts ini) {hd : mHd} {cm : mCm} {hh : List (Nat × Nat × Nat × Nat)} {ws : List Nat} (hok : mokh own ws hd hh = true) (htb : c.exceptionTable.toList = tableOf hh) {K : mS}
    (hK : ∀ c' ls st h, K c' ls st h = some o → mGo V s.heap nL φ0 h0 (mWp p l e (mRm (d + 1) h0 o) s m args below meth c (mQm below V φ0 h0 o args s)) o c' ls st h) (pc : Nat) (ls : List Value) : mHx p l e (mRm (d + 1) h0 o) s m args below meth c (mQm below V φ0 h0 o args s) V nL φ0 h0 o pc ls (mexc hd cm K pc ls) := by
  intro E h' hEk hm
  obtain ⟨k, hk, rfl⟩ := hEk
  obtain ⟨hx, hb, hml, hown, hts, hcl, hlocks, hini, hE, hst, hfr, hlo, hBT⟩ := C
  obtain ⟨s1, s2⟩ := mhand_split (own := own) (E := mexn k) (pc := pc) ws hd hh hok
  have hpass : ∀ z : ExceptionTableEntry, (covers z pc = false ∨ (z.catchType ≠ 0 ∧ ∃ nm : String, Cond.classLink own z.catchType nm ∈ mBT ∧ nm ≠ mexn k ∧ ∃ k, k < 4 ∧ nm = mexn k)) → (covers z pc = false ∨ (z.catchType ≠ 0 ∧ ∃ nm : String, (Cond.classLink own z.catchType nm).before args s = true ∧ va_Nc (mexn k) nm s)) := by
    intro z hz
    rcases hz with hz | ⟨z1, nm, z2, z3, j, hj, rfl⟩
    · exact Or.inl hz
    · exact Or.inr ⟨z1, _, hts _ (hBT _ z2), hE.2.2.2.2.2.2.2.2.2.2.2.1 k j hk hj (fun q => z3 (by rw [q]))⟩
  unfold mexc at hm
  cases hmh : mhand hd pc (mexn k) with
  | some c' =>
    rw [hmh] at hm
    have g := hK _ _ _ _ hm
    have g0 := g.1
    have gz : h'.1.1 + 1 ≤ o.2.1.1 := g0.1
    have gy : h'.1.2.1 + 6 ≤ o.2.1.2.1 := g0.2
    refine ⟨⟨by omega, by omega⟩, fun _ => by unfold mmc; omega, fun _ => by unfold mms; omega, fun φ' als H locs q ce rest hc h1 h2 h3 => ?_⟩
    obtain ⟨pre, x, suf, j1, j2, j3, j4, j5, j6⟩ := s1 c' hmh
    have hcast := List.all_eq_true.mp mcast_ok k (List.mem_range.mpr hk)
    refine vx_catch (name := mexn k) hown pre x suf (htb.trans j1) (fun z hz => hpass z (j2 z hz)) j3 j4 (hts _ (hBT _ j6)) (va_Nw.use rfl (hE.2.2.2.2.2.2.2.1 _ (mnw_mem hcast))) h1 h2 h3 ?_
    rw [j5]
    obtain ⟨c1, c2, c3, c4, c5, c6⟩ := hc
    have he : ∀ a, a < h'.1.1 → va_up φ' h'.1.1 q a = φ' a := fun a ha => va_up_n _ _ (by omega)
    have k9 := g.2 (va_up φ' h'.1.1 q) als H locs ⟨mHp_hole c1, c2, mLr_norm _ (mLr_ext c3 (Nat.le_succ _) he), fun a ha => by rw [he a (by omega)]; exact c4 a ha, Nat.le_trans c5 (Nat.le_succ _), Nat.le_trans c6 (Nat.le_add_right _ 6)⟩ (mrf_r (Nat.lt_succ_self _) mrf_nil)
    have e1 : ([Value.ref h'.1.1]).map (vm_ (va_up φ' h'.1.1 q)) = [.ref q] := by
      show [Value.ref (va_up φ' h'.1.1 q h'.1.1)] = _
      rw [va_up_s]
    rw [e1] at k9
    have e2 : (gC h'.1).1 - h0.1.1 = h'.1.1 - h0.1.1 + 1 := by
      show h'.1.1 + 1 - h0.1.1 = _
      omega
    have e3 : (gC h'.1).2.1 - h0.1.2.1 = h'.1.2.1 - h0.1.2.1 + 6 := by
      show h'.1.2.1 + 6 - h0.1.2.1 = _
      omega
    rw [e2, e3] at k9
    exact k9
  | none =>
    rw [hmh] at hm
    cases hm
    refine ⟨⟨Nat.le_refl _, Nat.le_refl _⟩, fun _ => Nat.le_refl _, fun _ => Nat.le_refl _, fun φ' als H locs q ce rest hc h1 h2 h3 => ?_⟩
    exact vx_outP hown hlocks (fun z hz => hpass z (s2 hmh z (by rw [← htb]; exact hz))) h1 h2 h3 (fun t ht hvm => ⟨rfl, φ', hc.2.2.2.1, by rw [ht]; exact hc.1, hc.2.1.F ht⟩) hc.2.1.2.2 (Nat.le_refl _) (Nat.le_refl _)
end MAIN2
