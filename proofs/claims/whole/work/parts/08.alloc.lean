/-! new cells, the script, arraycopy, over an abstract heap -/
theorem mHp_new {V : mEv} {φ : Nat → Nat} {h : mH} {H H1 : Heap} {t n m q : Nat} (hP : mHp V φ h H) (ht : t ≠ 0) (ht2 : t < 30)
    (p1 : va_P (eD V) vwCl (mW V φ h ++ [(q, ment V (va_up φ h.1.1 q) (hA h t n m) h.1.1)]) H1) (p2 : va_D (eA V) (mW V φ h ++ [(q, ment V (va_up φ h.1.1 q) (hA h t n m) h.1.1)])) : mHp V (va_up φ h.1.1 q) (hA h t n m) H1 := by
  obtain ⟨-, -, h3, h4, h5, h6, h7⟩ := hP
  have kz : gK (hA h t n m).1 h.1.1 = t := va_up_s _ _ _
  have kn : ∀ b, b ≠ h.1.1 → gK (hA h t n m).1 b = gK h.1 b := fun b hb => va_up_n _ _ hb
  have rn : ∀ b, b ≠ h.1.1 → ∀ k, gR (hA h t n m).1 b k = gR h.1 b k := fun b hb k => by
    show va_up h.1.2.2.2.2 h.1.1 (fun _ => none) b k = _
    rw [va_up_n _ _ hb]
    rfl
  have rz : ∀ k, gR (hA h t n m).1 h.1.1 k = none := fun k => by
    show va_up h.1.2.2.2.2 h.1.1 (fun _ => none) h.1.1 k = _
    rw [va_up_s]
  have hW : mW V (va_up φ h.1.1 q) (hA h t n m) = mW V φ h ++ [(q, ment V (va_up φ h.1.1 q) (hA h t n m) h.1.1)] :=
    mW_new rfl h5 (fun b hb => kn b (by omega)) (by rw [kz]; exact ht) (by rw [kz]; exact ht2) (fun b hb => ment_ext (kn b (by omega)) (va_up_n _ _ (by omega)) (rn b (by omega)) (va_up_n _ _ (by omega)) (va_up_n _ _ (by omega)) (fun k c hc => va_up_n _ _ (by have := h3 b k c hc; omega)))
  refine ⟨by rw [hW]; exact p1, by rw [hW]; exact p2, fun a k b hb => ?_, ⟨?_, fun j hj => ?_⟩, ?_, fun a ha => ?_, fun a ha => ?_⟩
  · show b < h.1.1 + 1
    by_cases e : a = h.1.1
    · rw [e, rz] at hb
      cases hb
    · rw [rn a e] at hb
      have := h3 a k b hb
      omega
  · rw [va_up_n _ _ (by omega)]; exact h4.1
  · rw [va_up_n _ _ (by omega)]; exact h4.2 j hj
  · show 100 ≤ h.1.1 + 1
    omega
  · by_cases e : a = h.1.1
    · rw [e, kz] at ha
      omega
    · rw [kn a e] at ha
      obtain ⟨q1, q2, q3⟩ := h6 a ha
      have e0 : (0 : Nat) ≠ h.1.1 := by omega
      refine ⟨q1, ?_, fun j hj => ?_⟩
      · show va_up h.1.2.2.2.1 h.1.1 n 0 = _
        rw [va_up_n _ _ e0]
        exact q2
      · show va_up h.2.1 h.1.1 (fun _ => 0) 0 j = _
        rw [va_up_n _ _ e0]
        exact q3 j hj
  · by_cases e : a = h.1.1
    · subst e
      refine ⟨?_, Or.inl h5⟩
      show h.1.1 < h.1.1 + 1
      omega
    · rw [kn a e] at ha ⊢
      obtain ⟨q1, q2⟩ := h7 a ha
      refine ⟨?_, q2⟩
      show a < h.1.1 + 1
      omega
/-- a caught exception's cell: a hole -/
theorem mHp_hole {V : mEv} {φ : Nat → Nat} {h : mH} {H : Heap} {q : Nat} (hP : mHp V φ h H) : mHp V (va_up φ h.1.1 q) (gC h.1, h.2.1, h.2.2) H := by
  obtain ⟨h1, h2, h3, h4, h5, h6, h7⟩ := hP
  have kz : gK (gC h.1) h.1.1 = 0 := va_up_s _ _ _
  have kn : ∀ b, b ≠ h.1.1 → gK (gC h.1) b = gK h.1 b := fun b hb => va_up_n _ _ hb
  have hW : mW V (va_up φ h.1.1 q) (gC h.1, h.2.1, h.2.2) = mW V φ h :=
    mW_hole (mdom_hole rfl (fun b hb => kn b (by omega)) kz) (fun b hb => va_up_n _ _ (by omega)) (fun b hb => ment_ext (kn b (by omega)) rfl (fun _ => rfl) rfl rfl (fun k c hc => va_up_n _ _ (by have := h3 b k c hc; omega)))
  refine ⟨by rw [hW]; exact h1, by rw [hW]; exact h2, fun a k b hb => ?_, ⟨?_, fun j hj => ?_⟩, ?_, fun a ha => ?_, fun a ha => ?_⟩
  · have := h3 a k b hb
    show b < h.1.1 + 1
    omega
  · rw [va_up_n _ _ (by omega)]; exact h4.1
  · rw [va_up_n _ _ (by omega)]; exact h4.2 j hj
  · show 100 ≤ h.1.1 + 1
    omega
  · by_cases e : a = h.1.1
    · rw [e] at ha
      rw [show gK ((gC h.1, h.2.1, h.2.2) : mH).1 h.1.1 = 0 from kz] at ha
      cases ha
    · rw [show gK ((gC h.1, h.2.1, h.2.2) : mH).1 a = gK h.1 a from kn a e] at ha
      exact h6 a ha
  · by_cases e : a = h.1.1
    · rw [e] at ha
      exact absurd kz ha
    · rw [show gK ((gC h.1, h.2.1, h.2.2) : mH).1 a = gK h.1 a from kn a e] at ha ⊢
      obtain ⟨q1, q2⟩ := h7 a ha
      refine ⟨?_, q2⟩
      show a < h.1.1 + 1
      omega
section MW2
variable {p : Program} {l : Launch} {e : Env} {R : Room} {s : State} {m : MethodId} {args : Array Value} {below : List Frame} {meth : Method} {c : Code} {H : Heap} {locs : List Loc} {cells slots : Nat} {Q : State → Prop}
variable {cc : ByteArray} {pc : Nat} {ls : Array Slot} {rest : List Value} {V : mEv} {φ : Nat → Nat} {h : mH} {H0 : Heap} {Ts : List Cond} {own : String}
def mdv (t : Nat) : Value := match t with
  | 2 => Value.null
  | _ => Value.int 0
theorem mtyk_def {t : Nat} {ty : FieldType} (ht : mtyk t ty = true) : defaultValue ty = mdv t := by
  unfold mtyk at ht
  split at ht <;> first | rfl | cases ht
theorem w_new (hx : p.tables.exec = Jvm.exec) (hb : c.code = cc) (hts : ∀ w ∈ Ts, w.before args s = true) (hcl : mCls Ts) (hown : s.vm.findClass own = some m.cls) (hK : va_K (eD V) vwCl (eT V) s) (hP : mHp V φ h H) (hS : va_S (eA V) H0 H locs) (hA0 : ∀ q, H0.size ≤ q → eA V q) {ci idx N : Nat} {C : String} {T : u_T} (hci : ci < 13) (hc : vwCl[ci]? = some (C, T, N)) (hw1 : Cond.classLink own idx C ∈ Ts) (hw2 : Cond.instantiable C N ∈ Ts) (hw3 : Cond.initialized C ∈ Ts) (hcells : cells + 1 ≤ R.cells) (hslots : slots + (mft.getD ci []).length ≤ R.slots) (hdg : decode cc pc = .ok (.new idx, 3))
    (kk : ∀ (q : Nat) (H1 : Heap), mHp V (va_up φ h.1.1 q) (hA h (ci + 1) 0 (mft.getD ci []).length) H1 → va_S (eA V) H0 H1 locs → W p l e R s m args below meth c H1 locs (cells + 1) (slots + (mft.getD ci []).length) Q (F0 m (pc + 3) ls (.ref q :: rest))) : W p l e R s m args below meth c H locs cells slots Q (F0 m pc ls rest) := by
  obtain ⟨C', T', N', ty, hc', hin, hty, hnm, hN, htk⟩ := hcl ci hci
  rw [hc] at hc'
  cases hc'
  have rz : ∀ k, gR (hA h (ci + 1) 0 (mft.getD ci []).length).1 h.1.1 k = none := fun k => by
    show va_up h.1.2.2.2.2 h.1.1 (fun _ => none) h.1.1 k = _
    rw [va_up_s]
  have iz : ∀ k, (hA h (ci + 1) 0 (mft.getD ci []).length).2.1 h.1.1 k = 0 := fun k => by
    show va_up h.2.1 h.1.1 (fun _ => 0) h.1.1 k = 0
    rw [va_up_s]
  have fv : ∀ (ψ : Nat → Nat) (t k : Nat), mfv ψ (hA h (ci + 1) 0 (mft.getD ci []).length) h.1.1 t k = mdv t := by
    intro ψ t k
    unfold mfv
    rw [rz, iz]
    rfl
  have kz : gK (hA h (ci + 1) 0 (mft.getD ci []).length).1 h.1.1 = ci + 1 := va_up_s _ _ _
  rw [← hN] at hslots
  refine va_new (fs := mfs φ (hA h (ci + 1) 0 (mft.getD ci []).length) h.1.1 ci) hx hb hts hin ty hty hown (hts _ hw1) (hts _ hw2) (hts _ hw3) hK hP.1 hP.2.1 hS hA0 hc ?_ hcells hslots hdg ?_
  · intro j hj
    rw [mtyk_def (htk j hj)]
    unfold vp_V
    rw [List.getD_eq_getElem?_getD, mfs_get (by omega), fv]
    rfl
  · intro q H1 p1 p2 p3
    have e1 : (Sum.inr (ci, mfs φ (hA h (ci + 1) 0 (mft.getD ci []).length) h.1.1 ci) : va_E) = ment V (va_up φ h.1.1 q) (hA h (ci + 1) 0 (mft.getD ci []).length) h.1.1 := by
      rw [ment_obj kz hci]
      have : mfs φ (hA h (ci + 1) 0 (mft.getD ci []).length) h.1.1 ci = mfs (va_up φ h.1.1 q) (hA h (ci + 1) 0 (mft.getD ci []).length) h.1.1 ci := by
        unfold mfs
        congr 1
        funext k t
        rw [fv, fv]
      rw [this]
    rw [e1] at p1 p2
    have := kk q H1 (mHp_new hP (by omega) (by omega) p1 p2) p3
    rw [← hN] at this
    exact this
theorem va_K_I {D : va_G} {cl : List vw_C} {t1 : List (ClassId × FieldType)} {U : State} {k : Nat} {a b : ClassId} {ty : FieldType} (hty : ∀ C, ty ≠ .object C) (hk : t1[k]? = some (a, ty)) (h : va_K D cl (t1 ++ [(b, ty)]) U) : b = a := by
  have ha := (h.2 k (a, ty) (by rw [List.getElem?_append_left (List.getElem?_eq_some_iff.mp hk).1]; exact hk)).2
  have hb := (h.2 t1.length (b, ty) (by simp)).2
  have e : ∀ x : ClassId, va_RA U x ty → U.vm.findClass ("[" ++ ty.toString) = some x := by
    intro x hx
    cases ty <;> first | exact hx | exact absurd rfl (hty _)
  exact Option.some.inj ((e b hb).symm.trans (e a ha))
theorem va_K_O {D : va_G} {cl : List vw_C} {t1 : List (ClassId × FieldType)} {U : State} {k : Nat} {a b : ClassId} {C : String} (hk : t1[k]? = some (a, .object C)) (h : va_K D cl (t1 ++ [(b, .object C)]) U) : b = a := by
  obtain ⟨k1, c1, -, -, -, ha⟩ := (h.2 k (a, .object C) (by rw [List.getElem?_append_left (List.getElem?_eq_some_iff.mp hk).1]; exact hk)).2
  obtain ⟨k2, c2, -, -, -, hb⟩ := (h.2 t1.length (b, .object C) (by simp)).2
  exact Option.some.inj (hb.symm.trans ha)
theorem w_newI (hx : p.tables.exec = Jvm.exec) (hb : c.code = cc) (hK : va_K (eD V) vwCl (eT V) s) (hP : mHp V φ h H) (hS : va_S (eA V) H0 H locs) (hA0 : ∀ q, H0.size ≤ q → eA V q) (hw : (Cond.arrayClass .int).before args s = true) {n : Int32} (hn : ¬ n < 0) (hn2 : n.toNatClampNeg ≤ 100000) (hcells : cells + 1 ≤ R.cells) (hslots : slots + n.toNatClampNeg ≤ R.slots) (hdg : decode cc pc = .ok (.newarray .int, 2))
    (kk : ∀ (q : Nat) (H1 : Heap), mHp V (va_up φ h.1.1 q) (hA h 20 n.toNatClampNeg n.toNatClampNeg) H1 → va_S (eA V) H0 H1 locs → W p l e R s m args below meth c H1 locs (cells + 1) (slots + n.toNatClampNeg) Q (F0 m (pc + 2) ls (.ref q :: rest))) : W p l e R s m args below meth c H locs cells slots Q (F0 m pc ls (.int n :: rest)) := by
  generalize hN : n.toNatClampNeg = N' at hn2 hslots kk ⊢
  have ha : ∀ cA : ClassId, vp_cell cA (N', .inl (fun _ => 0)) = arrV cA N' (fun _ => defaultValue .int) := fun _ => rfl
  have hcb : N' * componentBytes .int ≤ 536870912 := by simp only [componentBytes]; omega
  refine va_newa (atype := .int) (ty := .int) (a0 := (N', .inl (fun _ => 0))) hx hb hw rfl hK hP.1 hP.2.1 hS hA0 ha hn hN hcb hcells hslots hdg fun q cA H1 k9 p1 p2 p3 => ?_
  have hc : cA = eI V := va_K_I (k := 0) (fun _ h => by cases h) rfl k9
  subst hc
  have kz : gK (hA h 20 N' N').1 h.1.1 = 20 := va_up_s _ _ _
  have e1 : (Sum.inl (eI V, N', .inl (fun _ => 0)) : va_E) = ment V (va_up φ h.1.1 q) (hA h 20 N' N') h.1.1 := by
    rw [ment_I kz]
    have a1 : gN (hA h 20 N' N').1 h.1.1 = N' := va_up_s _ _ _
    have a2 : (hA h 20 N' N').2.1 h.1.1 = fun _ => 0 := va_up_s _ _ _
    rw [a1, a2]
  rw [e1] at p1 p2
  exact kk q H1 (mHp_new hP (by omega) (by omega) p1 p2) p3
theorem w_newJ (hx : p.tables.exec = Jvm.exec) (hb : c.code = cc) (hK : va_K (eD V) vwCl (eT V) s) (hP : mHp V φ h H) (hS : va_S (eA V) H0 H locs) (hA0 : ∀ q, H0.size ≤ q → eA V q) (hw : (Cond.arrayClass .long).before args s = true) {n : Int32} (hn : ¬ n < 0) (hn2 : n.toNatClampNeg ≤ 100000) (hcells : cells + 1 ≤ R.cells) (hslots : slots + n.toNatClampNeg ≤ R.slots) (hdg : decode cc pc = .ok (.newarray .long, 2))
    (kk : ∀ (q : Nat) (H1 : Heap), mHp V (va_up φ h.1.1 q) (hA h 21 n.toNatClampNeg n.toNatClampNeg) H1 → va_S (eA V) H0 H1 locs → W p l e R s m args below meth c H1 locs (cells + 1) (slots + n.toNatClampNeg) Q (F0 m (pc + 2) ls (.ref q :: rest))) : W p l e R s m args below meth c H locs cells slots Q (F0 m pc ls (.int n :: rest)) := by
  generalize hN : n.toNatClampNeg = N' at hn2 hslots kk ⊢
  have ha : ∀ cA : ClassId, vp_cell cA (N', .inr (.inl (fun _ => 0))) = arrV cA N' (fun _ => defaultValue .long) := fun _ => rfl
  have hcb : N' * componentBytes .long ≤ 536870912 := by simp only [componentBytes]; omega
  refine va_newa (atype := .long) (ty := .long) (a0 := (N', .inr (.inl (fun _ => 0)))) hx hb hw rfl hK hP.1 hP.2.1 hS hA0 ha hn hN hcb hcells hslots hdg fun q cA H1 k9 p1 p2 p3 => ?_
  have hc : cA = eJ V := va_K_I (k := 1) (fun _ h => by cases h) rfl k9
  subst hc
  have kz : gK (hA h 21 N' N').1 h.1.1 = 21 := va_up_s _ _ _
  have e1 : (Sum.inl (eJ V, N', .inr (.inl (fun _ => 0))) : va_E) = ment V (va_up φ h.1.1 q) (hA h 21 N' N') h.1.1 := by
    rw [ment_J kz]
    have a1 : gN (hA h 21 N' N').1 h.1.1 = N' := va_up_s _ _ _
    have a2 : (hA h 21 N' N').2.2 h.1.1 = fun _ => 0 := va_up_s _ _ _
    rw [a1, a2]
  rw [e1] at p1 p2
  exact kk q H1 (mHp_new hP (by omega) (by omega) p1 p2) p3
theorem w_newM (hx : p.tables.exec = Jvm.exec) (hb : c.code = cc) (hown : s.vm.findClass own = some m.cls) (hK : va_K (eD V) vwCl (eT V) s) (hP : mHp V φ h H) (hS : va_S (eA V) H0 H locs) (hA0 : ∀ q, H0.size ≤ q → eA V q) {idx : Nat} (hw : (Cond.classLink own idx "BoilerTaps$Mark").before args s = true) (hov : va_AO "BoilerTaps$Mark" s) {n : Int32} (hn : ¬ n < 0) (hn2 : n.toNatClampNeg ≤ 100000) (hcells : cells + 1 ≤ R.cells) (hslots : slots + n.toNatClampNeg ≤ R.slots) (hdg : decode cc pc = .ok (.anewarray idx, 3))
    (kk : ∀ (q : Nat) (H1 : Heap), mHp V (va_up φ h.1.1 q) (hA h 22 n.toNatClampNeg n.toNatClampNeg) H1 → va_S (eA V) H0 H1 locs → W p l e R s m args below meth c H1 locs (cells + 1) (slots + n.toNatClampNeg) Q (F0 m (pc + 3) ls (.ref q :: rest))) : W p l e R s m args below meth c H locs cells slots Q (F0 m pc ls (.int n :: rest)) := by
  refine va_newq hx hb hown hw hov hK hP.1 hP.2.1 hS hA0 hn rfl (by omega) hcells hslots hdg fun q cA H1 k9 p1 p2 p3 => ?_
  have hc : cA = eM V := va_K_O (k := 2) rfl k9
  subst hc
  have kz : gK (hA h 22 n.toNatClampNeg n.toNatClampNeg).1 h.1.1 = 22 := va_up_s _ _ _
  have e1 : (Sum.inl (eM V, n.toNatClampNeg, .inr (.inr (.inr (.inr (fun _ => none))))) : va_E) = ment V (va_up φ h.1.1 q) (hA h 22 n.toNatClampNeg n.toNatClampNeg) h.1.1 := by
    rw [ment_M kz]
    have a1 : gN (hA h 22 n.toNatClampNeg n.toNatClampNeg).1 h.1.1 = n.toNatClampNeg := va_up_s _ _ _
    have a2 : (fun i => (gR (hA h 22 n.toNatClampNeg n.toNatClampNeg).1 h.1.1 i).map (va_up φ h.1.1 q)) = fun _ => none := by
      funext i
      have : gR (hA h 22 n.toNatClampNeg n.toNatClampNeg).1 h.1.1 i = none := by
        show va_up h.1.2.2.2.2 h.1.1 (fun _ => none) h.1.1 i = _
        rw [va_up_s]
      rw [this]
      rfl
    rw [a1, a2]
  rw [e1] at p1 p2
  exact kk q H1 (mHp_new hP (by omega) (by omega) p1 p2) p3
theorem w_sld (hx : p.tables.exec = Jvm.exec) (hb : c.code = cc) (hX : va_X (eS V) (eL V) (eX V) s H0) (hbl : eS V < H0.size) (hbA : ¬ eA V (eS V)) (hS : va_S (eA V) H0 H locs) (hP : mHp V φ h H) {a : Nat} {i : Int32} (hk : gK h.1 a = 31) (hi : ¬ (i < 0 ∨ gN h.1 a ≤ i.toNatClampNeg)) (hdg : decode cc pc = .ok (.iaload, 1))
    (kk : W p l e R s m args below meth c H locs cells slots Q (F0 m (pc + 1) ls (.int (h.2.1 a i.toNatClampNeg) :: rest))) : W p l e R s m args below meth c H locs cells slots Q (F0 m pc ls (.int i :: .ref (φ a) :: rest)) := by
  obtain ⟨-, -, -, h4, -, h6, -⟩ := hP
  obtain ⟨rfl, q2, q3⟩ := h6 a hk
  rw [q2] at hi
  rw [h4.1]
  rw [q3 _ (Nat.not_le.mp fun q => hi (Or.inr q))] at kk
  exact va_sld hx hb hX hbl hbA hS hi hdg kk
theorem w_slen (hx : p.tables.exec = Jvm.exec) (hb : c.code = cc) (hX : va_X (eS V) (eL V) (eX V) s H0) (hbl : eS V < H0.size) (hbA : ¬ eA V (eS V)) (hS : va_S (eA V) H0 H locs) (hP : mHp V φ h H) {a : Nat} (hk : gK h.1 a = 31) (hdg : decode cc pc = .ok (.arraylength, 1))
    (kk : W p l e R s m args below meth c H locs cells slots Q (F0 m (pc + 1) ls (.int (Int32.ofNat (gN h.1 a)) :: rest))) : W p l e R s m args below meth c H locs cells slots Q (F0 m pc ls (.ref (φ a) :: rest)) := by
  obtain ⟨-, -, -, h4, -, h6, -⟩ := hP
  obtain ⟨rfl, q2, q3⟩ := h6 a hk
  rw [q2] at kk
  rw [h4.1]
  exact va_slen hx hb hX hbl hbA hS hdg kk
theorem w_cpyI (hx : p.tables.exec = Jvm.exec) (hb : c.code = cc) (hml : c.maxLocals = ls.size) (hown : s.vm.findClass own = some m.cls) {idx : Nat} (w1 : (Cond.methodLink own idx arraycopyName).before args s = true) (w2 : (Cond.native arraycopyName).before args s = true) (w3 : (Cond.static arraycopyName).before args s = true) (w4 : (Cond.initialized "java/lang/System").before args s = true) (hK : va_K (eD V) vwCl (eT V) s) (hP : mHp V φ h H) (hS : va_S (eA V) H0 H locs)
    {a b : Nat} {sp dp n : Int32} (hka : gK h.1 a = 20) (hkb : gK h.1 b = 20) (h1 : ¬ sp < 0) (h2 : ¬ dp < 0) (h3 : ¬ n < 0) (h4 : sp.toNatClampNeg + n.toNatClampNeg ≤ gN h.1 a) (h5 : dp.toNatClampNeg + n.toNatClampNeg ≤ gN h.1 b) (hfr : 1 ≤ R.frames) (hlo : (rest.map fun v => v.category).sum + (nativeFrameWords "java/lang/System" "arraycopy" 5 + 11) ≤ R.locals) (hdg : decode cc pc = .ok (.invokestatic idx, 3))
    (kk : ∀ (H1 : Heap) (locs1 : List Loc), mHp V φ (h.1, va_up h.2.1 b (va_cpy (h.2.1 a) (h.2.1 b) sp.toNatClampNeg dp.toNatClampNeg n.toNatClampNeg), h.2.2) H1 → va_S (eA V) H0 H1 locs1 → W p l e R s m args below meth c H1 locs1 cells slots Q (F0 m (pc + 3) ls rest)) : W p l e R s m args below meth c H locs cells slots Q (F0 m pc ls (.int n :: .int dp :: .ref (φ b) :: .int sp :: .ref (φ a) :: rest)) := by
  have hda := mHp_dom hP hka (by omega) (by omega)
  have hdb := mHp_dom hP hkb (by omega) (by omega)
  obtain ⟨ja, -, hja⟩ := mW_get (V := V) (φ := φ) hda
  obtain ⟨jb, hjb0, hjb⟩ := mW_get (V := V) (φ := φ) hdb
  have hset := mW_set (V := V) (φ := φ) (h := h) (h' := (h.1, va_up h.2.1 b (va_cpy (h.2.1 a) (h.2.1 b) sp.toNatClampNeg dp.toNatClampNeg n.toNatClampNeg), h.2.2)) rfl hjb0 (fun b hb => ment_ext rfl rfl (fun _ => rfl) (va_up_n _ _ hb) rfl (fun _ _ _ => rfl))
  rw [ment_I (h := (h.1, va_up h.2.1 b (va_cpy (h.2.1 a) (h.2.1 b) sp.toNatClampNeg dp.toNatClampNeg n.toNatClampNeg), h.2.2)) hkb] at hset
  rw [ment_I hka] at hja
  rw [ment_I hkb] at hjb
  have e1 : va_up h.2.1 b (va_cpy (h.2.1 a) (h.2.1 b) sp.toNatClampNeg dp.toNatClampNeg n.toNatClampNeg) b = va_cpy (h.2.1 a) (h.2.1 b) sp.toNatClampNeg dp.toNatClampNeg n.toNatClampNeg := va_up_s _ _ _
  refine va_copyi (ty := .int) hx hb hml hown w1 w2 w3 w4 hK hP.1 hP.2.1 hS ja jb 0 0 hja hjb rfl rfl rfl h1 h2 h3 h4 h5 (fun _ _ => rfl) hfr hlo hdg fun H1 locs1 p1 p2 p3 => ?_
  rw [← e1, hset] at p1 p2
  have h100 := (mem_mdom.mp hdb).2.1
  exact kk H1 locs1 (mHp_chg hP rfl (fun _ => rfl) (fun _ => rfl) hP.2.2.1 (fun b hb => va_up_n _ _ (by omega)) p1 p2) p3
theorem w_cpyJ (hx : p.tables.exec = Jvm.exec) (hb : c.code = cc) (hml : c.maxLocals = ls.size) (hown : s.vm.findClass own = some m.cls) {idx : Nat} (w1 : (Cond.methodLink own idx arraycopyName).before args s = true) (w2 : (Cond.native arraycopyName).before args s = true) (w3 : (Cond.static arraycopyName).before args s = true) (w4 : (Cond.initialized "java/lang/System").before args s = true) (hK : va_K (eD V) vwCl (eT V) s) (hP : mHp V φ h H) (hS : va_S (eA V) H0 H locs)
    {a b : Nat} {sp dp n : Int32} (hka : gK h.1 a = 21) (hkb : gK h.1 b = 21) (h1 : ¬ sp < 0) (h2 : ¬ dp < 0) (h3 : ¬ n < 0) (h4 : sp.toNatClampNeg + n.toNatClampNeg ≤ gN h.1 a) (h5 : dp.toNatClampNeg + n.toNatClampNeg ≤ gN h.1 b) (hfr : 1 ≤ R.frames) (hlo : (rest.map fun v => v.category).sum + (nativeFrameWords "java/lang/System" "arraycopy" 5 + 11) ≤ R.locals) (hdg : decode cc pc = .ok (.invokestatic idx, 3))
    (kk : ∀ (H1 : Heap) (locs1 : List Loc), mHp V φ (h.1, h.2.1, va_up h.2.2 b (va_cpy (h.2.2 a) (h.2.2 b) sp.toNatClampNeg dp.toNatClampNeg n.toNatClampNeg)) H1 → va_S (eA V) H0 H1 locs1 → W p l e R s m args below meth c H1 locs1 cells slots Q (F0 m (pc + 3) ls rest)) : W p l e R s m args below meth c H locs cells slots Q (F0 m pc ls (.int n :: .int dp :: .ref (φ b) :: .int sp :: .ref (φ a) :: rest)) := by
  have hda := mHp_dom hP hka (by omega) (by omega)
  have hdb := mHp_dom hP hkb (by omega) (by omega)
  obtain ⟨ja, -, hja⟩ := mW_get (V := V) (φ := φ) hda
  obtain ⟨jb, hjb0, hjb⟩ := mW_get (V := V) (φ := φ) hdb
  have hset := mW_set (V := V) (φ := φ) (h := h) (h' := (h.1, h.2.1, va_up h.2.2 b (va_cpy (h.2.2 a) (h.2.2 b) sp.toNatClampNeg dp.toNatClampNeg n.toNatClampNeg))) rfl hjb0 (fun b hb => ment_ext rfl rfl (fun _ => rfl) rfl (va_up_n _ _ hb) (fun _ _ _ => rfl))
  rw [ment_J (h := (h.1, h.2.1, va_up h.2.2 b (va_cpy (h.2.2 a) (h.2.2 b) sp.toNatClampNeg dp.toNatClampNeg n.toNatClampNeg))) hkb] at hset
  rw [ment_J hka] at hja
  rw [ment_J hkb] at hjb
  have e1 : va_up h.2.2 b (va_cpy (h.2.2 a) (h.2.2 b) sp.toNatClampNeg dp.toNatClampNeg n.toNatClampNeg) b = va_cpy (h.2.2 a) (h.2.2 b) sp.toNatClampNeg dp.toNatClampNeg n.toNatClampNeg := va_up_s _ _ _
  refine va_copyl (ty := .long) hx hb hml hown w1 w2 w3 w4 hK hP.1 hP.2.1 hS ja jb 1 1 hja hjb rfl rfl rfl h1 h2 h3 h4 h5 (fun _ _ => rfl) hfr hlo hdg fun H1 locs1 p1 p2 p3 => ?_
  rw [← e1, hset] at p1 p2
  exact kk H1 locs1 (mHp_chg hP rfl (fun _ => rfl) (fun _ => rfl) hP.2.2.1 (fun b hb => rfl) p1 p2) p3
end MW2
