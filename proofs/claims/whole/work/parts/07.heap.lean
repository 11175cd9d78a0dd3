/-! heap instructions, over an abstract heap -/
def mtyk (t : Nat) (ty : FieldType) : Bool := match t, ty with
  | 0, .int => true
  | 1, .boolean => true
  | 2, .object _ => true
  | 2, .array _ => true
  | _, _ => false
def mCls (Ts : List Cond) : Prop := ∀ ci, ci < 13 → ∃ (C : String) (T : u_T) (N : Nat) (ty : Nat → FieldType), vwCl[ci]? = some (C, T, N) ∧ (∀ w ∈ u_ws C T N, w ∈ Ts) ∧ (∀ k, k < N → parseFieldDescriptor (T k).2.2.1 = some (ty k)) ∧ (∀ a, a < N → ∀ b, b < N → a ≠ b → (T a).2.1 ≠ (T b).2.1) ∧ N = (mft.getD ci []).length ∧ ∀ k, k < N → mtyk (mfk ci k) (ty k) = true
/-- the word of a field's link -/
def mfl (own : String) (idx ci k : Nat) : Option Cond := match vwCl[ci]? with
  | some q => some (.fieldLink own idx (q.2.1 k).1 (q.2.1 k).2.1 (q.2.1 k).2.2.1)
  | none => none
/-- may the field be written in a method of this class: not final, or a constructor's own -/
def mfw (own : String) (ini : Bool) (ci k : Nat) : Bool := match vwCl[ci]? with
  | some q => (!(q.2.1 k).2.2.2) || (ini && decide ((q.2.1 k).1 = own))
  | none => false
theorem mHp_dom {V : mEv} {φ : Nat → Nat} {h : mH} {H : Heap} (hP : mHp V φ h H) {a k : Nat} (hk : gK h.1 a = k) (h0 : k ≠ 0) (h1 : k < 30) : a ∈ mdom h := by
  obtain ⟨-, -, -, -, -, -, h7⟩ := hP
  obtain ⟨q1, q2⟩ := h7 a (by rw [hk]; exact h0)
  refine mem_mdom.mpr ⟨q1, ?_, by rw [hk]; exact h0, by rw [hk]; exact h1⟩
  rcases q2 with q2 | ⟨-, q2⟩
  · exact q2
  · omega
theorem ment_obj {V : mEv} {φ : Nat → Nat} {h : mH} {a ci : Nat} (hk : gK h.1 a = ci + 1) (hc : ci < 13) : ment V φ h a = .inr (ci, mfs φ h a ci) := by
  unfold ment
  rw [hk]
  split
  · omega
  · omega
  · omega
  · rfl
theorem ment_I {V : mEv} {φ : Nat → Nat} {h : mH} {a : Nat} (hk : gK h.1 a = 20) : ment V φ h a = .inl (eI V, gN h.1 a, .inl (h.2.1 a)) := by
  unfold ment
  rw [hk]
  rfl
theorem ment_J {V : mEv} {φ : Nat → Nat} {h : mH} {a : Nat} (hk : gK h.1 a = 21) : ment V φ h a = .inl (eJ V, gN h.1 a, .inr (.inl (h.2.2 a))) := by
  unfold ment
  rw [hk]
  rfl
theorem ment_M {V : mEv} {φ : Nat → Nat} {h : mH} {a : Nat} (hk : gK h.1 a = 22) : ment V φ h a = .inl (eM V, gN h.1 a, .inr (.inr (.inr (.inr (fun i => (gR h.1 a i).map φ))))) := by
  unfold ment
  rw [hk]
  rfl
theorem mfs_get {φ : Nat → Nat} {h : mH} {a ci k : Nat} (hk : k < (mft.getD ci []).length) : (mfs φ h a ci)[k]? = some (mfv φ h a (mfk ci k) k) := by
  have e : (mft.getD ci [])[k]? = some (mfk ci k) := by
    unfold mfk
    rw [List.getD_eq_getElem?_getD (l := mft.getD ci []), List.getElem?_eq_getElem hk]
    rfl
  unfold mfs
  rw [List.getElem?_mapIdx, e]
  rfl
theorem mfs_len {φ : Nat → Nat} {h : mH} {a ci : Nat} : (mfs φ h a ci).length = (mft.getD ci []).length := by simp [mfs]
theorem mdom_same {h h' : mH} (hz : h'.1.1 = h.1.1) (hK : ∀ b, gK h'.1 b = gK h.1 b) : mdom h' = mdom h := by
  unfold mdom
  rw [hz]
  apply List.filter_congr
  intro b _
  unfold mIn
  rw [hK b]
/-- a heap in which one cell has changed: no kind, no length, no new cell -/
theorem mHp_chg {V : mEv} {φ : Nat → Nat} {h h' : mH} {H H1 : Heap} (hP : mHp V φ h H) (hz : h'.1.1 = h.1.1) (hK : ∀ b, gK h'.1 b = gK h.1 b) (hN : ∀ b, gN h'.1 b = gN h.1 b) (hR : ∀ a k b, gR h'.1 a k = some b → b < h.1.1) (hI : ∀ a, a < 100 → h'.2.1 a = h.2.1 a) (p1 : va_P (eD V) vwCl (mW V φ h') H1) (p2 : va_D (eA V) (mW V φ h')) : mHp V φ h' H1 := by
  obtain ⟨-, -, -, h4, h5, h6, h7⟩ := hP
  refine ⟨p1, p2, fun a k b q => by rw [hz]; exact hR a k b q, h4, by rw [hz]; exact h5, fun a ha => ?_, fun a ha => ?_⟩
  · rw [hK] at ha
    obtain ⟨q1, q2, q3⟩ := h6 a ha
    refine ⟨q1, by rw [hN]; exact q2, fun j hj => ?_⟩
    rw [hI 0 (by omega)]
    exact q3 j hj
  · rw [hK] at ha ⊢
    rw [hz]
    exact h7 a ha
section MW
variable {p : Program} {l : Launch} {e : Env} {R : Room} {s : State} {m : MethodId} {args : Array Value} {below : List Frame} {meth : Method} {c : Code} {H : Heap} {locs : List Loc} {cells slots : Nat} {Q : State → Prop}
variable {cc : ByteArray} {pc : Nat} {ls : Array Slot} {rest : List Value} {V : mEv} {φ : Nat → Nat} {h : mH} {H0 : Heap} {Ts : List Cond} {own : String}
theorem w_get (hx : p.tables.exec = Jvm.exec) (hb : c.code = cc) (hts : ∀ w ∈ Ts, w.before args s = true) (hcl : mCls Ts) (hown : s.vm.findClass own = some m.cls) (hK : va_K (eD V) vwCl (eT V) s) (hP : mHp V φ h H) {a ci k idx : Nat} (hk : gK h.1 a = ci + 1) (hci : ci < 13) (hkl : k < (mft.getD ci []).length) {w : Cond} (hw : w ∈ Ts) (hl : mfl own idx ci k = some w) (hdg : decode cc pc = .ok (.getfield idx, 3))
    (kk : W p l e R s m args below meth c H locs cells slots Q (F0 m (pc + 3) ls (mfv φ h a (mfk ci k) k :: rest))) : W p l e R s m args below meth c H locs cells slots Q (F0 m pc ls (.ref (φ a) :: rest)) := by
  obtain ⟨C, T, N, ty, hc, hin, hty, hnm, hN, htk⟩ := hcl ci hci
  obtain ⟨i, -, hi⟩ := mW_get (V := V) (φ := φ) (mHp_dom hP hk (by omega) (by omega))
  rw [ment_obj hk hci] at hi
  have hlk : (Cond.fieldLink own idx (T k).1 (T k).2.1 (T k).2.2.1).before args s = true := by
    unfold mfl at hl
    rw [hc] at hl
    rw [Option.some.inj hl]
    exact hts w hw
  exact va_get hx hb hts hin hown hK hP.1 i hi hc k (by omega) hlk (fun _ h9 => h9) (mfs_get hkl) hdg kk
theorem w_put (hx : p.tables.exec = Jvm.exec) (hb : c.code = cc) (hts : ∀ w ∈ Ts, w.before args s = true) (hcl : mCls Ts) (hown : s.vm.findClass own = some m.cls) (hK : va_K (eD V) vwCl (eT V) s) (hP : mHp V φ h H) (hS : va_S (eA V) H0 H locs) {ini : Bool} (hini : ini = true → meth.name = "<init>") {a ci k idx : Nat} (hk : gK h.1 a = ci + 1) (hci : ci < 13) (hkl : k < (mft.getD ci []).length) {w : Cond} (hw : w ∈ Ts) (hl : mfl own idx ci k = some w) (hfw : mfw own ini ci k = true) {v : Value} (hv : ∀ ty, mtyk (mfk ci k) ty = true → narrow ty v = v ∧ fits ty v = true) (hdg : decode cc pc = .ok (.putfield idx, 3))
    {h' : mH} (hz : h'.1.1 = h.1.1) (hKK : ∀ b, gK h'.1 b = gK h.1 b) (hNN : ∀ b, gN h'.1 b = gN h.1 b) (hR : ∀ a k b, gR h'.1 a k = some b → b < h.1.1) (hI : ∀ a, a < 100 → h'.2.1 a = h.2.1 a) (ho : ∀ b, b ≠ a → ment V φ h' b = ment V φ h b) (he : mfs φ h' a ci = (mfs φ h a ci).set k v)
    (kk : ∀ (H1 : Heap) (locs1 : List Loc), mHp V φ h' H1 → va_S (eA V) H0 H1 locs1 → W p l e R s m args below meth c H1 locs1 cells slots Q (F0 m (pc + 3) ls rest)) : W p l e R s m args below meth c H locs cells slots Q (F0 m pc ls (v :: .ref (φ a) :: rest)) := by
  obtain ⟨C, T, N, ty, hc, hin, hty, hnm, hN, htk⟩ := hcl ci hci
  obtain ⟨i, hi0, hi⟩ := mW_get (V := V) (φ := φ) (mHp_dom hP hk (by omega) (by omega))
  have hset := mW_set (V := V) (φ := φ) (mdom_same hz hKK) hi0 ho
  rw [ment_obj hk hci] at hi
  rw [ment_obj (h := h') (by rw [hKK]; exact hk) hci, he] at hset
  have hlk : (Cond.fieldLink own idx (T k).1 (T k).2.1 (T k).2.2.1).before args s = true := by
    unfold mfl at hl
    rw [hc] at hl
    rw [Option.some.inj hl]
    exact hts w hw
  have hv2 := hv (ty k) (htk k (by omega))
  have kk' : ∀ (H1 : Heap) (locs1 : List Loc), va_P (eD V) vwCl ((mW V φ h).set i (φ a, .inr (ci, (mfs φ h a ci).set k v))) H1 → va_D (eA V) ((mW V φ h).set i (φ a, .inr (ci, (mfs φ h a ci).set k v))) → va_S (eA V) H0 H1 locs1 → W p l e R s m args below meth c H1 locs1 cells slots Q (F0 m (pc + 3) ls rest) := by
    intro H1 locs1 p1 p2 p3
    rw [hset] at p1 p2
    exact kk H1 locs1 (mHp_chg hP hz hKK hNN hR hI p1 p2) p3
  unfold mfw at hfw
  rw [hc] at hfw
  simp only [Bool.or_eq_true, Bool.not_eq_true', Bool.and_eq_true, decide_eq_true_eq] at hfw
  cases hf : (T k).2.2.2 with
  | false => exact va_put hx hb hts hin ty hty hnm hown hK hP.1 hP.2.1 hS i hi hc k (by omega) hlk (fun _ h9 => h9) hf (hty k (by omega)) hv2.1 hv2.2 (by rw [mfs_len]; exact hkl) hdg kk'
  | true =>
    rcases hfw with q | ⟨q1, q2⟩
    · rw [hf] at q; cases q
    · exact va_putF hx hb hts hin ty hty hnm hown hK hP.1 hP.2.1 hS i hi hc k (by omega) hlk (fun _ h9 => h9) hf (hini q1) q2 (hty k (by omega)) hv2.1 hv2.2 (by rw [mfs_len]; exact hkl) hdg kk'
theorem upd_up (f : Nat → Int32) (k : Nat) (v : Int32) : upd f k v = va_up f k v := rfl
theorem updL_up (f : Nat → Int64) (k : Nat) (v : Int64) : vp_updL f k v = va_up f k v := rfl
theorem w_iald (hx : p.tables.exec = Jvm.exec) (hb : c.code = cc) (hK : va_K (eD V) vwCl (eT V) s) (hP : mHp V φ h H) {a : Nat} {i : Int32} (hk : gK h.1 a = 20) (hi : ¬ (i < 0 ∨ gN h.1 a ≤ i.toNatClampNeg)) (hdg : decode cc pc = .ok (.iaload, 1))
    (kk : W p l e R s m args below meth c H locs cells slots Q (F0 m (pc + 1) ls (.int (h.2.1 a i.toNatClampNeg) :: rest))) : W p l e R s m args below meth c H locs cells slots Q (F0 m pc ls (.int i :: .ref (φ a) :: rest)) := by
  obtain ⟨j, -, hj⟩ := mW_get (V := V) (φ := φ) (mHp_dom hP hk (by omega) (by omega))
  rw [ment_I hk] at hj
  exact va_iald hx hb hK hP.1 j 0 hj rfl hi hdg kk
theorem w_lald (hx : p.tables.exec = Jvm.exec) (hb : c.code = cc) (hK : va_K (eD V) vwCl (eT V) s) (hP : mHp V φ h H) {a : Nat} {i : Int32} (hk : gK h.1 a = 21) (hi : ¬ (i < 0 ∨ gN h.1 a ≤ i.toNatClampNeg)) (hdg : decode cc pc = .ok (.laload, 1))
    (kk : W p l e R s m args below meth c H locs cells slots Q (F0 m (pc + 1) ls (.long (h.2.2 a i.toNatClampNeg) :: rest))) : W p l e R s m args below meth c H locs cells slots Q (F0 m pc ls (.int i :: .ref (φ a) :: rest)) := by
  obtain ⟨j, -, hj⟩ := mW_get (V := V) (φ := φ) (mHp_dom hP hk (by omega) (by omega))
  rw [ment_J hk] at hj
  exact va_lald hx hb hK hP.1 j 1 hj rfl hi hdg kk
theorem w_aald (hx : p.tables.exec = Jvm.exec) (hb : c.code = cc) (hK : va_K (eD V) vwCl (eT V) s) (hP : mHp V φ h H) {a : Nat} {i : Int32} (hk : gK h.1 a = 22) (hi : ¬ (i < 0 ∨ gN h.1 a ≤ i.toNatClampNeg)) (hdg : decode cc pc = .ok (.aaload, 1))
    (kk : W p l e R s m args below meth c H locs cells slots Q (F0 m (pc + 1) ls (va_rf ((gR h.1 a i.toNatClampNeg).map φ) :: rest))) : W p l e R s m args below meth c H locs cells slots Q (F0 m pc ls (.int i :: .ref (φ a) :: rest)) := by
  obtain ⟨j, -, hj⟩ := mW_get (V := V) (φ := φ) (mHp_dom hP hk (by omega) (by omega))
  rw [ment_M hk] at hj
  exact va_aldq hx hb hK hP.1 j 2 hj rfl hi hdg kk
theorem w_alen (hx : p.tables.exec = Jvm.exec) (hb : c.code = cc) (hK : va_K (eD V) vwCl (eT V) s) (hP : mHp V φ h H) {a : Nat} (hk : gK h.1 a = 20 ∨ gK h.1 a = 21) (hdg : decode cc pc = .ok (.arraylength, 1))
    (kk : W p l e R s m args below meth c H locs cells slots Q (F0 m (pc + 1) ls (.int (Int32.ofNat (gN h.1 a)) :: rest))) : W p l e R s m args below meth c H locs cells slots Q (F0 m pc ls (.ref (φ a) :: rest)) := by
  rcases hk with hk | hk
  · obtain ⟨j, -, hj⟩ := mW_get (V := V) (φ := φ) (mHp_dom hP hk (by omega) (by omega))
    rw [ment_I hk] at hj
    exact va_alen hx hb hK hP.1 j 0 hj (ty := .int) rfl rfl hdg kk
  · obtain ⟨j, -, hj⟩ := mW_get (V := V) (φ := φ) (mHp_dom hP hk (by omega) (by omega))
    rw [ment_J hk] at hj
    exact va_alen hx hb hK hP.1 j 1 hj (ty := .long) rfl rfl hdg kk
theorem w_iast (hx : p.tables.exec = Jvm.exec) (hb : c.code = cc) (hK : va_K (eD V) vwCl (eT V) s) (hP : mHp V φ h H) (hS : va_S (eA V) H0 H locs) {a : Nat} {i v : Int32} (hk : gK h.1 a = 20) (hi : ¬ (i < 0 ∨ gN h.1 a ≤ i.toNatClampNeg)) (hdg : decode cc pc = .ok (.iastore, 1))
    (kk : ∀ (H1 : Heap) (locs1 : List Loc), mHp V φ (h.1, up2 h.2.1 a i.toNatClampNeg v, h.2.2) H1 → va_S (eA V) H0 H1 locs1 → W p l e R s m args below meth c H1 locs1 cells slots Q (F0 m (pc + 1) ls rest)) : W p l e R s m args below meth c H locs cells slots Q (F0 m pc ls (.int v :: .int i :: .ref (φ a) :: rest)) := by
  have hd := mHp_dom hP hk (by omega) (by omega)
  obtain ⟨j, hj0, hj⟩ := mW_get (V := V) (φ := φ) hd
  have hset := mW_set (V := V) (φ := φ) (h := h) (h' := (h.1, up2 h.2.1 a i.toNatClampNeg v, h.2.2)) rfl hj0 (fun b hb => ment_ext rfl rfl (fun _ => rfl) (up2_n _ _ _ hb) rfl (fun _ _ _ => rfl))
  rw [ment_I (h := (h.1, up2 h.2.1 a i.toNatClampNeg v, h.2.2)) hk] at hset
  rw [ment_I hk] at hj
  have e1 : up2 h.2.1 a i.toNatClampNeg v a = upd (h.2.1 a) i.toNatClampNeg v := up2_s _ _ _ _
  refine va_iast hx hb hK hP.1 hP.2.1 hS j 0 hj rfl hi hdg fun H1 locs1 p1 p2 p3 => ?_
  rw [← e1, hset] at p1 p2
  have h100 := (mem_mdom.mp hd).2.1
  exact kk H1 locs1 (mHp_chg hP rfl (fun _ => rfl) (fun _ => rfl) hP.2.2.1 (fun b hb => up2_n _ _ _ (by omega)) p1 p2) p3
theorem w_last (hx : p.tables.exec = Jvm.exec) (hb : c.code = cc) (hK : va_K (eD V) vwCl (eT V) s) (hP : mHp V φ h H) (hS : va_S (eA V) H0 H locs) {a : Nat} {i : Int32} {v : Int64} (hk : gK h.1 a = 21) (hi : ¬ (i < 0 ∨ gN h.1 a ≤ i.toNatClampNeg)) (hdg : decode cc pc = .ok (.lastore, 1))
    (kk : ∀ (H1 : Heap) (locs1 : List Loc), mHp V φ (h.1, h.2.1, up2 h.2.2 a i.toNatClampNeg v) H1 → va_S (eA V) H0 H1 locs1 → W p l e R s m args below meth c H1 locs1 cells slots Q (F0 m (pc + 1) ls rest)) : W p l e R s m args below meth c H locs cells slots Q (F0 m pc ls (.long v :: .int i :: .ref (φ a) :: rest)) := by
  have hd := mHp_dom hP hk (by omega) (by omega)
  obtain ⟨j, hj0, hj⟩ := mW_get (V := V) (φ := φ) hd
  have hset := mW_set (V := V) (φ := φ) (h := h) (h' := (h.1, h.2.1, up2 h.2.2 a i.toNatClampNeg v)) rfl hj0 (fun b hb => ment_ext rfl rfl (fun _ => rfl) rfl (up2_n _ _ _ hb) (fun _ _ _ => rfl))
  rw [ment_J (h := (h.1, h.2.1, up2 h.2.2 a i.toNatClampNeg v)) hk] at hset
  rw [ment_J hk] at hj
  have e1 : up2 h.2.2 a i.toNatClampNeg v a = vp_updL (h.2.2 a) i.toNatClampNeg v := up2_s _ _ _ _
  refine va_last hx hb hK hP.1 hP.2.1 hS j 1 hj rfl hi hdg fun H1 locs1 p1 p2 p3 => ?_
  rw [← e1, hset] at p1 p2
  exact kk H1 locs1 (mHp_chg hP rfl (fun _ => rfl) (fun _ => rfl) hP.2.2.1 (fun b hb => rfl) p1 p2) p3
theorem gR_gS {G : mG} {a k : Nat} {v : Option Nat} (b j : Nat) : gR (gS G a k v) b j = if b = a then (if j = k then v else gR G a j) else gR G b j := by
  unfold gR gS up2
  by_cases hb : b = a
  · subst hb
    simp [va_up]
  · simp [va_up, hb]
theorem w_aast (hx : p.tables.exec = Jvm.exec) (hb : c.code = cc) (hK : va_K (eD V) vwCl (eT V) s) (hP : mHp V φ h H) (hS : va_S (eA V) H0 H locs) {a b : Nat} {i : Int32} (hk : gK h.1 a = 22) (hkb : gK h.1 b = 6) (hi : ¬ (i < 0 ∨ gN h.1 a ≤ i.toNatClampNeg)) (hdg : decode cc pc = .ok (.aastore, 1))
    (kk : ∀ (H1 : Heap) (locs1 : List Loc), mHp V φ (gS h.1 a i.toNatClampNeg (some b), h.2.1, h.2.2) H1 → va_S (eA V) H0 H1 locs1 → W p l e R s m args below meth c H1 locs1 cells slots Q (F0 m (pc + 1) ls rest)) : W p l e R s m args below meth c H locs cells slots Q (F0 m pc ls (.ref (φ b) :: .int i :: .ref (φ a) :: rest)) := by
  have hd := mHp_dom hP hk (by omega) (by omega)
  have hdb := mHp_dom hP hkb (by omega) (by omega)
  obtain ⟨j, hj0, hj⟩ := mW_get (V := V) (φ := φ) hd
  obtain ⟨jb, -, hjb⟩ := mW_get (V := V) (φ := φ) hdb
  rw [ment_obj (ci := 5) hkb (by omega)] at hjb
  have hset := mW_set (V := V) (φ := φ) (h := h) (h' := (gS h.1 a i.toNatClampNeg (some b), h.2.1, h.2.2)) (mdom_same rfl (fun _ => rfl)) hj0 (fun b hb => ment_ext rfl rfl (fun k => by rw [gR_gS, if_neg hb]) rfl rfl (fun _ _ _ => rfl))
  rw [ment_M (h := (gS h.1 a i.toNatClampNeg (some b), h.2.1, h.2.2)) hk] at hset
  rw [ment_M hk] at hj
  have e1 : (fun j => (gR (gS h.1 a i.toNatClampNeg (some b)) a j).map φ) = va_up (fun j => (gR h.1 a j).map φ) i.toNatClampNeg (some (φ b)) := by
    funext j
    rw [gR_gS, if_pos rfl]
    by_cases hj : j = i.toNatClampNeg
    · rw [if_pos hj, hj, va_up_s]; rfl
    · rw [if_neg hj, va_up_n _ _ hj]
  rw [e1] at hset
  refine va_astq (r := (RX5, TX5, 3)) hx hb hK hP.1 hP.2.1 hS j 2 jb 5 hj rfl hjb rfl hi hdg fun H1 locs1 p1 p2 p3 => ?_
  have e2 : gN (gS h.1 a i.toNatClampNeg (some b)) a = gN h.1 a := rfl
  rw [e2] at hset
  rw [hset] at p1 p2
  refine kk H1 locs1 (mHp_chg hP rfl (fun _ => rfl) (fun _ => rfl) (fun a' k' b' q => ?_) (fun _ _ => rfl) p1 p2) p3
  have q' : gR (gS h.1 a i.toNatClampNeg (some b)) a' k' = some b' := q
  rw [gR_gS] at q'
  by_cases ha : a' = a
  · rw [if_pos ha] at q'
    by_cases hk' : k' = i.toNatClampNeg
    · rw [if_pos hk'] at q'
      cases q'
      exact (mem_mdom.mp hdb).1
    · rw [if_neg hk'] at q'
      exact hP.2.2.1 a k' b' q'
  · rw [if_neg ha] at q'
    exact hP.2.2.1 a' k' b' q'
theorem w_putI (hx : p.tables.exec = Jvm.exec) (hb : c.code = cc) (hts : ∀ w ∈ Ts, w.before args s = true) (hcl : mCls Ts) (hown : s.vm.findClass own = some m.cls) (hK : va_K (eD V) vwCl (eT V) s) (hP : mHp V φ h H) (hS : va_S (eA V) H0 H locs) {ini : Bool} (hini : ini = true → meth.name = "<init>") {a ci k idx : Nat} (hk : gK h.1 a = ci + 1) (hci : ci < 13) (hkl : k < (mft.getD ci []).length) {w : Cond} (hw : w ∈ Ts) (hl : mfl own idx ci k = some w) (hfw : mfw own ini ci k = true) {v : Int32} (hv : mfk ci k = 0 ∨ mfk ci k = 1 ∧ (v = 0 ∨ v = 1)) (hdg : decode cc pc = .ok (.putfield idx, 3))
    (kk : ∀ (H1 : Heap) (locs1 : List Loc), mHp V φ (h.1, up2 h.2.1 a k v, h.2.2) H1 → va_S (eA V) H0 H1 locs1 → W p l e R s m args below meth c H1 locs1 cells slots Q (F0 m (pc + 3) ls rest)) : W p l e R s m args below meth c H locs cells slots Q (F0 m pc ls (.int v :: .ref (φ a) :: rest)) := by
  have hd := mHp_dom hP hk (by omega) (by omega)
  have h100 := (mem_mdom.mp hd).2.1
  refine w_put (v := .int v) hx hb hts hcl hown hK hP hS hini hk hci hkl hw hl hfw ?_ hdg (h' := (h.1, up2 h.2.1 a k v, h.2.2)) rfl (fun _ => rfl) (fun _ => rfl) hP.2.2.1 (fun b hb => up2_n _ _ _ (by omega)) (fun b hb => ment_ext rfl rfl (fun _ => rfl) (up2_n _ _ _ hb) rfl (fun _ _ _ => rfl)) ?_ kk
  · intro ty hty
    rcases hv with hv | ⟨hv, h01⟩
    · rw [hv] at hty
      cases ty <;> first | exact ⟨rfl, rfl⟩ | (simp [mtyk] at hty; done)
    · rw [hv] at hty
      cases ty <;> first | (rcases h01 with rfl | rfl <;> exact ⟨rfl, rfl⟩) | (simp [mtyk] at hty; done)
  · unfold mfs
    refine (mapIdx_set _ _ _ _ _ ?_ ?_).symm
    · intro t ht
      have e : t = mfk ci k := by
        unfold mfk
        rw [List.getD_eq_getElem?_getD (l := mft.getD ci []), ht]
        rfl
      unfold mfv
      rw [e]
      rcases hv with hv | ⟨hv, -⟩
      · rw [hv]
        show Value.int (up2 h.2.1 a k v a k) = .int v
        rw [up2_s, va_up_s]
      · rw [hv]
        show Value.int (up2 h.2.1 a k v a k) = .int v
        rw [up2_s, va_up_s]
    · intro i t hi
      unfold mfv
      have e : up2 h.2.1 a k v a i = h.2.1 a i := by rw [up2_s, va_up_n _ _ hi]
      simp only [e]
theorem w_putR (hx : p.tables.exec = Jvm.exec) (hb : c.code = cc) (hts : ∀ w ∈ Ts, w.before args s = true) (hcl : mCls Ts) (hown : s.vm.findClass own = some m.cls) (hK : va_K (eD V) vwCl (eT V) s) (hP : mHp V φ h H) (hS : va_S (eA V) H0 H locs) {ini : Bool} (hini : ini = true → meth.name = "<init>") {a b ci k idx : Nat} (hk : gK h.1 a = ci + 1) (hci : ci < 13) (hkl : k < (mft.getD ci []).length) {w : Cond} (hw : w ∈ Ts) (hl : mfl own idx ci k = some w) (hfw : mfw own ini ci k = true) (hv : mfk ci k = 2) (hbz : b < h.1.1) (hdg : decode cc pc = .ok (.putfield idx, 3))
    (kk : ∀ (H1 : Heap) (locs1 : List Loc), mHp V φ (gS h.1 a k (some b), h.2.1, h.2.2) H1 → va_S (eA V) H0 H1 locs1 → W p l e R s m args below meth c H1 locs1 cells slots Q (F0 m (pc + 3) ls rest)) : W p l e R s m args below meth c H locs cells slots Q (F0 m pc ls (.ref (φ b) :: .ref (φ a) :: rest)) := by
  refine w_put (v := .ref (φ b)) hx hb hts hcl hown hK hP hS hini hk hci hkl hw hl hfw ?_ hdg (h' := (gS h.1 a k (some b), h.2.1, h.2.2)) rfl (fun _ => rfl) (fun _ => rfl) (fun a' k' b' q => ?_) (fun _ _ => rfl) (fun b hb => ment_ext rfl rfl (fun k => by rw [gR_gS, if_neg hb]) rfl rfl (fun _ _ _ => rfl)) ?_ kk
  · intro ty hty
    rw [hv] at hty
    cases ty <;> first | exact ⟨rfl, rfl⟩ | (simp [mtyk] at hty; done)
  · have q' : gR (gS h.1 a k (some b)) a' k' = some b' := q
    rw [gR_gS] at q'
    by_cases ha : a' = a
    · rw [if_pos ha] at q'
      by_cases hk' : k' = k
      · rw [if_pos hk'] at q'
        cases q'
        exact hbz
      · rw [if_neg hk'] at q'
        exact hP.2.2.1 a k' b' q'
    · rw [if_neg ha] at q'
      exact hP.2.2.1 a' k' b' q'
  · unfold mfs
    refine (mapIdx_set _ _ _ _ _ ?_ ?_).symm
    · intro t ht
      have e : t = mfk ci k := by
        unfold mfk
        rw [List.getD_eq_getElem?_getD (l := mft.getD ci []), ht]
        rfl
      unfold mfv
      rw [e, hv]
      show va_rf ((gR (gS h.1 a k (some b)) a k).map φ) = _
      rw [gR_gS, if_pos rfl, if_pos rfl]
      rfl
    · intro i t hi
      unfold mfv
      have e : gR (gS h.1 a k (some b)) a i = gR h.1 a i := by rw [gR_gS, if_pos rfl, if_neg hi]
      simp only [e]
end MW
