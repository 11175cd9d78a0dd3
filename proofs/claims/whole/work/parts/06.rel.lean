/-! how an abstract heap lies in the machine's -/
/-- base, script: address, length, contents; class numbers and slots; int[], long[], Mark[]; String constants and their rows -/
abbrev mEv : Type := Nat × Nat × Nat × (Nat → Int32) × (Nat → ClassId) × (Nat → Nat → Nat) × ClassId × ClassId × ClassId × (Nat → Nat) × (Nat → Nat)
abbrev eB (V : mEv) : Nat := V.1
abbrev eS (V : mEv) : Nat := V.2.1
abbrev eL (V : mEv) : Nat := V.2.2.1
abbrev eX (V : mEv) : Nat → Int32 := V.2.2.2.1
abbrev eD (V : mEv) : va_G := (V.2.2.2.2.1, V.2.2.2.2.2.1)
abbrev eI (V : mEv) : ClassId := V.2.2.2.2.2.2.1
abbrev eJ (V : mEv) : ClassId := V.2.2.2.2.2.2.2.1
abbrev eM (V : mEv) : ClassId := V.2.2.2.2.2.2.2.2.1
abbrev eK (V : mEv) : Nat → Nat := V.2.2.2.2.2.2.2.2.2.1
abbrev eV (V : mEv) : Nat → Nat := V.2.2.2.2.2.2.2.2.2.2
def eT (V : mEv) : List (ClassId × FieldType) := [(eI V, .int), (eJ V, .long), (eM V, .object "BoilerTaps$Mark")]
def eA (V : mEv) : Nat → Prop := fun q => eB V ≤ q
def vm_ (φ : Nat → Nat) (v : Value) : Value := match v with
  | .ref a => .ref (φ a)
  | v => v
theorem vm_cat (φ : Nat → Nat) (v : Value) : (vm_ φ v).category = v.category := by cases v <;> rfl
def mfv (φ : Nat → Nat) (h : mH) (a t k : Nat) : Value := match t with
  | 2 => va_rf ((gR h.1 a k).map φ)
  | _ => .int (h.2.1 a k)
def mfs (φ : Nat → Nat) (h : mH) (a c : Nat) : List Value := (mft.getD c []).mapIdx (fun k t => mfv φ h a t k)
def ment (V : mEv) (φ : Nat → Nat) (h : mH) (a : Nat) : va_E := match gK h.1 a with
  | 20 => .inl (eI V, gN h.1 a, .inl (h.2.1 a))
  | 21 => .inl (eJ V, gN h.1 a, .inr (.inl (h.2.2 a)))
  | 22 => .inl (eM V, gN h.1 a, .inr (.inr (.inr (.inr (fun i => (gR h.1 a i).map φ)))))
  | k => .inr (k - 1, mfs φ h a (k - 1))
def mIn (h : mH) (a : Nat) : Bool := decide (100 ≤ a) && (decide (gK h.1 a ≠ 0) && decide (gK h.1 a < 30))
def mdom (h : mH) : List Nat := (List.range h.1.1).filter (mIn h)
def mW (V : mEv) (φ : Nat → Nat) (h : mH) : va_W := (mdom h).map (fun a => (φ a, ment V φ h a))
/-- the abstract heap h lies at φ in H -/
def mHp (V : mEv) (φ : Nat → Nat) (h : mH) (H : Heap) : Prop :=
  va_P (eD V) vwCl (mW V φ h) H ∧ va_D (eA V) (mW V φ h) ∧ (∀ a k b, gR h.1 a k = some b → b < h.1.1) ∧ (φ 0 = eS V ∧ ∀ j, j < 28 → φ (j + 1) = eK V j) ∧ 100 ≤ h.1.1 ∧
  (∀ a, gK h.1 a = 31 → a = 0 ∧ gN h.1 0 = eL V ∧ ∀ j, j < eL V → h.2.1 0 j = eX V j) ∧ ∀ a, gK h.1 a ≠ 0 → a < h.1.1 ∧ (100 ≤ a ∨ a = 0 ∧ gK h.1 a = 31)
theorem mdom_nd (h : mH) : (mdom h).Nodup := List.Pairwise.filter _ List.nodup_range
theorem mem_mdom {h : mH} {a : Nat} : a ∈ mdom h ↔ a < h.1.1 ∧ 100 ≤ a ∧ gK h.1 a ≠ 0 ∧ gK h.1 a < 30 := by
  simp only [mdom, List.mem_filter, List.mem_range, mIn, Bool.and_eq_true, decide_eq_true_eq]
theorem mW_get {V : mEv} {φ : Nat → Nat} {h : mH} {a : Nat} (ha : a ∈ mdom h) : ∃ k : Nat, (mdom h)[k]? = some a ∧ (mW V φ h)[k]? = some (φ a, ment V φ h a) := by
  obtain ⟨k, hk⟩ := List.getElem?_of_mem ha
  exact ⟨k, hk, by rw [mW, List.getElem?_map, hk]; rfl⟩
theorem mW_set {V : mEv} {φ : Nat → Nat} {h h' : mH} {a k : Nat} (hd : mdom h' = mdom h) (hk : (mdom h)[k]? = some a) (ho : ∀ b, b ≠ a → ment V φ h' b = ment V φ h b) : (mW V φ h).set k (φ a, ment V φ h' a) = mW V φ h' := by
  have hl : k < (mdom h).length := (List.getElem?_eq_some_iff.mp hk).1
  apply List.ext_getElem?
  intro i
  rw [List.getElem?_set]
  by_cases hi : k = i
  · subst hi
    rw [if_pos rfl, if_pos (by rw [mW, List.length_map]; exact hl), mW, List.getElem?_map, hd, hk]
    rfl
  · rw [if_neg hi, mW, mW, List.getElem?_map, List.getElem?_map, hd]
    cases hb : (mdom h)[i]? with
    | none => rfl
    | some b =>
      have hne : b ≠ a := fun e => hi ((List.getElem?_inj hl (mdom_nd h)).mp (by rw [hk, hb, e]))
      show some (φ b, ment V φ h b) = some (φ b, ment V φ h' b)
      rw [ho b hne]
theorem ment_ext {V : mEv} {φ φ' : Nat → Nat} {h h' : mH} {b : Nat} (hK : gK h'.1 b = gK h.1 b) (hN : gN h'.1 b = gN h.1 b) (hR : ∀ k, gR h'.1 b k = gR h.1 b k) (hI : h'.2.1 b = h.2.1 b) (hL : h'.2.2 b = h.2.2 b) (hφ : ∀ k c, gR h.1 b k = some c → φ' c = φ c) : ment V φ' h' b = ment V φ h b := by
  have e : ∀ k, (gR h'.1 b k).map φ' = (gR h.1 b k).map φ := by
    intro k
    rw [hR k]
    cases hq : gR h.1 b k with
    | none => rfl
    | some c => exact congrArg some (hφ k c hq)
  have ef : ∀ t k, mfv φ' h' b t k = mfv φ h b t k := by
    intro t k
    unfold mfv
    rw [e k, hI]
  have es : ∀ c, mfs φ' h' b c = mfs φ h b c := by
    intro c
    unfold mfs
    congr 1
    funext k t
    exact ef t k
  unfold ment
  rw [hK, hN, hI, hL]
  simp only [e, es]
theorem mdom_new {h h' : mH} (hz : h'.1.1 = h.1.1 + 1) (h1 : 100 ≤ h.1.1) (hK : ∀ b, b < h.1.1 → gK h'.1 b = gK h.1 b) (hn : gK h'.1 h.1.1 ≠ 0) (hn2 : gK h'.1 h.1.1 < 30) : mdom h' = mdom h ++ [h.1.1] := by
  unfold mdom
  rw [hz, List.range_succ, List.filter_append]
  congr 1
  · apply List.filter_congr
    intro b hb
    unfold mIn
    rw [hK b (List.mem_range.mp hb)]
  · simp [mIn, h1, hn, hn2]
theorem mdom_hole {h h' : mH} (hz : h'.1.1 = h.1.1 + 1) (hK : ∀ b, b < h.1.1 → gK h'.1 b = gK h.1 b) (hn : gK h'.1 h.1.1 = 0) : mdom h' = mdom h := by
  unfold mdom
  rw [hz, List.range_succ, List.filter_append]
  have e : List.filter (mIn h') [h.1.1] = [] := by simp [mIn, hn]
  rw [e, List.append_nil]
  apply List.filter_congr
  intro b hb
  unfold mIn
  rw [hK b (List.mem_range.mp hb)]
theorem mW_new {V : mEv} {φ : Nat → Nat} {h h' : mH} {q : Nat} (hz : h'.1.1 = h.1.1 + 1) (h1 : 100 ≤ h.1.1) (hK : ∀ b, b < h.1.1 → gK h'.1 b = gK h.1 b) (hn : gK h'.1 h.1.1 ≠ 0) (hn2 : gK h'.1 h.1.1 < 30)
    (ho : ∀ b, b < h.1.1 → ment V (va_up φ h.1.1 q) h' b = ment V φ h b) : mW V (va_up φ h.1.1 q) h' = mW V φ h ++ [(q, ment V (va_up φ h.1.1 q) h' h.1.1)] := by
  unfold mW
  rw [mdom_new hz h1 hK hn hn2, List.map_append]
  congr 1
  · apply List.map_congr_left
    intro b hb
    have hlt := (mem_mdom.mp hb).1
    rw [ho b hlt, va_up, if_neg (by omega)]
  · simp [va_up]
theorem mW_hole {V : mEv} {φ φ' : Nat → Nat} {h h' : mH} (hd : mdom h' = mdom h) (hφ : ∀ b, b < h.1.1 → φ' b = φ b) (ho : ∀ b, b < h.1.1 → ment V φ' h' b = ment V φ h b) : mW V φ' h' = mW V φ h := by
  unfold mW
  rw [hd]
  apply List.map_congr_left
  intro b hb
  have hlt := (mem_mdom.mp hb).1
  rw [ho b hlt, hφ b hlt]
theorem va_up_s {α : Type} (f : Nat → α) (k : Nat) (v : α) : va_up f k v k = v := by simp [va_up]
theorem va_up_n {α : Type} (f : Nat → α) {k j : Nat} (v : α) (h : j ≠ k) : va_up f k v j = f j := by simp [va_up, h]
theorem up2_s {α : Type} (F : Nat → Nat → α) (a k : Nat) (v : α) : up2 F a k v a = va_up (F a) k v := va_up_s _ _ _
theorem up2_n {α : Type} (F : Nat → Nat → α) {a b : Nat} (k : Nat) (v : α) (h : b ≠ a) : up2 F a k v b = F b := va_up_n _ _ h
theorem mapIdx_set {α : Type} (l : List Nat) (f g : Nat → Nat → α) (k : Nat) (v : α) (hk : ∀ t, l[k]? = some t → g k t = v) (ho : ∀ i t, i ≠ k → g i t = f i t) : (l.mapIdx f).set k v = l.mapIdx g := by
  apply List.ext_getElem?
  intro i
  rw [List.getElem?_set, List.getElem?_mapIdx]
  by_cases hi : k = i
  · subst hi
    rw [if_pos rfl, List.length_mapIdx, List.getElem?_mapIdx]
    by_cases hl : k < l.length
    · rw [if_pos hl, List.getElem?_eq_getElem hl]
      show some v = some _
      rw [hk _ (List.getElem?_eq_getElem hl)]
    · rw [if_neg hl, List.getElem?_eq_none (by omega)]
      rfl
  · rw [if_neg hi, List.getElem?_mapIdx]
    cases l[i]? with
    | none => rfl
    | some t =>
      show some _ = some _
      rw [ho i t (fun e => hi e.symm)]
