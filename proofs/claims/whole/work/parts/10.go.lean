/-! a configuration that goes on to the method's end -/
theorem mLr_sto {φ : Nat → Nat} {z nL : Nat} {ls : List Value} {als' : Array Slot} {k : Nat} {v : Value} (hr : ∀ a, v = .ref a → a < z) (hz : mrf z ls)
    (h : lv_has als' nL ((k, vm_ φ v) :: (mlv φ 0 ls).filter (fun q => !(q.1 == k) && !(q.1 + 1 == k && q.2.category == 2)))) : mLr φ z (msto ls k v) nL als' := by
  have hk : ∀ (i : Nat) (w : Value), (msto ls k v)[i]? = some w → w ≠ mU → (i = k ∧ w = v) ∨ (i ≠ k ∧ ls[i]? = some w ∧ ¬ (i + 1 = k ∧ w.category = 2)) := by
    intro i w hw hm
    unfold msto at hw
    rw [List.getElem?_set] at hw
    by_cases e : k = i
    · rw [if_pos e] at hw
      split at hw
      · cases hw; exact Or.inl ⟨e.symm, rfl⟩
      · cases hw
    · rw [if_neg e] at hw
      exact Or.inr ⟨fun q => e q.symm, mkill_get hw hm⟩
  refine ⟨h.1, h.2.1, fun i w hw hm => ?_, fun a ha => ?_⟩
  · rcases hk i w hw hm with ⟨rfl, rfl⟩ | ⟨h1, h2, h3⟩
    · exact h.2.2 (i, vm_ φ w) List.mem_cons_self
    · refine h.2.2 (i, vm_ φ w) (List.mem_cons_of_mem _ (List.mem_filter.mpr ⟨mem_mlv.mpr ⟨i, w, h2, hm, by simp⟩, ?_⟩))
      simp only [Bool.and_eq_true, Bool.not_eq_true', beq_eq_false_iff_ne, ne_eq, Bool.and_eq_false_iff, vm_cat]
      refine ⟨h1, ?_⟩
      by_cases e : i + 1 = k
      · exact Or.inr fun q => h3 ⟨e, q⟩
      · exact Or.inl e
  · obtain ⟨i, hi⟩ := List.getElem?_of_mem ha
    rcases hk i _ hi (fun q => by cases q) with ⟨-, q⟩ | ⟨-, h2, -⟩
    · exact hr a q.symm
    · exact hz a (List.mem_of_getElem? h2)
theorem mLr_stl {φ : Nat → Nat} {z nL : Nat} {ls : List Value} {als' : Array Slot} {k : Nat} {v : Int64} (hz : mrf z ls)
    (h : lv_has als' nL ((k, .long v) :: (mlv φ 0 ls).filter (fun q => !(q.1 == k) && (!(q.1 == k + 1) && !(q.1 + 1 == k && q.2.category == 2))))) : mLr φ z (mstl ls k (.long v)) nL als' := by
  have hk : ∀ (i : Nat) (w : Value), (mstl ls k (.long v))[i]? = some w → w ≠ mU → (i = k ∧ w = .long v) ∨ (i ≠ k ∧ i ≠ k + 1 ∧ ls[i]? = some w ∧ ¬ (i + 1 = k ∧ w.category = 2)) := by
    intro i w hw hm
    unfold mstl at hw
    rw [List.getElem?_set] at hw
    by_cases e1 : k + 1 = i
    · rw [if_pos e1] at hw
      split at hw
      · cases hw; exact absurd rfl hm
      · cases hw
    · rw [if_neg e1, List.getElem?_set] at hw
      by_cases e : k = i
      · rw [if_pos e] at hw
        split at hw
        · cases hw; exact Or.inl ⟨e.symm, rfl⟩
        · cases hw
      · rw [if_neg e] at hw
        exact Or.inr ⟨fun q => e q.symm, fun q => e1 q.symm, mkill_get hw hm⟩
  refine ⟨h.1, h.2.1, fun i w hw hm => ?_, fun a ha => ?_⟩
  · rcases hk i w hw hm with ⟨rfl, rfl⟩ | ⟨h1, h1', h2, h3⟩
    · exact h.2.2 (i, .long v) List.mem_cons_self
    · refine h.2.2 (i, vm_ φ w) (List.mem_cons_of_mem _ (List.mem_filter.mpr ⟨mem_mlv.mpr ⟨i, w, h2, hm, by simp⟩, ?_⟩))
      simp only [Bool.and_eq_true, Bool.not_eq_true', beq_eq_false_iff_ne, ne_eq, Bool.and_eq_false_iff, vm_cat]
      refine ⟨h1, h1', ?_⟩
      by_cases e : i + 1 = k
      · exact Or.inr fun q => h3 ⟨e, q⟩
      · exact Or.inl e
  · obtain ⟨i, hi⟩ := List.getElem?_of_mem ha
    rcases hk i _ hi (fun q => by cases q) with ⟨-, q⟩ | ⟨-, -, h2, -⟩
    · cases q
    · exact hz a (List.mem_of_getElem? h2)
abbrev mQ_ : Type := Nat → Array Slot → List Value → Heap → List Loc → Nat → Nat → Prop
def mCf (V : mEv) (H0 : Heap) (nL : Nat) (φ0 : Nat → Nat) (h0 : mH) (φ : Nat → Nat) (h : mH) (ls : List Value) (als : Array Slot) (H : Heap) (locs : List Loc) : Prop :=
  mHp V φ h H ∧ va_S (eA V) H0 H locs ∧ mLr φ h.1.1 ls nL als ∧ (∀ a, a < h0.1.1 → φ a = φ0 a) ∧ h0.1.1 ≤ h.1.1 ∧ h0.1.2.1 ≤ h.1.2.1
def mGo (V : mEv) (H0 : Heap) (nL : Nat) (φ0 : Nat → Nat) (h0 : mH) (Wp : mQ_) (o : mO) (pc : Nat) (ls st : List Value) (h : mH) : Prop :=
  (h.1.1 ≤ o.2.1.1 ∧ h.1.2.1 ≤ o.2.1.2.1) ∧ ∀ φ als H locs, mCf V H0 nL φ0 h0 φ h ls als H locs → mrf h.1.1 st → Wp pc als (st.map (vm_ φ)) H locs (h.1.1 - h0.1.1) (h.1.2.1 - h0.1.2.1)
section GO
variable {V : mEv} {H0 : Heap} {nL : Nat} {φ0 : Nat → Nat} {h0 : mH} {Wp : mQ_} {o : mO} {pc pc' : Nat} {ls ls' st st' : List Value} {h h' : mH}
/-- the stack alone changes -/
theorem go_st (g : mGo V H0 nL φ0 h0 Wp o pc' ls st' h) (hr : ∀ φ als H locs, mCf V H0 nL φ0 h0 φ h ls als H locs → mrf h.1.1 st → mrf h.1.1 st')
    (hW : ∀ φ als H locs k n, mCf V H0 nL φ0 h0 φ h ls als H locs → Wp pc' als (st'.map (vm_ φ)) H locs k n → Wp pc als (st.map (vm_ φ)) H locs k n) : mGo V H0 nL φ0 h0 Wp o pc ls st h :=
  ⟨g.1, fun φ als H locs hc hs => hW φ als H locs _ _ hc (g.2 φ als H locs hc (hr φ als H locs hc hs))⟩
/-- a jump to a cut -/
theorem go_norm (bs : List Bool) (g : mGo V H0 nL φ0 h0 Wp o pc (mnorm bs ls) st h) : mGo V H0 nL φ0 h0 Wp o pc ls st h :=
  ⟨g.1, fun φ als H locs hc hs => g.2 φ als H locs ⟨hc.1, hc.2.1, mLr_norm bs hc.2.2.1, hc.2.2.2⟩ hs⟩
/-- a local is stored -/
theorem go_sto {k : Nat} {v : Value} (g : mGo V H0 nL φ0 h0 Wp o pc' (msto ls k v) st' h) (hr : mrf h.1.1 st → mrf h.1.1 st') (hv : ∀ φ als H locs, mCf V H0 nL φ0 h0 φ h ls als H locs → mrf h.1.1 st → ∀ a, v = .ref a → a < h.1.1)
    (hW : ∀ φ als H locs n1 n2, mCf V H0 nL φ0 h0 φ h ls als H locs → (∀ als' : Array Slot, lv_has als' nL ((k, vm_ φ v) :: (mlv φ 0 ls).filter (fun q => !(q.1 == k) && !(q.1 + 1 == k && q.2.category == 2))) → Wp pc' als' (st'.map (vm_ φ)) H locs n1 n2) → Wp pc als (st.map (vm_ φ)) H locs n1 n2) : mGo V H0 nL φ0 h0 Wp o pc ls st h :=
  ⟨g.1, fun φ als H locs hc hs => hW φ als H locs _ _ hc fun als' hl => g.2 φ als' H locs ⟨hc.1, hc.2.1, mLr_sto (hv φ als H locs hc hs) hc.2.2.1.2.2.2 hl, hc.2.2.2⟩ (hr hs)⟩
theorem go_stl {k : Nat} {v : Int64} (g : mGo V H0 nL φ0 h0 Wp o pc' (mstl ls k (.long v)) st' h) (hr : mrf h.1.1 st → mrf h.1.1 st')
    (hW : ∀ φ als H locs n1 n2, mCf V H0 nL φ0 h0 φ h ls als H locs → (∀ als' : Array Slot, lv_has als' nL ((k, .long v) :: (mlv φ 0 ls).filter (fun q => !(q.1 == k) && (!(q.1 == k + 1) && !(q.1 + 1 == k && q.2.category == 2)))) → Wp pc' als' (st'.map (vm_ φ)) H locs n1 n2) → Wp pc als (st.map (vm_ φ)) H locs n1 n2) : mGo V H0 nL φ0 h0 Wp o pc ls st h :=
  ⟨g.1, fun φ als H locs hc hs => hW φ als H locs _ _ hc fun als' hl => g.2 φ als' H locs ⟨hc.1, hc.2.1, mLr_stl hc.2.2.1.2.2.2 hl, hc.2.2.2⟩ (hr hs)⟩
/-- the heap's contents change, no cell comes -/
theorem go_hp (g : mGo V H0 nL φ0 h0 Wp o pc' ls st' h') (hz : h'.1.1 = h.1.1) (hy : h'.1.2.1 = h.1.2.1) (hr : mrf h.1.1 st → mrf h.1.1 st')
    (hW : ∀ φ als H locs n1 n2, mCf V H0 nL φ0 h0 φ h ls als H locs → mrf h.1.1 st → (∀ (H1 : Heap) (locs1 : List Loc), mHp V φ h' H1 → va_S (eA V) H0 H1 locs1 → Wp pc' als (st'.map (vm_ φ)) H1 locs1 n1 n2) → Wp pc als (st.map (vm_ φ)) H locs n1 n2) : mGo V H0 nL φ0 h0 Wp o pc ls st h := by
  obtain ⟨⟨g1, g2⟩, g3⟩ := g
  refine ⟨⟨by rw [← hz]; exact g1, by rw [← hy]; exact g2⟩, fun φ als H locs hc hs => hW φ als H locs _ _ hc hs fun H1 locs1 hP hS => ?_⟩
  rw [← hz, ← hy]
  refine g3 φ als H1 locs1 ⟨hP, hS, by rw [hz]; exact hc.2.2.1, hc.2.2.2.1, by rw [hz]; exact hc.2.2.2.2.1, by rw [hy]; exact hc.2.2.2.2.2⟩ ?_
  rw [hz]
  exact hr hs
/-- a cell comes -/
theorem go_new {t n m : Nat} (g : mGo V H0 nL φ0 h0 Wp o pc' ls (.ref h.1.1 :: st') (hA h t n m)) (hr : mrf h.1.1 st → mrf h.1.1 st')
    (hW : ∀ φ als H locs n1 n2, mCf V H0 nL φ0 h0 φ h ls als H locs → n1 + 1 ≤ o.2.1.1 - h0.1.1 → n2 + m ≤ o.2.1.2.1 - h0.1.2.1 → (∀ (q : Nat) (H1 : Heap), mHp V (va_up φ h.1.1 q) (hA h t n m) H1 → va_S (eA V) H0 H1 locs → Wp pc' als (.ref q :: st'.map (vm_ φ)) H1 locs (n1 + 1) (n2 + m)) → Wp pc als (st.map (vm_ φ)) H locs n1 n2) : mGo V H0 nL φ0 h0 Wp o pc ls st h := by
  obtain ⟨⟨g1, g2⟩, g3⟩ := g
  have g1' : h.1.1 + 1 ≤ o.2.1.1 := g1
  have g2' : h.1.2.1 + m ≤ o.2.1.2.1 := g2
  refine ⟨⟨by omega, by omega⟩, fun φ als H locs hc hs => ?_⟩
  obtain ⟨c1, c2, c3, c4, c5, c6⟩ := hc
  refine hW φ als H locs _ _ ⟨c1, c2, c3, c4, c5, c6⟩ (by omega) (by omega) fun q H1 hP hS => ?_
  have he : ∀ a, a < h.1.1 → va_up φ h.1.1 q a = φ a := fun a ha => va_up_n _ _ (by omega)
  have k := g3 (va_up φ h.1.1 q) als H1 locs ⟨hP, hS, mLr_ext c3 (Nat.le_succ _) he, fun a ha => by rw [he a (by omega)]; exact c4 a ha, Nat.le_trans c5 (Nat.le_succ _), Nat.le_trans c6 (Nat.le_add_right _ m)⟩ (mrf_cons.mpr ⟨fun a e => by cases e; exact Nat.lt_succ_self _, mrf_mono (Nat.le_succ _) (hr hs)⟩)
  have e1 : (Value.ref h.1.1 :: st').map (vm_ (va_up φ h.1.1 q)) = .ref q :: st'.map (vm_ φ) := by
    rw [List.map_cons, map_ext (hr hs) he]
    show Value.ref (va_up φ h.1.1 q h.1.1) :: _ = _
    rw [va_up_s]
  rw [e1] at k
  have e2 : (hA h t n m).1.1 - h0.1.1 = h.1.1 - h0.1.1 + 1 := by
    show h.1.1 + 1 - h0.1.1 = _
    omega
  have e3 : (hA h t n m).1.2.1 - h0.1.2.1 = h.1.2.1 - h0.1.2.1 + m := by
    show h.1.2.1 + m - h0.1.2.1 = _
    omega
  rw [e2, e3] at k
  exact k
end GO
