/-! what a good step shows of the stack and the locals -/
theorem m1i_inv {st : List Value} {f : Int32 → List Value → Option mO} {o : mO} (h : m1i st f = some o) : ∃ x st', st = .int x :: st' ∧ f x st' = some o := by
  unfold m1i at h
  split at h
  · exact ⟨_, _, rfl, h⟩
  · cases h
theorem m1l_inv {st : List Value} {f : Int64 → List Value → Option mO} {o : mO} (h : m1l st f = some o) : ∃ x st', st = .long x :: st' ∧ f x st' = some o := by
  unfold m1l at h
  split at h
  · exact ⟨_, _, rfl, h⟩
  · cases h
theorem m1r_inv {st : List Value} {f : Nat → List Value → Option mO} {o : mO} (h : m1r st f = some o) : ∃ x st', st = .ref x :: st' ∧ f x st' = some o := by
  unfold m1r at h
  split at h
  · exact ⟨_, _, rfl, h⟩
  · cases h
theorem m2i_inv {st : List Value} {f : Int32 → Int32 → List Value → Option mO} {o : mO} (h : m2i st f = some o) : ∃ x y st', st = .int y :: .int x :: st' ∧ f x y st' = some o := by
  unfold m2i at h
  split at h
  · exact ⟨_, _, _, rfl, h⟩
  · cases h
theorem m2l_inv {st : List Value} {f : Int64 → Int64 → List Value → Option mO} {o : mO} (h : m2l st f = some o) : ∃ x y st', st = .long y :: .long x :: st' ∧ f x y st' = some o := by
  unfold m2l at h
  split at h
  · exact ⟨_, _, _, rfl, h⟩
  · cases h
theorem mli_inv {st : List Value} {f : Int64 → Int32 → List Value → Option mO} {o : mO} (h : mli st f = some o) : ∃ x y st', st = .int y :: .long x :: st' ∧ f x y st' = some o := by
  unfold mli at h
  split at h
  · exact ⟨_, _, _, rfl, h⟩
  · cases h
theorem mri_inv {st : List Value} {f : Nat → Int32 → List Value → Option mO} {o : mO} (h : mri st f = some o) : ∃ x y st', st = .int y :: .ref x :: st' ∧ f x y st' = some o := by
  unfold mri at h
  split at h
  · exact ⟨_, _, _, rfl, h⟩
  · cases h
theorem mrr_inv {st : List Value} {f : Nat → Nat → List Value → Option mO} {o : mO} (h : mrr st f = some o) : ∃ x y st', st = .ref y :: .ref x :: st' ∧ f x y st' = some o := by
  unfold mrr at h
  split at h
  · exact ⟨_, _, _, rfl, h⟩
  · cases h
theorem mrii_inv {st : List Value} {f : Nat → Int32 → Int32 → List Value → Option mO} {o : mO} (h : mrii st f = some o) : ∃ a i v st', st = .int v :: .int i :: .ref a :: st' ∧ f a i v st' = some o := by
  unfold mrii at h
  split at h
  · exact ⟨_, _, _, _, rfl, h⟩
  · cases h
theorem mril_inv {st : List Value} {f : Nat → Int32 → Int64 → List Value → Option mO} {o : mO} (h : mril st f = some o) : ∃ a i v st', st = .long v :: .int i :: .ref a :: st' ∧ f a i v st' = some o := by
  unfold mril at h
  split at h
  · exact ⟨_, _, _, _, rfl, h⟩
  · cases h
theorem mrir_inv {st : List Value} {f : Nat → Int32 → Nat → List Value → Option mO} {o : mO} (h : mrir st f = some o) : ∃ a i v st', st = .ref v :: .int i :: .ref a :: st' ∧ f a i v st' = some o := by
  unfold mrir at h
  split at h
  · exact ⟨_, _, _, _, rfl, h⟩
  · cases h
theorem mcpy_inv {st : List Value} {f : Nat → Int32 → Nat → Int32 → Int32 → List Value → Option mO} {o : mO} (h : mcpy st f = some o) : ∃ a sp b dp n st', st = .int n :: .int dp :: .ref b :: .int sp :: .ref a :: st' ∧ f a sp b dp n st' = some o := by
  unfold mcpy at h
  split at h
  · exact ⟨_, _, _, _, _, _, rfl, h⟩
  · cases h
theorem mnul_inv {st : List Value} {f g : List Value → Option mO} {o : mO} (h : mnul st f g = some o) : (∃ a st', st = .ref a :: st' ∧ f st' = some o) ∨ ∃ st', st = .null :: st' ∧ g st' = some o := by
  unfold mnul at h
  split at h
  · exact Or.inl ⟨_, _, rfl, h⟩
  · exact Or.inr ⟨_, rfl, h⟩
  · cases h
theorem m1a_inv {st : List Value} {f : Value → List Value → Option mO} {o : mO} (h : m1a st f = some o) : (∃ a st', st = .ref a :: st' ∧ f (.ref a) st' = some o) ∨ ∃ st', st = .null :: st' ∧ f .null st' = some o := by
  unfold m1a at h
  split at h
  · exact Or.inl ⟨_, _, rfl, h⟩
  · exact Or.inr ⟨_, rfl, h⟩
  · cases h
theorem mv1_inv {st : List Value} {f : Value → List Value → Option mO} {o : mO} (h : mv1 st f = some o) : ∃ v st', st = v :: st' ∧ v.category = 1 ∧ f v st' = some o := by
  unfold mv1 at h
  split at h
  · split at h
    · exact ⟨_, _, rfl, by assumption, h⟩
    · cases h
  · cases h
theorem mv2_inv {st : List Value} {f : Value → Value → List Value → Option mO} {o : mO} (h : mv2 st f = some o) : ∃ v w st', st = v :: w :: st' ∧ (v.category = 1 ∧ w.category = 1) ∧ f v w st' = some o := by
  unfold mv2 at h
  split at h
  · split at h
    · exact ⟨_, _, _, rfl, by assumption, h⟩
    · cases h
  · cases h
theorem lI_inv {ls : List Value} {k : Nat} {f : Int32 → Option mO} {o : mO} (h : lI ls k f = some o) : ∃ v, ls[k]? = some (.int v) ∧ f v = some o := by
  unfold lI at h
  split at h
  · exact ⟨_, by assumption, h⟩
  · cases h
theorem lL_inv {ls : List Value} {k : Nat} {f : Int64 → Option mO} {o : mO} (h : lL ls k f = some o) : ∃ v, ls[k]? = some (.long v) ∧ f v = some o := by
  unfold lL at h
  split at h
  · exact ⟨_, by assumption, h⟩
  · cases h
theorem lA_inv {ls : List Value} {k : Nat} {f : Value → Option mO} {o : mO} (h : lA ls k f = some o) : (∃ a, ls[k]? = some (.ref a) ∧ f (.ref a) = some o) ∨ (ls[k]? = some .null ∧ f .null = some o) := by
  unfold lA at h
  split at h
  · exact Or.inl ⟨_, by assumption, h⟩
  · exact Or.inr ⟨by assumption, h⟩
  · cases h
theorem gk_inv {G : mG} {a k : Nat} {X : Option mO} {o : mO} (h : gk G a k X = some o) : gK G a = k ∧ X = some o := by
  unfold gk at h
  split at h
  · exact ⟨by assumption, h⟩
  · cases h
theorem gr_inv {G : mG} {a k : Nat} {f : Nat → Option mO} {o : mO} (h : gr G a k f = some o) : ∃ b, gR G a k = some b ∧ f b = some o := by
  unfold gr at h
  split at h
  · exact ⟨_, by assumption, h⟩
  · cases h
theorem gy_inv {G : mG} {a k : Nat} {f : Nat → Option mO} {g : Option mO} {o : mO} (h : gy G a k f g = some o) : (∃ b, gR G a k = some b ∧ f b = some o) ∨ (gR G a k = none ∧ g = some o) := by
  unfold gy at h
  split at h
  · exact Or.inl ⟨_, by assumption, h⟩
  · exact Or.inr ⟨by assumption, h⟩
theorem gx_inv {G : mG} {a t : Nat} {i : Int32} {f : Nat → Option mO} {o : mO} (h : gx G a t i f = some o) : gK G a = t ∧ ¬ (i < 0 ∨ gN G a ≤ i.toNatClampNeg) ∧ f i.toNatClampNeg = some o := by
  unfold gx at h
  split at h
  · rename_i q
    exact ⟨q.1, q.2, h⟩
  · cases h
theorem ite_none {p : Prop} [Decidable p] {X : Option mO} {o : mO} (h : (if p then none else X) = some o) : ¬ p ∧ X = some o := by
  split at h
  · cases h
  · exact ⟨by assumption, h⟩
theorem mbool_inv {v : Int32} {X : Option mO} {o : mO} (h : mbool v X = some o) : (v = 0 ∨ v = 1) ∧ X = some o := by
  unfold mbool at h
  split at h
  · exact ⟨by assumption, h⟩
  · cases h
theorem mtext_inv {a : Nat} {f : List Int32 → Option mO} {o : mO} (h : mtext a f = some o) : ∃ j t, a = j + 1 ∧ mtxs[j]? = some t ∧ f t = some o := by
  unfold mtext at h
  split at h
  · cases h
  · split at h
    · exact ⟨_, _, rfl, by assumption, h⟩
    · cases h
theorem mrcv_inv {G : mG} {k : Nat} {as : List Value} {X : Option mO} {o : mO} (h : mrcv G k as X = some o) : X = some o ∧ (k = 0 ∨ ∃ a t, as = .ref a :: t ∧ gK G a = k) := by
  unfold mrcv at h
  split at h
  · exact ⟨h, Or.inl rfl⟩
  · split at h
    · obtain ⟨q1, q2⟩ := gk_inv h
      exact ⟨q2, Or.inr ⟨_, _, rfl, q1⟩⟩
    · cases h
theorem mcV_inv {r : Option mO} {f : mH → Option mO} {g : String → mH → Option mO} {o : mO} (h : mcV r f g = some o) : (∃ h', r = some (.inl none, h') ∧ f h' = some o) ∨ ∃ E h', r = some (.inr E, h') ∧ g E h' = some o := by
  unfold mcV at h
  split at h
  · exact Or.inl ⟨_, rfl, h⟩
  · exact Or.inr ⟨_, _, rfl, h⟩
  · cases h
theorem mcI_inv {r : Option mO} {f : Int32 → mH → Option mO} {g : String → mH → Option mO} {o : mO} (h : mcI r f g = some o) : (∃ v h', r = some (.inl (some (.int v)), h') ∧ f v h' = some o) ∨ ∃ E h', r = some (.inr E, h') ∧ g E h' = some o := by
  unfold mcI at h
  split at h
  · exact Or.inl ⟨_, _, rfl, h⟩
  · exact Or.inr ⟨_, _, rfl, h⟩
  · cases h
theorem mcL_inv {r : Option mO} {f : Int64 → mH → Option mO} {g : String → mH → Option mO} {o : mO} (h : mcL r f g = some o) : (∃ v h', r = some (.inl (some (.long v)), h') ∧ f v h' = some o) ∨ ∃ E h', r = some (.inr E, h') ∧ g E h' = some o := by
  unfold mcL at h
  split at h
  · exact Or.inl ⟨_, _, rfl, h⟩
  · exact Or.inr ⟨_, _, rfl, h⟩
  · cases h
theorem marc_inv {α : Type} {G : mG} {t : Nat} {F : Nat → Nat → α} {a : Nat} {sp : Int32} {b : Nat} {dp n : Int32} {f : (Nat → Nat → α) → Option mO} {o : mO} (h : marc G t F a sp b dp n f = some o) : (gK G a = t ∧ gK G b = t ∧ ¬ sp < 0 ∧ ¬ dp < 0 ∧ ¬ n < 0 ∧ sp.toNatClampNeg + n.toNatClampNeg ≤ gN G a ∧ dp.toNatClampNeg + n.toNatClampNeg ≤ gN G b) ∧ f (va_up F b (va_cpy (F a) (F b) sp.toNatClampNeg dp.toNatClampNeg n.toNatClampNeg)) = some o := by
  unfold marc at h
  split at h
  · exact ⟨by assumption, h⟩
  · cases h
/-! configurations -/
def mrf (z : Nat) (st : List Value) : Prop := ∀ a, Value.ref a ∈ st → a < z
def mLr (φ : Nat → Nat) (z : Nat) (ls : List Value) (nL : Nat) (als : Array Slot) : Prop :=
  als.size = nL ∧ lv_wf als ∧ (∀ (k : Nat) (v : Value), ls[k]? = some v → v ≠ mU → als[k]? = some (Slot.val (vm_ φ v))) ∧ mrf z ls
def mlv (φ : Nat → Nat) : Nat → List Value → List (Nat × Value)
  | _, [] => []
  | k, v :: t => if v = mU then mlv φ (k + 1) t else (k, vm_ φ v) :: mlv φ (k + 1) t
theorem mem_mlv {φ : Nat → Nat} {q : Nat × Value} : ∀ {ls : List Value} {k : Nat}, q ∈ mlv φ k ls ↔ ∃ i v, ls[i]? = some v ∧ v ≠ mU ∧ q = (k + i, vm_ φ v) := by
  intro ls
  induction ls with
  | nil => intro k; simp [mlv]
  | cons w t ih =>
    intro k
    have e : (∃ i v, (w :: t)[i]? = some v ∧ v ≠ mU ∧ q = (k + i, vm_ φ v)) ↔ (w ≠ mU ∧ q = (k, vm_ φ w)) ∨ ∃ i v, t[i]? = some v ∧ v ≠ mU ∧ q = (k + 1 + i, vm_ φ v) := by
      constructor
      · rintro ⟨i, v, h1, h2, h3⟩
        cases i with
        | zero => simp at h1; subst h1; exact Or.inl ⟨h2, h3⟩
        | succ i => exact Or.inr ⟨i, v, by simpa using h1, h2, by rw [h3]; congr 1; omega⟩
      · rintro (⟨h1, h2⟩ | ⟨i, v, h1, h2, h3⟩)
        · exact ⟨0, w, rfl, h1, h2⟩
        · exact ⟨i + 1, v, by simpa using h1, h2, by rw [h3]; congr 1; omega⟩
    rw [e, mlv]
    by_cases hw : w = mU
    · rw [if_pos hw, ih]
      simp [hw]
    · rw [if_neg hw, List.mem_cons, ih]
      simp [hw]
theorem mLr_has {φ : Nat → Nat} {z nL : Nat} {ls : List Value} {als : Array Slot} (h : mLr φ z ls nL als) : lv_has als nL (mlv φ 0 ls) := by
  refine ⟨h.1, h.2.1, fun q hq => ?_⟩
  obtain ⟨i, v, h1, h2, rfl⟩ := mem_mlv.mp hq
  have := h.2.2.1 i v h1 h2
  simpa using this
theorem mrf_nil {z : Nat} : mrf z [] := fun _ h => by cases h
theorem mrf_cons {z : Nat} {v : Value} {st : List Value} : mrf z (v :: st) ↔ (∀ a, v = .ref a → a < z) ∧ mrf z st := by
  unfold mrf
  constructor
  · intro h
    exact ⟨fun a e => h a (by rw [e]; exact List.mem_cons_self), fun a ha => h a (List.mem_cons_of_mem _ ha)⟩
  · rintro ⟨h1, h2⟩ a ha
    rcases List.mem_cons.mp ha with e | e
    · exact h1 a e.symm
    · exact h2 a e
theorem mrf_mono {z z' : Nat} {st : List Value} (hz : z ≤ z') (h : mrf z st) : mrf z' st := fun a ha => Nat.lt_of_lt_of_le (h a ha) hz
theorem vm_ext {φ φ' : Nat → Nat} {z : Nat} {v : Value} (h : ∀ a, v = .ref a → a < z) (he : ∀ a, a < z → φ' a = φ a) : vm_ φ' v = vm_ φ v := by
  cases v <;> first | rfl | exact congrArg Value.ref (he _ (h _ rfl))
theorem map_ext {φ φ' : Nat → Nat} {z : Nat} {st : List Value} (h : mrf z st) (he : ∀ a, a < z → φ' a = φ a) : st.map (vm_ φ') = st.map (vm_ φ) := by
  apply List.map_congr_left
  intro v hv
  exact vm_ext (fun a e => h a (e ▸ hv)) he
theorem mLr_ext {φ φ' : Nat → Nat} {z z' nL : Nat} {ls : List Value} {als : Array Slot} (h : mLr φ z ls nL als) (hz : z ≤ z') (he : ∀ a, a < z → φ' a = φ a) : mLr φ' z' ls nL als := by
  refine ⟨h.1, h.2.1, fun k v hk hv => ?_, mrf_mono hz h.2.2.2⟩
  rw [vm_ext (fun a e => h.2.2.2 a (by rw [← e]; exact List.mem_of_getElem? hk)) he]
  exact h.2.2.1 k v hk hv
theorem mnorm_get : ∀ (bs : List Bool) (ls : List Value) (k : Nat) (v : Value), (mnorm bs ls)[k]? = some v → v = mU ∨ ls[k]? = some v := by
  intro bs
  induction bs with
  | nil => intro ls k v h; simp [mnorm] at h
  | cons b bs ih =>
    intro ls k v h
    cases ls with
    | nil => simp [mnorm] at h
    | cons w ls =>
      cases k with
      | zero =>
        cases b with
        | true => simp [mnorm] at h; exact Or.inr (by simp [h])
        | false => simp [mnorm] at h; exact Or.inl h.symm
      | succ k =>
        have h' : (mnorm bs ls)[k]? = some v := by simpa [mnorm] using h
        rcases ih ls k v h' with e | e
        · exact Or.inl e
        · exact Or.inr (by simpa using e)
theorem mLr_norm {φ : Nat → Nat} {z nL : Nat} {ls : List Value} {als : Array Slot} (bs : List Bool) (h : mLr φ z ls nL als) : mLr φ z (mnorm bs ls) nL als := by
  refine ⟨h.1, h.2.1, fun k v hk hv => ?_, fun a ha => ?_⟩
  · rcases mnorm_get bs ls k v hk with e | e
    · exact absurd e hv
    · exact h.2.2.1 k v e hv
  · obtain ⟨k, hk⟩ := List.getElem?_of_mem ha
    rcases mnorm_get bs ls k _ hk with e | e
    · cases e
    · exact h.2.2.2 a (List.mem_of_getElem? e)
theorem mkill_get {ls : List Value} {k i : Nat} {v : Value} (h : (mkill ls k)[i]? = some v) (hv : v ≠ mU) : ls[i]? = some v ∧ ¬ (i + 1 = k ∧ v.category = 2) := by
  cases k with
  | zero => exact ⟨h, fun q => by omega⟩
  | succ k =>
    unfold mkill at h
    dsimp only at h
    have key : (ls.set k mU)[i]? = some v → ls[i]? = some v ∧ ¬ (i + 1 = k + 1 ∧ v.category = 2) := by
      intro h
      rw [List.getElem?_set] at h
      by_cases e : k = i
      · rw [if_pos e] at h
        split at h
        · cases h; exact absurd rfl hv
        · cases h
      · rw [if_neg e] at h
        exact ⟨h, fun q => e (by omega)⟩
    split at h
    · exact key h
    · exact key h
    · rename_i hx hy
      refine ⟨h, fun q => ?_⟩
      have e : i = k := by omega
      subst e
      cases v <;> first | exact hx _ h | exact hy _ h | (simp [Value.category] at q; done)
