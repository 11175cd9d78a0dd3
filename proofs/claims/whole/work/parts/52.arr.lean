/-! rows as functions -/
theorem up_eq {α : Type} {F : Nat → α} {a : Nat} {v : α} : va_up F a v a = v := if_pos rfl
theorem up_ne {α : Type} {F : Nat → α} {a b : Nat} {v : α} (h : b ≠ a) : va_up F a v b = F b := if_neg h
theorem up_up {α : Type} {F : Nat → α} {a : Nat} {v w : α} : va_up (va_up F a v) a w = va_up F a w := by
  funext b
  by_cases h : b = a
  · rw [h, up_eq, up_eq]
  · rw [up_ne h, up_ne h, up_ne h]
theorem up_id {α : Type} {F : Nat → α} {a : Nat} : va_up F a (F a) = F := by
  funext b
  by_cases h : b = a
  · rw [h, up_eq]
  · rw [up_ne h]
def pre {α : Type} (k : Nat) (F g : Nat → α) : Nat → α := fun j => if j < k then F j else g j
theorem pre_0 {α : Type} {F g : Nat → α} : pre 0 F g = g := by
  funext j
  exact if_neg (Nat.not_lt_zero j)
theorem pre_lt {α : Type} {k j : Nat} {F g : Nat → α} (h : j < k) : pre k F g j = F j := if_pos h
theorem pre_ge {α : Type} {k j : Nat} {F g : Nat → α} (h : ¬ j < k) : pre k F g j = g j := if_neg h
theorem pre_s {α : Type} {k : Nat} {F g : Nat → α} {v : α} (hv : v = F k) : va_up (pre k F g) k v = pre (k + 1) F g := by
  funext j
  by_cases h : j = k
  · rw [h, up_eq, pre_lt (Nat.lt_succ_self k), hv]
  · rw [up_ne h]
    by_cases q : j < k
    · rw [pre_lt q, pre_lt (by omega)]
    · rw [pre_ge q, pre_ge (by omega)]
def sm (n : Nat) (f : Nat → Int32) : Int32 := match n with
  | 0 => 0
  | n + 1 => sm n f + f n
theorem sm_0 {f : Nat → Int32} : sm 0 f = 0 := rfl
theorem sm_s {n : Nat} {f : Nat → Int32} : sm (n + 1) f = sm n f + f n := rfl
theorem sm_c {n : Nat} {f g : Nat → Int32} (h : ∀ k, k < n → f k = g k) : sm n f = sm n g := by
  induction n with
  | zero => rfl
  | succ n ih => rw [sm_s, sm_s, ih fun k hk => h k (by omega), h n (by omega)]
/-- an index -/
theorem ix {k n : Nat} (h : k < n) (hn : n < 2147483648) : ¬ Int32.ofNat k < 0 ∧ (Int32.ofNat k).toNatClampNeg = k ∧ ¬ n ≤ k := ⟨i_neg (by omega), i_nat (by omega), by omega⟩
theorem loopx {σ : Type} (F : Int32 → σ → Option mO) (S : Nat → σ) (n : Nat) (hs : ∀ k, k < n → F (Int32.ofNat k) (S k) = F (Int32.ofNat (k + 1)) (S (k + 1))) : F 0 (S 0) = F (Int32.ofNat n) (S n) := by
  induction n with
  | zero => rfl
  | succ n ih => exact (ih fun k hk => hs k (by omega)).trans (hs n (by omega))
theorem i_one (k : Nat) : Int32.ofNat k + 1 = Int32.ofNat (k + 1) := i_add k 1
theorem up2_e {α : Type} {F : Nat → Nat → α} {a k : Nat} {v : α} : up2 F a k v = va_up F a (va_up (F a) k v) := rfl
theorem gk_u {G : mG} {a k : Nat} {X : Option mO} : gk G a k X = if gK G a = k then X else none := rfl
theorem gr_u {G : mG} {a k : Nat} {f : Nat → Option mO} : gr G a k f = match gR G a k with
  | some b => f b
  | none => none := rfl
theorem gx_u {G : mG} {a t : Nat} {i : Int32} {f : Nat → Option mO} : gx G a t i f = if gK G a = t ∧ ¬ (i < 0 ∨ gN G a ≤ i.toNatClampNeg) then f i.toNatClampNeg else none := rfl
theorem mcV_of {r : Option mO} {h : mH} (e : r = some (.inl none, h)) (f : mH → Option mO) (g : String → mH → Option mO) : mcV r f g = f h := by rw [e]; rfl
theorem mcI_of {r : Option mO} {x : Int32} {h : mH} (e : r = some (.inl (some (.int x)), h)) (f : Int32 → mH → Option mO) (g : String → mH → Option mO) : mcI r f g = f x h := by rw [e]; rfl
theorem mcL_of {r : Option mO} {x : Int64} {h : mH} (e : r = some (.inl (some (.long x)), h)) (f : Int64 → mH → Option mO) (g : String → mH → Option mO) : mcL r f g = f x h := by rw [e]; rfl
