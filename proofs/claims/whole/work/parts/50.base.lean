/-! reading the equations: small rows -/
theorem gk_t {G : mG} {a k : Nat} {X : Option mO} (h : gK G a = k) : gk G a k X = X := if_pos h
theorem gr_t {G : mG} {a k b : Nat} {f : Nat → Option mO} (h : gR G a k = some b) : gr G a k f = f b := by unfold gr; rw [h]
theorem i_of {n : Nat} (h : n < 2147483648) : (Int32.ofNat n).toInt = (n : Int) := Int32.toInt_ofNat_of_lt (by omega)
theorem i_nat {n : Nat} (h : n < 2147483648) : (Int32.ofNat n).toNatClampNeg = n := by
  have := i_of h
  show (Int32.ofNat n).toInt.toNat = n
  omega
theorem i_lt {a b : Nat} (ha : a < 2147483648) (hb : b < 2147483648) : (Int32.ofNat a < Int32.ofNat b) ↔ a < b := by
  rw [Int32.lt_iff_toInt_lt, i_of ha, i_of hb]
  omega
theorem i_le {a b : Nat} (ha : a < 2147483648) (hb : b < 2147483648) : (Int32.ofNat a ≤ Int32.ofNat b) ↔ a ≤ b := by
  rw [Int32.le_iff_toInt_le, i_of ha, i_of hb]
  omega
theorem i_eq {a b : Nat} (ha : a < 2147483648) (hb : b < 2147483648) : (Int32.ofNat a = Int32.ofNat b) ↔ a = b := by
  constructor
  · intro h
    have := congrArg Int32.toInt h
    rw [i_of ha, i_of hb] at this
    omega
  · exact congrArg _
theorem i_neg {n : Nat} (h : n < 2147483648) : ¬ Int32.ofNat n < 0 := by
  have := i_of h
  rw [Int32.lt_iff_toInt_lt, this]
  show ¬ (n : Int) < 0
  omega
theorem i_add (a b : Nat) : Int32.ofNat a + Int32.ofNat b = Int32.ofNat (a + b) := (Int32.ofNat_add a b).symm
theorem i_mul (a b : Nat) : Int32.ofNat a * Int32.ofNat b = Int32.ofNat (a * b) := (Int32.ofNat_mul a b).symm
theorem gx_t {G : mG} {a t j : Nat} {f : Nat → Option mO} (h : gK G a = t) (hj : j < gN G a) (hb : j < 2147483648) : gx G a t (Int32.ofNat j) f = f j := by
  have e : ¬ (Int32.ofNat j < 0 ∨ gN G a ≤ (Int32.ofNat j).toNatClampNeg) := by
    rintro (q | q)
    · exact i_neg hb q
    · rw [i_nat hb] at q; omega
  unfold gx
  rw [if_pos ⟨h, e⟩, i_nat hb]
/-- an int that is not below 0 and below n -/
theorem i_in {x : Int32} {n : Nat} (h0 : ¬ x < 0) (hn : n < 2147483648) (h1 : x < Int32.ofNat n) : ∃ k, k < n ∧ x = Int32.ofNat k := by
  have a : ¬ x.toInt < 0 := fun q => h0 (by rw [Int32.lt_iff_toInt_lt]; exact q)
  have b : x.toInt < n := by rw [Int32.lt_iff_toInt_lt, i_of hn] at h1; exact h1
  refine ⟨x.toInt.toNat, by omega, ?_⟩
  apply Int32.toInt_inj.mp
  rw [i_of (by omega)]
  omega
theorem mcV_v {h : mH} {f : mH → Option mO} {g : String → mH → Option mO} : mcV (some (.inl none, h)) f g = f h := rfl
theorem mcV_e {E : String} {h : mH} {f : mH → Option mO} {g : String → mH → Option mO} : mcV (some (.inr E, h)) f g = g E h := rfl
theorem mcI_v {x : Int32} {h : mH} {f : Int32 → mH → Option mO} {g : String → mH → Option mO} : mcI (some (.inl (some (.int x)), h)) f g = f x h := rfl
theorem mcI_e {E : String} {h : mH} {f : Int32 → mH → Option mO} {g : String → mH → Option mO} : mcI (some (.inr E, h)) f g = g E h := rfl
theorem mcL_v {x : Int64} {h : mH} {f : Int64 → mH → Option mO} {g : String → mH → Option mO} : mcL (some (.inl (some (.long x)), h)) f g = f x h := rfl
theorem mcV_i {p : Prop} [Decidable p] {a b : Option mO} {f : mH → Option mO} {g : String → mH → Option mO} : mcV (if p then a else b) f g = if p then mcV a f g else mcV b f g := by split <;> rfl
theorem mcI_i {p : Prop} [Decidable p] {a b : Option mO} {f : Int32 → mH → Option mO} {g : String → mH → Option mO} : mcI (if p then a else b) f g = if p then mcI a f g else mcI b f g := by split <;> rfl
theorem mcL_i {p : Prop} [Decidable p] {a b : Option mO} {f : Int64 → mH → Option mO} {g : String → mH → Option mO} : mcL (if p then a else b) f g = if p then mcL a f g else mcL b f g := by split <;> rfl
theorem mb0 {X : Option mO} : mbool 0 X = X := if_pos (Or.inl rfl)
theorem mb1 {X : Option mO} : mbool 1 X = X := if_pos (Or.inr rfl)
theorem mthr_e (E : String) (h : mH) : mthr E h = some (.inr E, h) := rfl
/-- iterated steps -/
def itr {σ : Type} (g : Nat → σ → σ) : Nat → σ → σ
  | 0, s => s
  | n + 1, s => g n (itr g n s)
/-- a loop whose counter is an int from 0 to n -/
theorem loop {σ : Type} (F : Int32 → σ → Option mO) (g : Nat → σ → σ) (P : Nat → σ → Prop) (n : Nat) (s : σ) (h0 : P 0 s) (hs : ∀ k s, k < n → P k s → F (Int32.ofNat k) s = F (Int32.ofNat (k + 1)) (g k s) ∧ P (k + 1) (g k s)) : F 0 s = F (Int32.ofNat n) (itr g n s) ∧ P n (itr g n s) := by
  induction n with
  | zero => exact ⟨rfl, h0⟩
  | succ n ih =>
    obtain ⟨e, p⟩ := ih fun k s hk hp => hs k s (by omega) hp
    obtain ⟨e2, p2⟩ := hs n _ (Nat.lt_succ_self n) p
    exact ⟨e.trans e2, p2⟩
/-! the smallest methods of the class -/
theorem c_needWithin (d : Nat) (v a b : Int32) (h : mH) : mcal mT (d + 1) 163 [.int v, .int a, .int b] h = if v < a then some (.inr "java/lang/IllegalArgumentException", h) else if v ≤ b then some (.inl none, h) else some (.inr "java/lang/IllegalArgumentException", h) := by
  obtain ⟨G, I, L⟩ := h
  simp only [q_X11_needWithin_, e_X11_needWithin_0, e_X11_needWithin_10, e_X11_needWithin_18]
