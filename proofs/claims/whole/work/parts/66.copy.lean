/-! rows copied -/
theorem cpy_pre {α : Type} {A B : Nat → α} {n : Nat} : va_cpy A B 0 0 n = pre n A B := by
  funext j
  unfold va_cpy pre
  by_cases q : j < n
  · simp [q]
  · simp [q]
theorem marc_t {α : Type} {G : mG} {t n a b : Nat} {F : Nat → Nat → α} (ka : gK G a = t) (kb : gK G b = t) (na : gN G a = n) (nb : gN G b = n) (hn : n < 2147483648) (f : (Nat → Nat → α) → Option mO) : marc G t F a 0 b 0 (Int32.ofNat n) f = f (va_up F b (pre n (F a) (F b))) := by
  have z : (0 : Int32).toNatClampNeg = 0 := rfl
  unfold marc
  rw [z, i_nat hn, cpy_pre, if_pos ⟨ka, kb, by decide, by decide, i_neg hn, by omega, by omega⟩]
