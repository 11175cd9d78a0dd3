/-! the law's run, out of the abstract one -/
def h00 (L : Nat) (xs : Nat → Int32) : mH := ((100, 0, va_up (fun _ => 0) 0 31, va_up (fun _ => 0) 0 L, fun _ _ => none), va_up (fun _ _ => 0) 0 xs, fun _ _ => 0)
def p00 (b : Nat) (V : mEv) : Nat → Nat := fun a => if a = 0 then b else eK V (a - 1)
theorem mdom_00 {L : Nat} {xs : Nat → Int32} : mdom (h00 L xs) = [] := by
  rw [List.eq_nil_iff_forall_not_mem]
  intro a ha
  have := mem_mdom.mp ha
  have h1 : a < 100 := this.1
  omega
theorem mHp_00 {b L : Nat} {xs : Nat → Int32} {V : mEv} {H : Heap} (h1 : eS V = b) (h2 : eL V = L) (h3 : eX V = xs) : mHp V (p00 b V) (h00 L xs) H := by
  have w0 : mW V (p00 b V) (h00 L xs) = [] := by
    unfold mW
    rw [mdom_00]
    rfl
  have kk : ∀ a, gK (h00 L xs).1 a = if a = 0 then 31 else 0 := fun a => by
    show va_up (fun _ => 0) 0 31 a = _
    by_cases a0 : a = 0
    · rw [a0, up_eq, if_pos rfl]
    · rw [up_ne a0, if_neg a0]
  refine ⟨?_, ?_, fun a k q hq => ?_, ⟨h1.symm, fun j _ => ?_⟩, Nat.le_refl _, fun a ha => ?_, fun a ha => ?_⟩
  · rw [w0]
    unfold va_P
    simp
  · rw [w0]
    unfold va_D
    simp
  · cases hq
  · show (if j + 1 = 0 then b else eK V (j + 1 - 1)) = eK V j
    rw [if_neg (by omega), Nat.add_sub_cancel]
  · rw [kk] at ha
    by_cases a0 : a = 0
    · refine ⟨a0, ?_, fun j _ => ?_⟩
      · show va_up (fun _ => 0) 0 L 0 = _
        rw [up_eq, h2]
      · show va_up (fun _ _ => 0) 0 xs 0 j = _
        rw [up_eq, h3]
    · rw [if_neg a0] at ha
      cases ha
  · rw [kk] at ha
    by_cases a0 : a = 0
    · rw [kk, if_pos a0, a0]
      exact ⟨(by decide : 0 < 100), Or.inr ⟨rfl, rfl⟩⟩
    · rw [if_neg a0] at ha
      exact absurd rfl ha
