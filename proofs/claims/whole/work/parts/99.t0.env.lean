/-! the environment at the law's entry -/
section
variable {s : State} {b : Nat} {A : Nat → Prop}
theorem ev_nc (hg : (Jvm.Cond.and given_1 narrow_1).before #[Value.ref b] s = true) : ∀ i j, i < 4 → j < 4 → i ≠ j → va_Nc (mexn i) (mexn j) s := by
  have hs := flat_of_before _ hg
  have key : ∀ i j : Fin 4, i ≠ j → Cond.not (.castable (mexn i.val) (mexn j.val)) ∈ flatC (Jvm.Cond.and given_1 narrow_1) := by decide +kernel
  intro i j hi hj ne
  exact va_Nc.of (hs _ (key ⟨i, hi⟩ ⟨j, hj⟩ (fun q => ne (congrArg Fin.val q))))
theorem ev_ao (hts : ∀ w ∈ lw_tbl, w.before #[Value.ref b] s = true) : va_AO "BoilerTaps$Mark" s := by
  have h := hts (Cond.arrayOver (.object "BoilerTaps$Mark")) (by decide +kernel)
  exact h
theorem ev_us (hts : ∀ w ∈ lw_tbl, w.before #[Value.ref b] s = true) (hg : (Jvm.Cond.and given_1 narrow_1).before #[Value.ref b] s = true) (hA : ∀ a : Nat, a < s.heap.size → ¬ A a) : vx_Zq Bundle.tN "UNASSIGNED_STACK" Bundle.steD A s s.heap := by
  exact vx_Zqof (hts _ (by decide +kernel)) (hts _ (by decide +kernel)) (flat_of_before _ hg _ (by decide +kernel)) hA
theorem ev_ss (hts : ∀ w ∈ lw_tbl, w.before #[Value.ref b] s = true) (hg : (Jvm.Cond.and given_1 narrow_1).before #[Value.ref b] s = true) (hA : ∀ a : Nat, a < s.heap.size → ¬ A a) : vx_Zq Bundle.tN "SUPPRESSED_SENTINEL" Bundle.listD A s s.heap := by
  exact vx_Zqof (hts _ (by decide +kernel)) (hts _ (by decide +kernel)) (flat_of_before _ hg _ (by decide +kernel)) hA
theorem ev_cs (hts : ∀ w ∈ lw_tbl, w.before #[Value.ref b] s = true) (hg : (Jvm.Cond.and given_1 narrow_1).before #[Value.ref b] s = true) (hA : ∀ a : Nat, a < s.heap.size → ¬ A a) : va_Z "java/lang/String" "COMPACT_STRINGS" "Z" (.int 1) A s s.heap := by
  exact va_Zof (hts _ (by decide +kernel)) (hts _ (by decide +kernel)) (va_eqi (flat_of_before _ hg _ (by decide +kernel))) hA
theorem ev_sf (hts : ∀ w ∈ lw_tbl, w.before #[Value.ref b] s = true) (hg : (Jvm.Cond.and given_1 narrow_1).before #[Value.ref b] s = true) (hA : ∀ a : Nat, a < s.heap.size → ¬ A a) : va_Zq "jdk/internal/util/Preconditions" "SIOOBE_FORMATTER" "Ljava/util/function/BiFunction;" A s s.heap := by
  exact va_Zqof (hts _ (by decide +kernel)) (hts _ (by decide +kernel)) (flat_of_before _ hg _ (by decide +kernel)) hA
theorem ev_ng (hts : ∀ w ∈ lw_tbl, w.before #[Value.ref b] s = true) : ∀ w ∈ mNG, va_Nw w s := by
  intro w hw
  have h1 := List.mem_filter.mp hw
  have h2 := hts w (List.mem_append_right _ h1.1)
  have h3 := h1.2
  clear h1 hw
  cases w <;> first | exact h2 | cases h3
end
