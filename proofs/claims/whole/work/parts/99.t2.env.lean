/-! the environment at the law's entry: arrays -/
section
variable {s : State} {b : Nat}
theorem ev_ac {ty : FieldType} (h : (Cond.arrayClass ty).before #[Value.ref b] s = true) (hn : ∀ C, ty ≠ .object C) : ∃ cA, ArrOfT s cA ty ∧ va_RA s cA ty := by
  obtain ⟨cA, kA, comp, h1, h2, h3⟩ := Cond.arrayClass_spec h
  refine ⟨cA, fun n z => ⟨fun k h => (by cases h), kA, h2, comp, h3⟩, ?_⟩
  cases ty <;> first | exact h1 | exact absurd rfl (hn _)
theorem ev_ar (hts : ∀ w ∈ lw_tbl, w.before #[Value.ref b] s = true) : ∃ cI cJ cM : ClassId, (ArrOfT s cI .int ∧ va_RA s cI .int) ∧ (ArrOfT s cJ .long ∧ va_RA s cJ .long) ∧ (ArrOfT s cM (.object "BoilerTaps$Mark") ∧ va_RA s cM (.object "BoilerTaps$Mark")) := by
  obtain ⟨cI, i1⟩ := ev_ac (ty := .int) (hts _ (List.mem_filter.mp (mwd_mem mAr_ok.1)).1) (fun C q => by cases q)
  obtain ⟨cJ, j1⟩ := ev_ac (ty := .long) (hts _ (List.mem_filter.mp (mwd_mem mAr_ok.2)).1) (fun C q => by cases q)
  obtain ⟨comp, cM, k, h1, -, h2, h3, h4⟩ := Cond.arrayOver_spec (ev_ao hts)
  exact ⟨cI, cJ, cM, i1, j1, fun n z => ⟨fun k h => (by cases h), k, h2, comp, h3⟩, k, comp, h2, h3, h1, h4⟩
end
