/-! the environment at the law's entry: all -/
section
variable {s : State} {b L : Nat} {xs : Nat → Int32}
theorem env_ex (hts : ∀ w ∈ lw_tbl, w.before #[Value.ref b] s = true) (hg : (Jvm.Cond.and given_1 narrow_1).before #[Value.ref b] s = true) (hX : va_X b L xs s s.heap) (hb : b < s.heap.size) : ∃ V : mEv, eB V = s.heap.size ∧ eS V = b ∧ eL V = L ∧ eX V = xs ∧ mEnv V s := by
  obtain ⟨cC, iS, h1⟩ := ev_cl hts
  obtain ⟨cI, cJ, cM, h2, h3, h4⟩ := ev_ar hts
  have hA : ∀ a : Nat, a < s.heap.size → ¬ (fun q => s.heap.size ≤ q) a := fun a ha q => Nat.lt_irrefl _ (Nat.lt_of_lt_of_le ha q)
  obtain ⟨r, h5⟩ := ev_st (A := fun q => s.heap.size ≤ q) hts hg hA
  refine ⟨(s.heap.size, b, L, xs, cC, iS, cI, cJ, cM, fun i => (r i).1, fun i => (r i).2), rfl, rfl, rfl, rfl, ⟨h1, fun k q hq => ?_⟩, Nat.le_refl _, hX, hb, ev_us hts hg hA, ev_ss hts hg hA, ev_ao hts, ev_ng hts, fun i hi => (h5 i hi).1, fun i q hq => ?_, ev_cs hts hg hA, ev_nc hg, ev_sf hts hg hA⟩
  · match k, hq with
    | 0, hq => cases hq; exact h2
    | 1, hq => cases hq; exact h3
    | 2, hq => cases hq; exact h4
    | n + 3, hq => cases hq
  · have hl : i < 28 := (List.getElem?_eq_some_iff.mp hq).1
    have e : mstrs.getD i ("", 0, "") = q := by
      rw [List.getD_eq_getElem?_getD, hq]
      rfl
    have := (h5 i hl).2
    rw [e] at this
    exact this
end
