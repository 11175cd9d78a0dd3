/-! the environment at the law's entry: classes -/
section
variable {s : State} {b : Nat}
theorem ev_cl (hts : ∀ w ∈ lw_tbl, w.before #[Value.ref b] s = true) : ∃ (cC : Nat → ClassId) (iS : Nat → Nat → Nat), ∀ (c : Nat) (q : vw_C), vwCl[c]? = some q → u_Kn s q.1 q.2.1 q.2.2 (cC c) (iS c) := by
  have hB : ∀ w ∈ mBT, w.before #[Value.ref b] s = true := fun w hw => hts w (List.mem_filter.mp hw).1
  have h : ∀ c : Nat, ∃ r : ClassId × (Nat → Nat), ∀ q : vw_C, vwCl[c]? = some q → u_Kn s q.1 q.2.1 q.2.2 r.1 r.2 := by
    intro c
    by_cases hc : c < 13
    · obtain ⟨C, T, N, ty, h1, h2, -⟩ := mCls_ok c hc
      have h3 := List.all_eq_true.mp mNw_ok c (List.mem_range.mpr hc)
      rw [h1] at h3
      simp only [Bool.and_eq_true] at h3
      obtain ⟨cC, iS, h4⟩ := u_known hB h2 (hB _ (mwd_mem h3.1))
      refine ⟨(cC, iS), fun q hq => ?_⟩
      rw [h1] at hq
      cases hq
      exact h4
    · refine ⟨(0, fun _ => 0), fun q hq => ?_⟩
      have : vwCl.length = 13 := rfl
      have := (List.getElem?_eq_some_iff.mp hq).1
      omega
  obtain ⟨f, hf⟩ := Classical.skolem.mp h
  exact ⟨fun c => (f c).1, fun c => (f c).2, fun c q hq => hf c q hq⟩
end
