/-! the environment at the law's entry: the strings -/
theorem st_el : ∀ i, i < 28 → ∀ j, j < (mtxs.getD i []).length → mea i j ∈ flatC (Jvm.Cond.and given_1 narrow_1) := by
  intro i hi
  match i, hi with
  | 0, _ => exact se_of se_0
  | 1, _ => exact se_of se_1
  | 2, _ => exact se_of se_2
  | 3, _ => exact se_of se_3
  | 4, _ => exact se_of se_4
  | 5, _ => exact se_of se_5
  | 6, _ => exact se_of se_6
  | 7, _ => exact se_of se_7
  | 8, _ => exact se_of se_8
  | 9, _ => exact se_of se_9
  | 10, _ => exact se_of se_10
  | 11, _ => exact se_of se_11
  | 12, _ => exact se_of se_12
  | 13, _ => exact se_of se_13
  | 14, _ => exact se_of se_14
  | 15, _ => exact se_of se_15
  | 16, _ => exact se_of se_16
  | 17, _ => exact se_of se_17
  | 18, _ => exact se_of se_18
  | 19, _ => exact se_of se_19
  | 20, _ => exact se_of se_20
  | 21, _ => exact se_of se_21
  | 22, _ => exact se_of se_22
  | 23, _ => exact se_of se_23
  | 24, _ => exact se_of se_24
  | 25, _ => exact se_of se_25
  | 26, _ => exact se_of se_26
  | 27, _ => exact se_of se_27
  | n + 28, h => exact absurd h (by omega)
theorem st_ln : ∀ i : Fin 28, (mtxs.map List.length).getD i.val 0 = (mtxs.getD i.val []).length ∧ (mtxs.getD i.val []).length < 100 := by decide
section
variable {s : State} {b : Nat} {A : Nat → Prop}
theorem ev_st (hts : ∀ w ∈ lw_tbl, w.before #[Value.ref b] s = true) (hg : (Jvm.Cond.and given_1 narrow_1).before #[Value.ref b] s = true) (hA : ∀ a : Nat, a < s.heap.size → ¬ A a) : ∃ r : Nat → Nat × Nat, ∀ i, i < 28 → (va_O "java/lang/String" (r i).1 A s s.heap ∧ va_OF "java/lang/String" "coder" "B" (.int 0) (r i).1 A s s.heap ∧ va_OF "java/lang/String" "value" "[B" (.ref (r i).2) (r i).1 A s s.heap ∧ va_T .byte (r i).2 (mtxs.getD i []).length (fun j => .int ((mtxs.getD i []).getD j 0)) A s s.heap) ∧ vk_R (mstrs.getD i ("", 0, "")).1 (mstrs.getD i ("", 0, "")).2.1 (mstrs.getD i ("", 0, "")).2.2 (r i).1 s := by
  have hs := flat_of_before _ hg
  have h : ∀ i : Nat, ∃ q : Nat × Nat, i < 28 → (va_O "java/lang/String" q.1 A s s.heap ∧ va_OF "java/lang/String" "coder" "B" (.int 0) q.1 A s s.heap ∧ va_OF "java/lang/String" "value" "[B" (.ref q.2) q.1 A s s.heap ∧ va_T .byte q.2 (mtxs.getD i []).length (fun j => .int ((mtxs.getD i []).getD j 0)) A s s.heap) ∧ vk_R (mstrs.getD i ("", 0, "")).1 (mstrs.getD i ("", 0, "")).2.1 (mstrs.getD i ("", 0, "")).2.2 q.1 s := by
    intro i
    by_cases hi : i < 28
    · have hr := List.mem_range.mpr hi
      obtain ⟨ln1, ln2⟩ := st_ln ⟨i, hi⟩
      have e1 := of_decide_eq_true (List.all_eq_true.mp st_ex i hr)
      have e2 := of_decide_eq_true (List.all_eq_true.mp st_co i hr)
      have e3 := of_decide_eq_true (List.all_eq_true.mp st_ar i hr)
      have e4 := of_decide_eq_true (List.all_eq_true.mp st_le i hr)
      have e5 := of_decide_eq_true (List.all_eq_true.mp st_rf i hr)
      dsimp only at ln1 ln2
      rw [ln1] at e4
      have z0 : ∀ k : Nat, k < 1 → k = 0 := fun k hk => by omega
      obtain ⟨aK, aV, v1, v2⟩ := vk_Sof (N := 1) (tm := fun _ => mtm i) (len := [(mtxs.getD i []).length]) (byt := [mtxs.getD i []]) (A := A) (fun k hk => by rw [z0 k hk]; show (mtxs.getD i []).length < 2 ^ 31; omega) (fun k hk => hs _ e1) (fun k hk => hs _ e2) (fun k hk => hs _ e3) (fun k hk => by rw [z0 k hk]; exact hs _ e4) (fun k hk j hj => by rw [z0 k hk] at hj ⊢; exact hs _ (st_el i hi j hj)) (fun k j hk hj ne => absurd ((z0 k hk).trans (z0 j hj).symm) ne) hA
      refine ⟨(aK 0, aV 0), fun _ => ⟨v1.1 0 (by decide), vk_R.of (hts _ e5) (v2 0 (by decide))⟩⟩
    · exact ⟨(0, 0), fun q => absurd q hi⟩
  exact Classical.skolem.mp h
end
