/-! decoding of the law -/
theorem dcl_22_0 : ((r_L_law_22.drop 0).take 16).all (mdc code) = true := by decide +kernel
theorem dcl_22_1 : ((r_L_law_22.drop 16).take 16).all (mdc code) = true := by decide +kernel
theorem dcl_22_2 : ((r_L_law_22.drop 32).take 16).all (mdc code) = true := by decide +kernel
theorem dcl_22_3 : ((r_L_law_22.drop 48).take 16).all (mdc code) = true := by decide +kernel
theorem dcl_22 : r_L_law_22.all (mdc code) = true := by
  have e : r_L_law_22 = (r_L_law_22.drop 0).take 16 ++ ((r_L_law_22.drop 16).take 16 ++ ((r_L_law_22.drop 32).take 16 ++ ((r_L_law_22.drop 48).take 16))) := by rfl
  rw [e]
  simp only [List.all_append, Bool.and_eq_true]
  exact ⟨dcl_22_0, ⟨dcl_22_1, ⟨dcl_22_2, dcl_22_3⟩⟩⟩
theorem dcl_23_0 : ((r_L_law_23.drop 0).take 16).all (mdc code) = true := by decide +kernel
theorem dcl_23_1 : ((r_L_law_23.drop 16).take 16).all (mdc code) = true := by decide +kernel
theorem dcl_23_2 : ((r_L_law_23.drop 32).take 16).all (mdc code) = true := by decide +kernel
theorem dcl_23_3 : ((r_L_law_23.drop 48).take 16).all (mdc code) = true := by decide +kernel
theorem dcl_23 : r_L_law_23.all (mdc code) = true := by
  have e : r_L_law_23 = (r_L_law_23.drop 0).take 16 ++ ((r_L_law_23.drop 16).take 16 ++ ((r_L_law_23.drop 32).take 16 ++ ((r_L_law_23.drop 48).take 16))) := by rfl
  rw [e]
  simp only [List.all_append, Bool.and_eq_true]
  exact ⟨dcl_23_0, ⟨dcl_23_1, ⟨dcl_23_2, dcl_23_3⟩⟩⟩
theorem dcl_24_0 : ((r_L_law_24.drop 0).take 16).all (mdc code) = true := by decide +kernel
theorem dcl_24_1 : ((r_L_law_24.drop 16).take 16).all (mdc code) = true := by decide +kernel
theorem dcl_24_2 : ((r_L_law_24.drop 32).take 16).all (mdc code) = true := by decide +kernel
theorem dcl_24_3 : ((r_L_law_24.drop 48).take 16).all (mdc code) = true := by decide +kernel
theorem dcl_24 : r_L_law_24.all (mdc code) = true := by
  have e : r_L_law_24 = (r_L_law_24.drop 0).take 16 ++ ((r_L_law_24.drop 16).take 16 ++ ((r_L_law_24.drop 32).take 16 ++ ((r_L_law_24.drop 48).take 16))) := by rfl
  rw [e]
  simp only [List.all_append, Bool.and_eq_true]
  exact ⟨dcl_24_0, ⟨dcl_24_1, ⟨dcl_24_2, dcl_24_3⟩⟩⟩
theorem dcl_25_0 : ((r_L_law_25.drop 0).take 16).all (mdc code) = true := by decide +kernel
theorem dcl_25_1 : ((r_L_law_25.drop 16).take 16).all (mdc code) = true := by decide +kernel
theorem dcl_25_2 : ((r_L_law_25.drop 32).take 16).all (mdc code) = true := by decide +kernel
theorem dcl_25_3 : ((r_L_law_25.drop 48).take 16).all (mdc code) = true := by decide +kernel
theorem dcl_25 : r_L_law_25.all (mdc code) = true := by
  have e : r_L_law_25 = (r_L_law_25.drop 0).take 16 ++ ((r_L_law_25.drop 16).take 16 ++ ((r_L_law_25.drop 32).take 16 ++ ((r_L_law_25.drop 48).take 16))) := by rfl
  rw [e]
  simp only [List.all_append, Bool.and_eq_true]
  exact ⟨dcl_25_0, ⟨dcl_25_1, ⟨dcl_25_2, dcl_25_3⟩⟩⟩
theorem dcl_26_0 : ((r_L_law_26.drop 0).take 16).all (mdc code) = true := by decide +kernel
theorem dcl_26_1 : ((r_L_law_26.drop 16).take 16).all (mdc code) = true := by decide +kernel
theorem dcl_26_2 : ((r_L_law_26.drop 32).take 16).all (mdc code) = true := by decide +kernel
theorem dcl_26_3 : ((r_L_law_26.drop 48).take 16).all (mdc code) = true := by decide +kernel
theorem dcl_26 : r_L_law_26.all (mdc code) = true := by
  have e : r_L_law_26 = (r_L_law_26.drop 0).take 16 ++ ((r_L_law_26.drop 16).take 16 ++ ((r_L_law_26.drop 32).take 16 ++ ((r_L_law_26.drop 48).take 16))) := by rfl
  rw [e]
  simp only [List.all_append, Bool.and_eq_true]
  exact ⟨dcl_26_0, ⟨dcl_26_1, ⟨dcl_26_2, dcl_26_3⟩⟩⟩
