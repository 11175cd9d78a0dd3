/-! decoding of the law -/
theorem dcl_10_0 : ((r_L_law_10.drop 0).take 16).all (mdc code) = true := by decide +kernel
theorem dcl_10_1 : ((r_L_law_10.drop 16).take 16).all (mdc code) = true := by decide +kernel
theorem dcl_10_2 : ((r_L_law_10.drop 32).take 16).all (mdc code) = true := by decide +kernel
theorem dcl_10_3 : ((r_L_law_10.drop 48).take 16).all (mdc code) = true := by decide +kernel
theorem dcl_10 : r_L_law_10.all (mdc code) = true := by
  have e : r_L_law_10 = (r_L_law_10.drop 0).take 16 ++ ((r_L_law_10.drop 16).take 16 ++ ((r_L_law_10.drop 32).take 16 ++ ((r_L_law_10.drop 48).take 16))) := by rfl
  rw [e]
  simp only [List.all_append, Bool.and_eq_true]
  exact ⟨dcl_10_0, ⟨dcl_10_1, ⟨dcl_10_2, dcl_10_3⟩⟩⟩
theorem dcl_11_0 : ((r_L_law_11.drop 0).take 16).all (mdc code) = true := by decide +kernel
theorem dcl_11_1 : ((r_L_law_11.drop 16).take 16).all (mdc code) = true := by decide +kernel
theorem dcl_11_2 : ((r_L_law_11.drop 32).take 16).all (mdc code) = true := by decide +kernel
theorem dcl_11_3 : ((r_L_law_11.drop 48).take 16).all (mdc code) = true := by decide +kernel
theorem dcl_11 : r_L_law_11.all (mdc code) = true := by
  have e : r_L_law_11 = (r_L_law_11.drop 0).take 16 ++ ((r_L_law_11.drop 16).take 16 ++ ((r_L_law_11.drop 32).take 16 ++ ((r_L_law_11.drop 48).take 16))) := by rfl
  rw [e]
  simp only [List.all_append, Bool.and_eq_true]
  exact ⟨dcl_11_0, ⟨dcl_11_1, ⟨dcl_11_2, dcl_11_3⟩⟩⟩
theorem dcl_12_0 : ((r_L_law_12.drop 0).take 16).all (mdc code) = true := by decide +kernel
theorem dcl_12_1 : ((r_L_law_12.drop 16).take 16).all (mdc code) = true := by decide +kernel
theorem dcl_12_2 : ((r_L_law_12.drop 32).take 16).all (mdc code) = true := by decide +kernel
theorem dcl_12_3 : ((r_L_law_12.drop 48).take 16).all (mdc code) = true := by decide +kernel
theorem dcl_12 : r_L_law_12.all (mdc code) = true := by
  have e : r_L_law_12 = (r_L_law_12.drop 0).take 16 ++ ((r_L_law_12.drop 16).take 16 ++ ((r_L_law_12.drop 32).take 16 ++ ((r_L_law_12.drop 48).take 16))) := by rfl
  rw [e]
  simp only [List.all_append, Bool.and_eq_true]
  exact ⟨dcl_12_0, ⟨dcl_12_1, ⟨dcl_12_2, dcl_12_3⟩⟩⟩
theorem dcl_13_0 : ((r_L_law_13.drop 0).take 16).all (mdc code) = true := by decide +kernel
theorem dcl_13_1 : ((r_L_law_13.drop 16).take 16).all (mdc code) = true := by decide +kernel
theorem dcl_13_2 : ((r_L_law_13.drop 32).take 16).all (mdc code) = true := by decide +kernel
theorem dcl_13_3 : ((r_L_law_13.drop 48).take 16).all (mdc code) = true := by decide +kernel
theorem dcl_13 : r_L_law_13.all (mdc code) = true := by
  have e : r_L_law_13 = (r_L_law_13.drop 0).take 16 ++ ((r_L_law_13.drop 16).take 16 ++ ((r_L_law_13.drop 32).take 16 ++ ((r_L_law_13.drop 48).take 16))) := by rfl
  rw [e]
  simp only [List.all_append, Bool.and_eq_true]
  exact ⟨dcl_13_0, ⟨dcl_13_1, ⟨dcl_13_2, dcl_13_3⟩⟩⟩
theorem dcl_14_0 : ((r_L_law_14.drop 0).take 16).all (mdc code) = true := by decide +kernel
theorem dcl_14_1 : ((r_L_law_14.drop 16).take 16).all (mdc code) = true := by decide +kernel
theorem dcl_14_2 : ((r_L_law_14.drop 32).take 16).all (mdc code) = true := by decide +kernel
theorem dcl_14_3 : ((r_L_law_14.drop 48).take 16).all (mdc code) = true := by decide +kernel
theorem dcl_14 : r_L_law_14.all (mdc code) = true := by
  have e : r_L_law_14 = (r_L_law_14.drop 0).take 16 ++ ((r_L_law_14.drop 16).take 16 ++ ((r_L_law_14.drop 32).take 16 ++ ((r_L_law_14.drop 48).take 16))) := by rfl
  rw [e]
  simp only [List.all_append, Bool.and_eq_true]
  exact ⟨dcl_14_0, ⟨dcl_14_1, ⟨dcl_14_2, dcl_14_3⟩⟩⟩
theorem dcl_15_0 : ((r_L_law_15.drop 0).take 16).all (mdc code) = true := by decide +kernel
theorem dcl_15_1 : ((r_L_law_15.drop 16).take 16).all (mdc code) = true := by decide +kernel
theorem dcl_15_2 : ((r_L_law_15.drop 32).take 16).all (mdc code) = true := by decide +kernel
theorem dcl_15_3 : ((r_L_law_15.drop 48).take 16).all (mdc code) = true := by decide +kernel
theorem dcl_15 : r_L_law_15.all (mdc code) = true := by
  have e : r_L_law_15 = (r_L_law_15.drop 0).take 16 ++ ((r_L_law_15.drop 16).take 16 ++ ((r_L_law_15.drop 32).take 16 ++ ((r_L_law_15.drop 48).take 16))) := by rfl
  rw [e]
  simp only [List.all_append, Bool.and_eq_true]
  exact ⟨dcl_15_0, ⟨dcl_15_1, ⟨dcl_15_2, dcl_15_3⟩⟩⟩
theorem dcl_16_0 : ((r_L_law_16.drop 0).take 16).all (mdc code) = true := by decide +kernel
theorem dcl_16_1 : ((r_L_law_16.drop 16).take 16).all (mdc code) = true := by decide +kernel
theorem dcl_16_2 : ((r_L_law_16.drop 32).take 16).all (mdc code) = true := by decide +kernel
theorem dcl_16_3 : ((r_L_law_16.drop 48).take 16).all (mdc code) = true := by decide +kernel
theorem dcl_16 : r_L_law_16.all (mdc code) = true := by
  have e : r_L_law_16 = (r_L_law_16.drop 0).take 16 ++ ((r_L_law_16.drop 16).take 16 ++ ((r_L_law_16.drop 32).take 16 ++ ((r_L_law_16.drop 48).take 16))) := by rfl
  rw [e]
  simp only [List.all_append, Bool.and_eq_true]
  exact ⟨dcl_16_0, ⟨dcl_16_1, ⟨dcl_16_2, dcl_16_3⟩⟩⟩
