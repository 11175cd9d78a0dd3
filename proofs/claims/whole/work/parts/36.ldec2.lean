/-! decoding of the law -/
theorem dcl_17_0 : ((r_L_law_17.drop 0).take 16).all (mdc code) = true := by decide +kernel
theorem dcl_17_1 : ((r_L_law_17.drop 16).take 16).all (mdc code) = true := by decide +kernel
theorem dcl_17_2 : ((r_L_law_17.drop 32).take 16).all (mdc code) = true := by decide +kernel
theorem dcl_17_3 : ((r_L_law_17.drop 48).take 16).all (mdc code) = true := by decide +kernel
theorem dcl_17 : r_L_law_17.all (mdc code) = true := by
  have e : r_L_law_17 = (r_L_law_17.drop 0).take 16 ++ ((r_L_law_17.drop 16).take 16 ++ ((r_L_law_17.drop 32).take 16 ++ ((r_L_law_17.drop 48).take 16))) := by rfl
  rw [e]
  simp only [List.all_append, Bool.and_eq_true]
  exact ⟨dcl_17_0, ⟨dcl_17_1, ⟨dcl_17_2, dcl_17_3⟩⟩⟩
theorem dcl_18_0 : ((r_L_law_18.drop 0).take 16).all (mdc code) = true := by decide +kernel
theorem dcl_18_1 : ((r_L_law_18.drop 16).take 16).all (mdc code) = true := by decide +kernel
theorem dcl_18_2 : ((r_L_law_18.drop 32).take 16).all (mdc code) = true := by decide +kernel
theorem dcl_18_3 : ((r_L_law_18.drop 48).take 16).all (mdc code) = true := by decide +kernel
theorem dcl_18 : r_L_law_18.all (mdc code) = true := by
  have e : r_L_law_18 = (r_L_law_18.drop 0).take 16 ++ ((r_L_law_18.drop 16).take 16 ++ ((r_L_law_18.drop 32).take 16 ++ ((r_L_law_18.drop 48).take 16))) := by rfl
  rw [e]
  simp only [List.all_append, Bool.and_eq_true]
  exact ⟨dcl_18_0, ⟨dcl_18_1, ⟨dcl_18_2, dcl_18_3⟩⟩⟩
theorem dcl_19_0 : ((r_L_law_19.drop 0).take 16).all (mdc code) = true := by decide +kernel
theorem dcl_19_1 : ((r_L_law_19.drop 16).take 16).all (mdc code) = true := by decide +kernel
theorem dcl_19_2 : ((r_L_law_19.drop 32).take 16).all (mdc code) = true := by decide +kernel
theorem dcl_19_3 : ((r_L_law_19.drop 48).take 16).all (mdc code) = true := by decide +kernel
theorem dcl_19 : r_L_law_19.all (mdc code) = true := by
  have e : r_L_law_19 = (r_L_law_19.drop 0).take 16 ++ ((r_L_law_19.drop 16).take 16 ++ ((r_L_law_19.drop 32).take 16 ++ ((r_L_law_19.drop 48).take 16))) := by rfl
  rw [e]
  simp only [List.all_append, Bool.and_eq_true]
  exact ⟨dcl_19_0, ⟨dcl_19_1, ⟨dcl_19_2, dcl_19_3⟩⟩⟩
theorem dcl_20_0 : ((r_L_law_20.drop 0).take 16).all (mdc code) = true := by decide +kernel
theorem dcl_20_1 : ((r_L_law_20.drop 16).take 16).all (mdc code) = true := by decide +kernel
theorem dcl_20_2 : ((r_L_law_20.drop 32).take 16).all (mdc code) = true := by decide +kernel
theorem dcl_20_3 : ((r_L_law_20.drop 48).take 16).all (mdc code) = true := by decide +kernel
theorem dcl_20 : r_L_law_20.all (mdc code) = true := by
  have e : r_L_law_20 = (r_L_law_20.drop 0).take 16 ++ ((r_L_law_20.drop 16).take 16 ++ ((r_L_law_20.drop 32).take 16 ++ ((r_L_law_20.drop 48).take 16))) := by rfl
  rw [e]
  simp only [List.all_append, Bool.and_eq_true]
  exact ⟨dcl_20_0, ⟨dcl_20_1, ⟨dcl_20_2, dcl_20_3⟩⟩⟩
theorem dcl_21_0 : ((r_L_law_21.drop 0).take 16).all (mdc code) = true := by decide +kernel
theorem dcl_21_1 : ((r_L_law_21.drop 16).take 16).all (mdc code) = true := by decide +kernel
theorem dcl_21_2 : ((r_L_law_21.drop 32).take 16).all (mdc code) = true := by decide +kernel
theorem dcl_21_3 : ((r_L_law_21.drop 48).take 16).all (mdc code) = true := by decide +kernel
theorem dcl_21 : r_L_law_21.all (mdc code) = true := by
  have e : r_L_law_21 = (r_L_law_21.drop 0).take 16 ++ ((r_L_law_21.drop 16).take 16 ++ ((r_L_law_21.drop 32).take 16 ++ ((r_L_law_21.drop 48).take 16))) := by rfl
  rw [e]
  simp only [List.all_append, Bool.and_eq_true]
  exact ⟨dcl_21_0, ⟨dcl_21_1, ⟨dcl_21_2, dcl_21_3⟩⟩⟩
