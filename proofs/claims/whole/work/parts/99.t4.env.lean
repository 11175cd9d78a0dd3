/-! the environment at the law's entry: the strings' elements -/
def mea (i j : Nat) : Cond := .eq (.elem (.field (mtm i) "java/lang/String" "value" "[B") (.int (Int32.ofNat j))) (.int ((mtxs.getD i []).getD j 0))
theorem se_0 : ((flatC (Jvm.Cond.and given_1 narrow_1)).drop 217).take 4 = (List.range 4).map (mea 0) := by decide +kernel
theorem se_1 : ((flatC (Jvm.Cond.and given_1 narrow_1)).drop 225).take 4 = (List.range 4).map (mea 1) := by decide +kernel
theorem se_2 : ((flatC (Jvm.Cond.and given_1 narrow_1)).drop 233).take 7 = (List.range 7).map (mea 2) := by decide +kernel
theorem se_3 : ((flatC (Jvm.Cond.and given_1 narrow_1)).drop 244).take 4 = (List.range 4).map (mea 3) := by decide +kernel
theorem se_4 : ((flatC (Jvm.Cond.and given_1 narrow_1)).drop 252).take 4 = (List.range 4).map (mea 4) := by decide +kernel
theorem se_5 : ((flatC (Jvm.Cond.and given_1 narrow_1)).drop 260).take 5 = (List.range 5).map (mea 5) := by decide +kernel
theorem se_6 : ((flatC (Jvm.Cond.and given_1 narrow_1)).drop 269).take 6 = (List.range 6).map (mea 6) := by decide +kernel
theorem se_7 : ((flatC (Jvm.Cond.and given_1 narrow_1)).drop 279).take 3 = (List.range 3).map (mea 7) := by decide +kernel
theorem se_8 : ((flatC (Jvm.Cond.and given_1 narrow_1)).drop 286).take 8 = (List.range 8).map (mea 8) := by decide +kernel
theorem se_9 : ((flatC (Jvm.Cond.and given_1 narrow_1)).drop 298).take 4 = (List.range 4).map (mea 9) := by decide +kernel
theorem se_10 : ((flatC (Jvm.Cond.and given_1 narrow_1)).drop 306).take 6 = (List.range 6).map (mea 10) := by decide +kernel
theorem se_11 : ((flatC (Jvm.Cond.and given_1 narrow_1)).drop 316).take 5 = (List.range 5).map (mea 11) := by decide +kernel
theorem se_12 : ((flatC (Jvm.Cond.and given_1 narrow_1)).drop 325).take 4 = (List.range 4).map (mea 12) := by decide +kernel
theorem se_13 : ((flatC (Jvm.Cond.and given_1 narrow_1)).drop 333).take 3 = (List.range 3).map (mea 13) := by decide +kernel
theorem se_14 : ((flatC (Jvm.Cond.and given_1 narrow_1)).drop 340).take 4 = (List.range 4).map (mea 14) := by decide +kernel
theorem se_15 : ((flatC (Jvm.Cond.and given_1 narrow_1)).drop 348).take 3 = (List.range 3).map (mea 15) := by decide +kernel
theorem se_16 : ((flatC (Jvm.Cond.and given_1 narrow_1)).drop 404).take 2 = (List.range 2).map (mea 16) := by decide +kernel
theorem se_17 : ((flatC (Jvm.Cond.and given_1 narrow_1)).drop 396).take 3 = (List.range 3).map (mea 17) := by decide +kernel
theorem se_18 : ((flatC (Jvm.Cond.and given_1 narrow_1)).drop 355).take 3 = (List.range 3).map (mea 18) := by decide +kernel
theorem se_19 : ((flatC (Jvm.Cond.and given_1 narrow_1)).drop 362).take 5 = (List.range 5).map (mea 19) := by decide +kernel
theorem se_20 : ((flatC (Jvm.Cond.and given_1 narrow_1)).drop 371).take 4 = (List.range 4).map (mea 20) := by decide +kernel
theorem se_21 : ((flatC (Jvm.Cond.and given_1 narrow_1)).drop 379).take 6 = (List.range 6).map (mea 21) := by decide +kernel
theorem se_22 : ((flatC (Jvm.Cond.and given_1 narrow_1)).drop 389).take 3 = (List.range 3).map (mea 22) := by decide +kernel
theorem se_23 : ((flatC (Jvm.Cond.and given_1 narrow_1)).drop 148).take 23 = (List.range 23).map (mea 23) := by decide +kernel
theorem se_24 : ((flatC (Jvm.Cond.and given_1 narrow_1)).drop 211).take 2 = (List.range 2).map (mea 24) := by decide +kernel
theorem se_25 : ((flatC (Jvm.Cond.and given_1 narrow_1)).drop 204).take 3 = (List.range 3).map (mea 25) := by decide +kernel
theorem se_26 : ((flatC (Jvm.Cond.and given_1 narrow_1)).drop 175).take 25 = (List.range 25).map (mea 26) := by decide +kernel
theorem se_27 : ((flatC (Jvm.Cond.and given_1 narrow_1)).drop 79).take 65 = (List.range 65).map (mea 27) := by decide +kernel
theorem se_of {k n i : Nat} (h : ((flatC (Jvm.Cond.and given_1 narrow_1)).drop k).take n = (List.range n).map (mea i)) : ∀ j, j < n → mea i j ∈ flatC (Jvm.Cond.and given_1 narrow_1) := by
  intro j hj
  have : mea i j ∈ (List.range n).map (mea i) := List.mem_map.mpr ⟨j, List.mem_range.mpr hj, rfl⟩
  rw [← h] at this
  exact List.mem_of_mem_drop (List.mem_of_mem_take this)
