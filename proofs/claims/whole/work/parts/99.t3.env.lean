/-! the environment at the law's entry: strings -/
def mtm (i : Nat) : Term := .string (mstrs.getD i ("", 0, "")).1 (mstrs.getD i ("", 0, "")).2.1
theorem st_ex : (List.range 28).all (fun i => decide (Cond.exactly (mtm i) "java/lang/String" ∈ flatC (Jvm.Cond.and given_1 narrow_1))) = true := by decide +kernel
theorem st_co : (List.range 28).all (fun i => decide (Cond.eq (.field (mtm i) "java/lang/String" "coder" "B") (.int 0) ∈ flatC (Jvm.Cond.and given_1 narrow_1))) = true := by decide +kernel
theorem st_ar : (List.range 28).all (fun i => decide (Cond.arrayOf (.field (mtm i) "java/lang/String" "value" "[B") .byte ∈ flatC (Jvm.Cond.and given_1 narrow_1))) = true := by decide +kernel
theorem st_le : (List.range 28).all (fun i => decide (Cond.eq (.length (.field (mtm i) "java/lang/String" "value" "[B")) (.int (Int32.ofNat ((mtxs.map List.length).getD i 0))) ∈ flatC (Jvm.Cond.and given_1 narrow_1))) = true := by decide +kernel
theorem st_rf : (List.range 28).all (fun i => decide (Cond.stringRef (mstrs.getD i ("", 0, "")).1 (mstrs.getD i ("", 0, "")).2.1 (mstrs.getD i ("", 0, "")).2.2 ∈ lw_tbl)) = true := by decide +kernel
