/-! a method whose rows are good is sound -/
def mIk (x : Nat) : Nat × Nat := match x with
  | 0 => (174, 176)
  | 1 => (480, 482)
  | 2 => (483, 485)
  | _ => (489, 491)
def mNms : List String := ["java/lang/RuntimeException", "java/lang/Exception"]
def mokt (own : String) (ik x : Nat) : Bool := decide (own = "BoilerTaps") && (decide (x < 4) && decide (ik = (mIk x).1))
def misInv (i : mI_) : Bool := match i with
  | .invokevirtual _ => true
  | .invokestatic _ => true
  | .invokespecial _ => true
  | _ => false
def misRet (i : mI_) : Bool := match i with
  | .ireturn => true
  | .lreturn => true
  | .return_ => true
  | _ => false
def misThr (i : mI_) (y : Nat) : Bool := match i with
  | .new _ => decide (y ≠ 0)
  | _ => false
def mnew (i : mI_) : Nat := match i with
  | .new k => k
  | _ => 0
def misTab (i : mI_) : Bool := match i with
  | .tableswitch .. => true
  | _ => false
/-- the decoding of a row -/
def mdc (cc : ByteArray) (r : mRow) : Bool := (match decode cc r.1 with
  | .ok q => decide (q.1 = r.2.1) && (misTab r.2.1 || decide (q.2 = mlen r.2.1))
  | _ => false) && (!(misThr r.2.1 r.2.2.2.1) || (decide (decode cc (r.1 + 3) = .ok (.dup, 1)) && (decide (decode cc (r.1 + 4) = .ok (.invokespecial (mIk r.2.2.1).2, 3)) && decide (decode cc (r.1 + 7) = .ok (.athrow, 1)))))
/-- a row, and the place of the next one -/
def mokr (T : List mMi) (own : String) (nL : Nat) (ret : Option FieldType) (ini tab : Bool) (r : mRow) (nxt : Nat) : Bool :=
  if misRet r.2.1 then mokret ret r.2.1 r.2.2.1
  else if misInv r.2.1 then mokc T own r.2.1 r.2.2.1 r.2.2.2.1 r.2.2.2.2.1 && decide (nxt = r.1 + 3)
  else if misThr r.2.1 r.2.2.2.1 then (!tab) && mokt own (mnew r.2.1) r.2.2.1
  else if misTab r.2.1 then mokx own nL ini r.1 r.2.1 r.2.2.1 r.2.2.2.1 r.2.2.2.2.1 r.2.2.2.2.2.2.1 r.2.2.2.2.2.2.2
  else mokx own nL ini r.1 r.2.1 r.2.2.1 r.2.2.2.1 r.2.2.2.2.1 r.2.2.2.2.2.2.1 r.2.2.2.2.2.2.2 && decide (nxt = r.1 + mlen r.2.1)
def mokl (T : List mMi) (own : String) (nL : Nat) (ret : Option FieldType) (ini tab : Bool) : List mRow → Bool
  | [] => true
  | r :: rs => mokr T own nL ret ini tab r (match rs with
    | [] => 0
    | q :: _ => q.1) && mokl T own nL ret ini tab rs
/-- handlers: as the table has them -/
def mokh (own : String) : List Nat → mHd → List (Nat × Nat × Nat × Nat) → Bool
  | _, [], [] => true
  | w :: ws, q :: hd, r :: hh => (decide (q.1 = r.1 ∧ q.2.1 = r.2.1 ∧ q.2.2.1 = r.2.2.1 ∧ r.2.2.2 ≠ 0) && (decide (q.2.2.2 = mexn 0 ∨ q.2.2.2 = mexn 1 ∨ q.2.2.2 = mexn 2 ∨ q.2.2.2 = mexn 3) && mwd w (.classLink own r.2.2.2 q.2.2.2))) && mokh own ws hd hh
  | _, _, _ => false
def mokM (T : List mMi) (q : mMi) : Bool :=
  mokm q && (mokl T (iY q).cls (iL q) (iR q) (decide (iK q = 2)) (decide (iK q = 3)) (iC q) && (decide ((iC q).head?.map (fun r => r.1) = some 0) && (match iK q with
  | 3 => mokh (iY q).cls ((iW q).drop 3) (iD q) (iH q)
  | _ => true)))
theorem mthr_ok : (List.range 4).all (fun x => mwd ([3187, 5015, 5049, 5134].getD x 0) (.classLink RX11 (mIk x).1 (mexn x)) && (mwd ([1017, 1024, 1025, 1027].getD x 0) (.initialized (mexn x)) && ((vx_at0 RX11 (mIk x).2 (mexn x) mNms).all (fun w => (goodWord w && decide (w ∈ lw_tbl)) || (mngw w && decide (w ∈ tables_1))) && ((Cond.classLink RX11 (mIk x).1 (mexn x) :: Cond.initialized (mexn x) :: vx_at0 RX11 (mIk x).2 (mexn x) mNms).all vx_ot && Bundle.fit (mexn x))))) = true := by decide +kernel
theorem mnms_ok : mNms.all Bundle.fit = true := by decide +kernel
theorem mcast_ok : (List.range 4).all (fun x => mnw ([3189, 5017, 5051, 5136].getD x 0) (.castable (mexn x) (mexn x))) = true := by decide +kernel
theorem mNw_ok : (List.range 13).all (fun ci => match vwCl[ci]? with
  | some q => mwd ([2170, 2223, 2176, 2147, 1081, 3084, 1176, 1184, 1239, 2108, 1039, 1031, 7103].getD ci 0) (.instantiable q.1 q.2.2) && mwd ([1009, 1011, 1010, 1008, 1003, 1029, 1004, 1005, 1006, 1007, 1002, 1001, 1013].getD ci 0) (.initialized q.1)
  | none => true) = true := by decide +kernel
theorem mAr_ok : mwd 1079 (.arrayClass .int) = true ∧ mwd 2106 (.arrayClass .long) = true := by decide +kernel
