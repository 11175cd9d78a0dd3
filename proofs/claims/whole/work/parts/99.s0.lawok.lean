/-! the law's rows are good -/
def mokn (T : List mMi) (own : String) (nL : Nat) (ret : Option FieldType) (ini tab : Bool) : List mRow → Nat → Bool
  | [], _ => true
  | r :: rs, n => mokr T own nL ret ini tab r (match rs with
    | [] => n
    | q :: _ => q.1) && mokn T own nL ret ini tab rs n
def hpc (B : List mRow) (n : Nat) : Nat := match B with
  | [] => n
  | q :: _ => q.1
section
variable {T : List mMi} {own : String} {nL : Nat} {ret : Option FieldType} {ini tab : Bool}
theorem mokn_app {B : List mRow} {n : Nat} : ∀ {A : List mRow}, mokn T own nL ret ini tab A (hpc B n) = true → mokn T own nL ret ini tab B n = true → mokn T own nL ret ini tab (A ++ B) n = true := by
  intro A
  induction A with
  | nil => intro _ h; exact h
  | cons r rs ih =>
    intro h1 h2
    unfold mokn at h1
    rw [Bool.and_eq_true] at h1
    show mokn T own nL ret ini tab (r :: (rs ++ B)) n = true
    unfold mokn
    rw [Bool.and_eq_true]
    refine ⟨?_, ih h1.2 h2⟩
    cases rs with
    | nil => exact h1.1
    | cons q qs => exact h1.1
theorem mokl_n : ∀ {A : List mRow}, mokn T own nL ret ini tab A 0 = true → mokl T own nL ret ini tab A = true := by
  intro A
  induction A with
  | nil => intro _; rfl
  | cons r rs ih =>
    intro h
    unfold mokn at h
    rw [Bool.and_eq_true] at h
    unfold mokl
    rw [Bool.and_eq_true]
    exact ⟨h.1, ih h.2⟩
end
theorem okl_0_0 : mokn mT "BoilerTapsLaw" 7 ret false true ((r_L_law_0.drop 0).take 16) 27 = true := by decide +kernel
theorem okl_0_1 : mokn mT "BoilerTapsLaw" 7 ret false true ((r_L_law_0.drop 16).take 16) 232 = true := by decide +kernel
theorem okl_0_2 : mokn mT "BoilerTapsLaw" 7 ret false true ((r_L_law_0.drop 32).take 16) 252 = true := by decide +kernel
theorem okl_0_3 : mokn mT "BoilerTapsLaw" 7 ret false true ((r_L_law_0.drop 48).take 16) 272 = true := by decide +kernel
theorem okl_0 : mokn mT "BoilerTapsLaw" 7 ret false true r_L_law_0 272 = true := by
  have e : r_L_law_0 = (r_L_law_0.drop 0).take 16 ++ ((r_L_law_0.drop 16).take 16 ++ ((r_L_law_0.drop 32).take 16 ++ ((r_L_law_0.drop 48).take 16))) := by rfl
  rw [e]
  exact mokn_app okl_0_0 (mokn_app okl_0_1 (mokn_app okl_0_2 (okl_0_3)))
theorem okl_1_0 : mokn mT "BoilerTapsLaw" 7 ret false true ((r_L_law_1.drop 0).take 16) 295 = true := by decide +kernel
theorem okl_1_1 : mokn mT "BoilerTapsLaw" 7 ret false true ((r_L_law_1.drop 16).take 16) 316 = true := by decide +kernel
theorem okl_1_2 : mokn mT "BoilerTapsLaw" 7 ret false true ((r_L_law_1.drop 32).take 16) 344 = true := by decide +kernel
theorem okl_1_3 : mokn mT "BoilerTapsLaw" 7 ret false true ((r_L_law_1.drop 48).take 16) 368 = true := by decide +kernel
theorem okl_1 : mokn mT "BoilerTapsLaw" 7 ret false true r_L_law_1 368 = true := by
  have e : r_L_law_1 = (r_L_law_1.drop 0).take 16 ++ ((r_L_law_1.drop 16).take 16 ++ ((r_L_law_1.drop 32).take 16 ++ ((r_L_law_1.drop 48).take 16))) := by rfl
  rw [e]
  exact mokn_app okl_1_0 (mokn_app okl_1_1 (mokn_app okl_1_2 (okl_1_3)))
theorem okl_2_0 : mokn mT "BoilerTapsLaw" 7 ret false true ((r_L_law_2.drop 0).take 16) 396 = true := by decide +kernel
theorem okl_2_1 : mokn mT "BoilerTapsLaw" 7 ret false true ((r_L_law_2.drop 16).take 16) 423 = true := by decide +kernel
theorem okl_2_2 : mokn mT "BoilerTapsLaw" 7 ret false true ((r_L_law_2.drop 32).take 16) 447 = true := by decide +kernel
theorem okl_2_3 : mokn mT "BoilerTapsLaw" 7 ret false true ((r_L_law_2.drop 48).take 16) 474 = true := by decide +kernel
theorem okl_2 : mokn mT "BoilerTapsLaw" 7 ret false true r_L_law_2 474 = true := by
  have e : r_L_law_2 = (r_L_law_2.drop 0).take 16 ++ ((r_L_law_2.drop 16).take 16 ++ ((r_L_law_2.drop 32).take 16 ++ ((r_L_law_2.drop 48).take 16))) := by rfl
  rw [e]
  exact mokn_app okl_2_0 (mokn_app okl_2_1 (mokn_app okl_2_2 (okl_2_3)))
theorem okl_3_0 : mokn mT "BoilerTapsLaw" 7 ret false true ((r_L_law_3.drop 0).take 16) 497 = true := by decide +kernel
theorem okl_3_1 : mokn mT "BoilerTapsLaw" 7 ret false true ((r_L_law_3.drop 16).take 16) 521 = true := by decide +kernel
theorem okl_3_2 : mokn mT "BoilerTapsLaw" 7 ret false true ((r_L_law_3.drop 32).take 16) 547 = true := by decide +kernel
theorem okl_3_3 : mokn mT "BoilerTapsLaw" 7 ret false true ((r_L_law_3.drop 48).take 16) 569 = true := by decide +kernel
theorem okl_3 : mokn mT "BoilerTapsLaw" 7 ret false true r_L_law_3 569 = true := by
  have e : r_L_law_3 = (r_L_law_3.drop 0).take 16 ++ ((r_L_law_3.drop 16).take 16 ++ ((r_L_law_3.drop 32).take 16 ++ ((r_L_law_3.drop 48).take 16))) := by rfl
  rw [e]
  exact mokn_app okl_3_0 (mokn_app okl_3_1 (mokn_app okl_3_2 (okl_3_3)))
theorem okl_4_0 : mokn mT "BoilerTapsLaw" 7 ret false true ((r_L_law_4.drop 0).take 16) 594 = true := by decide +kernel
theorem okl_4_1 : mokn mT "BoilerTapsLaw" 7 ret false true ((r_L_law_4.drop 16).take 16) 619 = true := by decide +kernel
theorem okl_4_2 : mokn mT "BoilerTapsLaw" 7 ret false true ((r_L_law_4.drop 32).take 16) 640 = true := by decide +kernel
theorem okl_4_3 : mokn mT "BoilerTapsLaw" 7 ret false true ((r_L_law_4.drop 48).take 16) 668 = true := by decide +kernel
theorem okl_4 : mokn mT "BoilerTapsLaw" 7 ret false true r_L_law_4 668 = true := by
  have e : r_L_law_4 = (r_L_law_4.drop 0).take 16 ++ ((r_L_law_4.drop 16).take 16 ++ ((r_L_law_4.drop 32).take 16 ++ ((r_L_law_4.drop 48).take 16))) := by rfl
  rw [e]
  exact mokn_app okl_4_0 (mokn_app okl_4_1 (mokn_app okl_4_2 (okl_4_3)))
theorem okl_5_0 : mokn mT "BoilerTapsLaw" 7 ret false true ((r_L_law_5.drop 0).take 16) 690 = true := by decide +kernel
theorem okl_5_1 : mokn mT "BoilerTapsLaw" 7 ret false true ((r_L_law_5.drop 16).take 16) 712 = true := by decide +kernel
theorem okl_5_2 : mokn mT "BoilerTapsLaw" 7 ret false true ((r_L_law_5.drop 32).take 16) 740 = true := by decide +kernel
theorem okl_5_3 : mokn mT "BoilerTapsLaw" 7 ret false true ((r_L_law_5.drop 48).take 16) 762 = true := by decide +kernel
theorem okl_5 : mokn mT "BoilerTapsLaw" 7 ret false true r_L_law_5 762 = true := by
  have e : r_L_law_5 = (r_L_law_5.drop 0).take 16 ++ ((r_L_law_5.drop 16).take 16 ++ ((r_L_law_5.drop 32).take 16 ++ ((r_L_law_5.drop 48).take 16))) := by rfl
  rw [e]
  exact mokn_app okl_5_0 (mokn_app okl_5_1 (mokn_app okl_5_2 (okl_5_3)))
theorem okl_6_0 : mokn mT "BoilerTapsLaw" 7 ret false true ((r_L_law_6.drop 0).take 16) 785 = true := by decide +kernel
theorem okl_6_1 : mokn mT "BoilerTapsLaw" 7 ret false true ((r_L_law_6.drop 16).take 16) 813 = true := by decide +kernel
theorem okl_6_2 : mokn mT "BoilerTapsLaw" 7 ret false true ((r_L_law_6.drop 32).take 16) 835 = true := by decide +kernel
theorem okl_6_3 : mokn mT "BoilerTapsLaw" 7 ret false true ((r_L_law_6.drop 48).take 16) 858 = true := by decide +kernel
theorem okl_6 : mokn mT "BoilerTapsLaw" 7 ret false true r_L_law_6 858 = true := by
  have e : r_L_law_6 = (r_L_law_6.drop 0).take 16 ++ ((r_L_law_6.drop 16).take 16 ++ ((r_L_law_6.drop 32).take 16 ++ ((r_L_law_6.drop 48).take 16))) := by rfl
  rw [e]
  exact mokn_app okl_6_0 (mokn_app okl_6_1 (mokn_app okl_6_2 (okl_6_3)))
theorem okl_7_0 : mokn mT "BoilerTapsLaw" 7 ret false true ((r_L_law_7.drop 0).take 16) 889 = true := by decide +kernel
theorem okl_7_1 : mokn mT "BoilerTapsLaw" 7 ret false true ((r_L_law_7.drop 16).take 16) 915 = true := by decide +kernel
theorem okl_7_2 : mokn mT "BoilerTapsLaw" 7 ret false true ((r_L_law_7.drop 32).take 16) 940 = true := by decide +kernel
theorem okl_7_3 : mokn mT "BoilerTapsLaw" 7 ret false true ((r_L_law_7.drop 48).take 16) 966 = true := by decide +kernel
theorem okl_7 : mokn mT "BoilerTapsLaw" 7 ret false true r_L_law_7 966 = true := by
  have e : r_L_law_7 = (r_L_law_7.drop 0).take 16 ++ ((r_L_law_7.drop 16).take 16 ++ ((r_L_law_7.drop 32).take 16 ++ ((r_L_law_7.drop 48).take 16))) := by rfl
  rw [e]
  exact mokn_app okl_7_0 (mokn_app okl_7_1 (mokn_app okl_7_2 (okl_7_3)))
theorem okl_8_0 : mokn mT "BoilerTapsLaw" 7 ret false true ((r_L_law_8.drop 0).take 16) 995 = true := by decide +kernel
theorem okl_8_1 : mokn mT "BoilerTapsLaw" 7 ret false true ((r_L_law_8.drop 16).take 16) 1016 = true := by decide +kernel
theorem okl_8_2 : mokn mT "BoilerTapsLaw" 7 ret false true ((r_L_law_8.drop 32).take 16) 1037 = true := by decide +kernel
theorem okl_8_3 : mokn mT "BoilerTapsLaw" 7 ret false true ((r_L_law_8.drop 48).take 16) 1065 = true := by decide +kernel
theorem okl_8 : mokn mT "BoilerTapsLaw" 7 ret false true r_L_law_8 1065 = true := by
  have e : r_L_law_8 = (r_L_law_8.drop 0).take 16 ++ ((r_L_law_8.drop 16).take 16 ++ ((r_L_law_8.drop 32).take 16 ++ ((r_L_law_8.drop 48).take 16))) := by rfl
  rw [e]
  exact mokn_app okl_8_0 (mokn_app okl_8_1 (mokn_app okl_8_2 (okl_8_3)))
theorem okl_9_0 : mokn mT "BoilerTapsLaw" 7 ret false true ((r_L_law_9.drop 0).take 16) 1087 = true := by decide +kernel
theorem okl_9_1 : mokn mT "BoilerTapsLaw" 7 ret false true ((r_L_law_9.drop 16).take 16) 1115 = true := by decide +kernel
theorem okl_9_2 : mokn mT "BoilerTapsLaw" 7 ret false true ((r_L_law_9.drop 32).take 16) 1140 = true := by decide +kernel
theorem okl_9_3 : mokn mT "BoilerTapsLaw" 7 ret false true ((r_L_law_9.drop 48).take 16) 1165 = true := by decide +kernel
theorem okl_9 : mokn mT "BoilerTapsLaw" 7 ret false true r_L_law_9 1165 = true := by
  have e : r_L_law_9 = (r_L_law_9.drop 0).take 16 ++ ((r_L_law_9.drop 16).take 16 ++ ((r_L_law_9.drop 32).take 16 ++ ((r_L_law_9.drop 48).take 16))) := by rfl
  rw [e]
  exact mokn_app okl_9_0 (mokn_app okl_9_1 (mokn_app okl_9_2 (okl_9_3)))
theorem okl_10_0 : mokn mT "BoilerTapsLaw" 7 ret false true ((r_L_law_10.drop 0).take 16) 1192 = true := by decide +kernel
theorem okl_10_1 : mokn mT "BoilerTapsLaw" 7 ret false true ((r_L_law_10.drop 16).take 16) 1215 = true := by decide +kernel
theorem okl_10_2 : mokn mT "BoilerTapsLaw" 7 ret false true ((r_L_law_10.drop 32).take 16) 1243 = true := by decide +kernel
theorem okl_10_3 : mokn mT "BoilerTapsLaw" 7 ret false true ((r_L_law_10.drop 48).take 16) 1264 = true := by decide +kernel
theorem okl_10 : mokn mT "BoilerTapsLaw" 7 ret false true r_L_law_10 1264 = true := by
  have e : r_L_law_10 = (r_L_law_10.drop 0).take 16 ++ ((r_L_law_10.drop 16).take 16 ++ ((r_L_law_10.drop 32).take 16 ++ ((r_L_law_10.drop 48).take 16))) := by rfl
  rw [e]
  exact mokn_app okl_10_0 (mokn_app okl_10_1 (mokn_app okl_10_2 (okl_10_3)))
theorem okl_11_0 : mokn mT "BoilerTapsLaw" 7 ret false true ((r_L_law_11.drop 0).take 16) 1285 = true := by decide +kernel
theorem okl_11_1 : mokn mT "BoilerTapsLaw" 7 ret false true ((r_L_law_11.drop 16).take 16) 1313 = true := by decide +kernel
theorem okl_11_2 : mokn mT "BoilerTapsLaw" 7 ret false true ((r_L_law_11.drop 32).take 16) 1335 = true := by decide +kernel
theorem okl_11_3 : mokn mT "BoilerTapsLaw" 7 ret false true ((r_L_law_11.drop 48).take 16) 1357 = true := by decide +kernel
theorem okl_11 : mokn mT "BoilerTapsLaw" 7 ret false true r_L_law_11 1357 = true := by
  have e : r_L_law_11 = (r_L_law_11.drop 0).take 16 ++ ((r_L_law_11.drop 16).take 16 ++ ((r_L_law_11.drop 32).take 16 ++ ((r_L_law_11.drop 48).take 16))) := by rfl
  rw [e]
  exact mokn_app okl_11_0 (mokn_app okl_11_1 (mokn_app okl_11_2 (okl_11_3)))
theorem okl_12_0 : mokn mT "BoilerTapsLaw" 7 ret false true ((r_L_law_12.drop 0).take 16) 1378 = true := by decide +kernel
theorem okl_12_1 : mokn mT "BoilerTapsLaw" 7 ret false true ((r_L_law_12.drop 16).take 16) 1407 = true := by decide +kernel
theorem okl_12_2 : mokn mT "BoilerTapsLaw" 7 ret false true ((r_L_law_12.drop 32).take 16) 1429 = true := by decide +kernel
theorem okl_12_3 : mokn mT "BoilerTapsLaw" 7 ret false true ((r_L_law_12.drop 48).take 16) 1453 = true := by decide +kernel
theorem okl_12 : mokn mT "BoilerTapsLaw" 7 ret false true r_L_law_12 1453 = true := by
  have e : r_L_law_12 = (r_L_law_12.drop 0).take 16 ++ ((r_L_law_12.drop 16).take 16 ++ ((r_L_law_12.drop 32).take 16 ++ ((r_L_law_12.drop 48).take 16))) := by rfl
  rw [e]
  exact mokn_app okl_12_0 (mokn_app okl_12_1 (mokn_app okl_12_2 (okl_12_3)))
theorem okl_13_0 : mokn mT "BoilerTapsLaw" 7 ret false true ((r_L_law_13.drop 0).take 16) 1480 = true := by decide +kernel
theorem okl_13_1 : mokn mT "BoilerTapsLaw" 7 ret false true ((r_L_law_13.drop 16).take 16) 1506 = true := by decide +kernel
theorem okl_13_2 : mokn mT "BoilerTapsLaw" 7 ret false true ((r_L_law_13.drop 32).take 16) 1527 = true := by decide +kernel
theorem okl_13_3 : mokn mT "BoilerTapsLaw" 7 ret false true ((r_L_law_13.drop 48).take 16) 1551 = true := by decide +kernel
theorem okl_13 : mokn mT "BoilerTapsLaw" 7 ret false true r_L_law_13 1551 = true := by
  have e : r_L_law_13 = (r_L_law_13.drop 0).take 16 ++ ((r_L_law_13.drop 16).take 16 ++ ((r_L_law_13.drop 32).take 16 ++ ((r_L_law_13.drop 48).take 16))) := by rfl
  rw [e]
  exact mokn_app okl_13_0 (mokn_app okl_13_1 (mokn_app okl_13_2 (okl_13_3)))
theorem okl_14_0 : mokn mT "BoilerTapsLaw" 7 ret false true ((r_L_law_14.drop 0).take 16) 1577 = true := by decide +kernel
theorem okl_14_1 : mokn mT "BoilerTapsLaw" 7 ret false true ((r_L_law_14.drop 16).take 16) 1599 = true := by decide +kernel
theorem okl_14_2 : mokn mT "BoilerTapsLaw" 7 ret false true ((r_L_law_14.drop 32).take 16) 1624 = true := by decide +kernel
theorem okl_14_3 : mokn mT "BoilerTapsLaw" 7 ret false true ((r_L_law_14.drop 48).take 16) 1649 = true := by decide +kernel
theorem okl_14 : mokn mT "BoilerTapsLaw" 7 ret false true r_L_law_14 1649 = true := by
  have e : r_L_law_14 = (r_L_law_14.drop 0).take 16 ++ ((r_L_law_14.drop 16).take 16 ++ ((r_L_law_14.drop 32).take 16 ++ ((r_L_law_14.drop 48).take 16))) := by rfl
  rw [e]
  exact mokn_app okl_14_0 (mokn_app okl_14_1 (mokn_app okl_14_2 (okl_14_3)))
theorem okl_15_0 : mokn mT "BoilerTapsLaw" 7 ret false true ((r_L_law_15.drop 0).take 16) 1670 = true := by decide +kernel
theorem okl_15_1 : mokn mT "BoilerTapsLaw" 7 ret false true ((r_L_law_15.drop 16).take 16) 1691 = true := by decide +kernel
theorem okl_15_2 : mokn mT "BoilerTapsLaw" 7 ret false true ((r_L_law_15.drop 32).take 16) 1719 = true := by decide +kernel
theorem okl_15_3 : mokn mT "BoilerTapsLaw" 7 ret false true ((r_L_law_15.drop 48).take 16) 1740 = true := by decide +kernel
theorem okl_15 : mokn mT "BoilerTapsLaw" 7 ret false true r_L_law_15 1740 = true := by
  have e : r_L_law_15 = (r_L_law_15.drop 0).take 16 ++ ((r_L_law_15.drop 16).take 16 ++ ((r_L_law_15.drop 32).take 16 ++ ((r_L_law_15.drop 48).take 16))) := by rfl
  rw [e]
  exact mokn_app okl_15_0 (mokn_app okl_15_1 (mokn_app okl_15_2 (okl_15_3)))
theorem okl_16_0 : mokn mT "BoilerTapsLaw" 7 ret false true ((r_L_law_16.drop 0).take 16) 1761 = true := by decide +kernel
theorem okl_16_1 : mokn mT "BoilerTapsLaw" 7 ret false true ((r_L_law_16.drop 16).take 16) 1780 = true := by decide +kernel
theorem okl_16_2 : mokn mT "BoilerTapsLaw" 7 ret false true ((r_L_law_16.drop 32).take 16) 1808 = true := by decide +kernel
theorem okl_16_3 : mokn mT "BoilerTapsLaw" 7 ret false true ((r_L_law_16.drop 48).take 16) 1830 = true := by decide +kernel
theorem okl_16 : mokn mT "BoilerTapsLaw" 7 ret false true r_L_law_16 1830 = true := by
  have e : r_L_law_16 = (r_L_law_16.drop 0).take 16 ++ ((r_L_law_16.drop 16).take 16 ++ ((r_L_law_16.drop 32).take 16 ++ ((r_L_law_16.drop 48).take 16))) := by rfl
  rw [e]
  exact mokn_app okl_16_0 (mokn_app okl_16_1 (mokn_app okl_16_2 (okl_16_3)))
theorem okl_17_0 : mokn mT "BoilerTapsLaw" 7 ret false true ((r_L_law_17.drop 0).take 16) 1854 = true := by decide +kernel
theorem okl_17_1 : mokn mT "BoilerTapsLaw" 7 ret false true ((r_L_law_17.drop 16).take 16) 1881 = true := by decide +kernel
theorem okl_17_2 : mokn mT "BoilerTapsLaw" 7 ret false true ((r_L_law_17.drop 32).take 16) 1904 = true := by decide +kernel
theorem okl_17_3 : mokn mT "BoilerTapsLaw" 7 ret false true ((r_L_law_17.drop 48).take 16) 1932 = true := by decide +kernel
theorem okl_17 : mokn mT "BoilerTapsLaw" 7 ret false true r_L_law_17 1932 = true := by
  have e : r_L_law_17 = (r_L_law_17.drop 0).take 16 ++ ((r_L_law_17.drop 16).take 16 ++ ((r_L_law_17.drop 32).take 16 ++ ((r_L_law_17.drop 48).take 16))) := by rfl
  rw [e]
  exact mokn_app okl_17_0 (mokn_app okl_17_1 (mokn_app okl_17_2 (okl_17_3)))
theorem okl_18_0 : mokn mT "BoilerTapsLaw" 7 ret false true ((r_L_law_18.drop 0).take 16) 1954 = true := by decide +kernel
theorem okl_18_1 : mokn mT "BoilerTapsLaw" 7 ret false true ((r_L_law_18.drop 16).take 16) 1978 = true := by decide +kernel
theorem okl_18_2 : mokn mT "BoilerTapsLaw" 7 ret false true ((r_L_law_18.drop 32).take 16) 2005 = true := by decide +kernel
theorem okl_18_3 : mokn mT "BoilerTapsLaw" 7 ret false true ((r_L_law_18.drop 48).take 16) 2028 = true := by decide +kernel
theorem okl_18 : mokn mT "BoilerTapsLaw" 7 ret false true r_L_law_18 2028 = true := by
  have e : r_L_law_18 = (r_L_law_18.drop 0).take 16 ++ ((r_L_law_18.drop 16).take 16 ++ ((r_L_law_18.drop 32).take 16 ++ ((r_L_law_18.drop 48).take 16))) := by rfl
  rw [e]
  exact mokn_app okl_18_0 (mokn_app okl_18_1 (mokn_app okl_18_2 (okl_18_3)))
theorem okl_19_0 : mokn mT "BoilerTapsLaw" 7 ret false true ((r_L_law_19.drop 0).take 16) 2056 = true := by decide +kernel
theorem okl_19_1 : mokn mT "BoilerTapsLaw" 7 ret false true ((r_L_law_19.drop 16).take 16) 2078 = true := by decide +kernel
theorem okl_19_2 : mokn mT "BoilerTapsLaw" 7 ret false true ((r_L_law_19.drop 32).take 16) 2100 = true := by decide +kernel
theorem okl_19_3 : mokn mT "BoilerTapsLaw" 7 ret false true ((r_L_law_19.drop 48).take 16) 2126 = true := by decide +kernel
theorem okl_19 : mokn mT "BoilerTapsLaw" 7 ret false true r_L_law_19 2126 = true := by
  have e : r_L_law_19 = (r_L_law_19.drop 0).take 16 ++ ((r_L_law_19.drop 16).take 16 ++ ((r_L_law_19.drop 32).take 16 ++ ((r_L_law_19.drop 48).take 16))) := by rfl
  rw [e]
  exact mokn_app okl_19_0 (mokn_app okl_19_1 (mokn_app okl_19_2 (okl_19_3)))
theorem okl_20_0 : mokn mT "BoilerTapsLaw" 7 ret false true ((r_L_law_20.drop 0).take 16) 2150 = true := by decide +kernel
theorem okl_20_1 : mokn mT "BoilerTapsLaw" 7 ret false true ((r_L_law_20.drop 16).take 16) 2171 = true := by decide +kernel
theorem okl_20_2 : mokn mT "BoilerTapsLaw" 7 ret false true ((r_L_law_20.drop 32).take 16) 2193 = true := by decide +kernel
theorem okl_20_3 : mokn mT "BoilerTapsLaw" 7 ret false true ((r_L_law_20.drop 48).take 16) 2220 = true := by decide +kernel
theorem okl_20 : mokn mT "BoilerTapsLaw" 7 ret false true r_L_law_20 2220 = true := by
  have e : r_L_law_20 = (r_L_law_20.drop 0).take 16 ++ ((r_L_law_20.drop 16).take 16 ++ ((r_L_law_20.drop 32).take 16 ++ ((r_L_law_20.drop 48).take 16))) := by rfl
  rw [e]
  exact mokn_app okl_20_0 (mokn_app okl_20_1 (mokn_app okl_20_2 (okl_20_3)))
theorem okl_21_0 : mokn mT "BoilerTapsLaw" 7 ret false true ((r_L_law_21.drop 0).take 16) 2243 = true := by decide +kernel
theorem okl_21_1 : mokn mT "BoilerTapsLaw" 7 ret false true ((r_L_law_21.drop 16).take 16) 2271 = true := by decide +kernel
theorem okl_21_2 : mokn mT "BoilerTapsLaw" 7 ret false true ((r_L_law_21.drop 32).take 16) 2298 = true := by decide +kernel
theorem okl_21_3 : mokn mT "BoilerTapsLaw" 7 ret false true ((r_L_law_21.drop 48).take 16) 2319 = true := by decide +kernel
theorem okl_21 : mokn mT "BoilerTapsLaw" 7 ret false true r_L_law_21 2319 = true := by
  have e : r_L_law_21 = (r_L_law_21.drop 0).take 16 ++ ((r_L_law_21.drop 16).take 16 ++ ((r_L_law_21.drop 32).take 16 ++ ((r_L_law_21.drop 48).take 16))) := by rfl
  rw [e]
  exact mokn_app okl_21_0 (mokn_app okl_21_1 (mokn_app okl_21_2 (okl_21_3)))
theorem okl_22_0 : mokn mT "BoilerTapsLaw" 7 ret false true ((r_L_law_22.drop 0).take 16) 2347 = true := by decide +kernel
theorem okl_22_1 : mokn mT "BoilerTapsLaw" 7 ret false true ((r_L_law_22.drop 16).take 16) 2369 = true := by decide +kernel
theorem okl_22_2 : mokn mT "BoilerTapsLaw" 7 ret false true ((r_L_law_22.drop 32).take 16) 2397 = true := by decide +kernel
theorem okl_22_3 : mokn mT "BoilerTapsLaw" 7 ret false true ((r_L_law_22.drop 48).take 16) 2422 = true := by decide +kernel
theorem okl_22 : mokn mT "BoilerTapsLaw" 7 ret false true r_L_law_22 2422 = true := by
  have e : r_L_law_22 = (r_L_law_22.drop 0).take 16 ++ ((r_L_law_22.drop 16).take 16 ++ ((r_L_law_22.drop 32).take 16 ++ ((r_L_law_22.drop 48).take 16))) := by rfl
  rw [e]
  exact mokn_app okl_22_0 (mokn_app okl_22_1 (mokn_app okl_22_2 (okl_22_3)))
theorem okl_23_0 : mokn mT "BoilerTapsLaw" 7 ret false true ((r_L_law_23.drop 0).take 16) 2443 = true := by decide +kernel
theorem okl_23_1 : mokn mT "BoilerTapsLaw" 7 ret false true ((r_L_law_23.drop 16).take 16) 2464 = true := by decide +kernel
theorem okl_23_2 : mokn mT "BoilerTapsLaw" 7 ret false true ((r_L_law_23.drop 32).take 16) 2492 = true := by decide +kernel
theorem okl_23_3 : mokn mT "BoilerTapsLaw" 7 ret false true ((r_L_law_23.drop 48).take 16) 2515 = true := by decide +kernel
theorem okl_23 : mokn mT "BoilerTapsLaw" 7 ret false true r_L_law_23 2515 = true := by
  have e : r_L_law_23 = (r_L_law_23.drop 0).take 16 ++ ((r_L_law_23.drop 16).take 16 ++ ((r_L_law_23.drop 32).take 16 ++ ((r_L_law_23.drop 48).take 16))) := by rfl
  rw [e]
  exact mokn_app okl_23_0 (mokn_app okl_23_1 (mokn_app okl_23_2 (okl_23_3)))
theorem okl_24_0 : mokn mT "BoilerTapsLaw" 7 ret false true ((r_L_law_24.drop 0).take 16) 2543 = true := by decide +kernel
theorem okl_24_1 : mokn mT "BoilerTapsLaw" 7 ret false true ((r_L_law_24.drop 16).take 16) 2565 = true := by decide +kernel
theorem okl_24_2 : mokn mT "BoilerTapsLaw" 7 ret false true ((r_L_law_24.drop 32).take 16) 2586 = true := by decide +kernel
theorem okl_24_3 : mokn mT "BoilerTapsLaw" 7 ret false true ((r_L_law_24.drop 48).take 16) 2612 = true := by decide +kernel
theorem okl_24 : mokn mT "BoilerTapsLaw" 7 ret false true r_L_law_24 2612 = true := by
  have e : r_L_law_24 = (r_L_law_24.drop 0).take 16 ++ ((r_L_law_24.drop 16).take 16 ++ ((r_L_law_24.drop 32).take 16 ++ ((r_L_law_24.drop 48).take 16))) := by rfl
  rw [e]
  exact mokn_app okl_24_0 (mokn_app okl_24_1 (mokn_app okl_24_2 (okl_24_3)))
theorem okl_25_0 : mokn mT "BoilerTapsLaw" 7 ret false true ((r_L_law_25.drop 0).take 16) 2637 = true := by decide +kernel
theorem okl_25_1 : mokn mT "BoilerTapsLaw" 7 ret false true ((r_L_law_25.drop 16).take 16) 2658 = true := by decide +kernel
theorem okl_25_2 : mokn mT "BoilerTapsLaw" 7 ret false true ((r_L_law_25.drop 32).take 16) 2686 = true := by decide +kernel
theorem okl_25_3 : mokn mT "BoilerTapsLaw" 7 ret false true ((r_L_law_25.drop 48).take 16) 2708 = true := by decide +kernel
theorem okl_25 : mokn mT "BoilerTapsLaw" 7 ret false true r_L_law_25 2708 = true := by
  have e : r_L_law_25 = (r_L_law_25.drop 0).take 16 ++ ((r_L_law_25.drop 16).take 16 ++ ((r_L_law_25.drop 32).take 16 ++ ((r_L_law_25.drop 48).take 16))) := by rfl
  rw [e]
  exact mokn_app okl_25_0 (mokn_app okl_25_1 (mokn_app okl_25_2 (okl_25_3)))
theorem okl_26_0 : mokn mT "BoilerTapsLaw" 7 ret false true ((r_L_law_26.drop 0).take 16) 2736 = true := by decide +kernel
theorem okl_26_1 : mokn mT "BoilerTapsLaw" 7 ret false true ((r_L_law_26.drop 16).take 16) 2762 = true := by decide +kernel
theorem okl_26_2 : mokn mT "BoilerTapsLaw" 7 ret false true ((r_L_law_26.drop 32).take 16) 2789 = true := by decide +kernel
theorem okl_26_3 : mokn mT "BoilerTapsLaw" 7 ret false true ((r_L_law_26.drop 48).take 16) 0 = true := by decide +kernel
theorem okl_26 : mokn mT "BoilerTapsLaw" 7 ret false true r_L_law_26 0 = true := by
  have e : r_L_law_26 = (r_L_law_26.drop 0).take 16 ++ ((r_L_law_26.drop 16).take 16 ++ ((r_L_law_26.drop 32).take 16 ++ ((r_L_law_26.drop 48).take 16))) := by rfl
  rw [e]
  exact mokn_app okl_26_0 (mokn_app okl_26_1 (mokn_app okl_26_2 (okl_26_3)))
theorem okl_law : mokl mT "BoilerTapsLaw" 7 ret false true r_L_law = true := mokl_n (mokn_app okl_0 (mokn_app okl_1 (mokn_app okl_2 (mokn_app okl_3 (mokn_app okl_4 (mokn_app okl_5 (mokn_app okl_6 (mokn_app okl_7 (mokn_app okl_8 (mokn_app okl_9 (mokn_app okl_10 (mokn_app okl_11 (mokn_app okl_12 (mokn_app okl_13 (mokn_app okl_14 (mokn_app okl_15 (mokn_app okl_16 (mokn_app okl_17 (mokn_app okl_18 (mokn_app okl_19 (mokn_app okl_20 (mokn_app okl_21 (mokn_app okl_22 (mokn_app okl_23 (mokn_app okl_24 (mokn_app okl_25 (okl_26)))))))))))))))))))))))))))
theorem dcl_law : ∀ x ∈ r_L_law, mdc code x = true := by
  have h : r_L_law.all (mdc code) = true := by
    unfold r_L_law
    simp only [List.all_append, Bool.and_eq_true]
    exact ⟨dcl_0, ⟨dcl_1, ⟨dcl_2, ⟨dcl_3, ⟨dcl_4, ⟨dcl_5, ⟨dcl_6, ⟨dcl_7, ⟨dcl_8, ⟨dcl_9, ⟨dcl_10, ⟨dcl_11, ⟨dcl_12, ⟨dcl_13, ⟨dcl_14, ⟨dcl_15, ⟨dcl_16, ⟨dcl_17, ⟨dcl_18, ⟨dcl_19, ⟨dcl_20, ⟨dcl_21, ⟨dcl_22, ⟨dcl_23, ⟨dcl_24, ⟨dcl_25, dcl_26⟩⟩⟩⟩⟩⟩⟩⟩⟩⟩⟩⟩⟩⟩⟩⟩⟩⟩⟩⟩⟩⟩⟩⟩⟩⟩
  exact List.all_eq_true.mp h
