/-! a minute of a plant -/
def pA (I : Nat → Nat → Int32) (h s t n : Nat) : Nat → Nat → Int32 := va_up I (t + 10) (pre n (pfl I h s t n) (I (t + 10)))
def pB (I : Nat → Nat → Int32) (h t : Nat) (w : Int32) (rm : Nat → Nat) (n : Nat) : Nat → Nat → Int32 := va_up I (t + 11) (pre n (gvh I h t w rm) (I (t + 11)))
def pC (I : Nat → Nat → Int32) (h t n : Nat) : Nat → Nat → Int32 := va_up I (t + 11) (pre n (hpw I h t n) (I (t + 11)))
def pD (I : Nat → Nat → Int32) (t : Nat) (v : Int32) : Nat → Nat → Int32 := va_up I t (rbo (I t) (if v ≤ 0 then 0 else 1))
def pE (I : Nat → Nat → Int32) (h t r : Nat) : Nat → Nat → Int32 := va_up I (t + 2) (wlo (los I h t) r (pre 8 (fun _ => 0) (I (t + 2))) r)
def pF (I : Nat → Nat → Int32) (h t : Nat) (w : Int32) (r : Nat) : Nat → Nat → Int32 := va_up (va_up I (t + 3) (pre r (lou I h t w) (I (t + 3)))) (t + 4) (pre r (lwi I h t w) (I (t + 4)))
def pG (I : Nat → Nat → Int32) (h t : Nat) (hr : Int32) (rm : Nat → Nat) (r n : Nat) : Nat → Nat → Int32 := va_up (va_up (va_up I (t + 6) (pre r (snn I h hr) (I (t + 6)))) (t + 5) (ghn rm (I (t + 11)) (pre r (fun _ => 0) (I (t + 5))) n)) (t + 12) (pre n (mtr I t) (I (t + 12)))
def pH (I : Nat → Nat → Int32) (h t r : Nat) : Nat → Nat → Int32 := va_up I (t + 1) (pre r (wrm I h t) (I (t + 1)))
def pJ (I : Nat → Nat → Int32) (t : Nat) (hot : Int32) (pi : Nat → Nat) (n : Nat) : Nat → Nat → Int32 := va_up I (t + 13) (ddn hot (I (t + 10)) pi (pre 4 (fun j => I (t + 13) j + 1) (I (t + 13))) n)
def pK (I : Nat → Nat → Int32) (h t u : Nat) (off : Int32) (sn : Nat → Nat) (n : Nat) : Nat → Nat → Int32 := va_up (va_up I (t + 8) (pre n (lmo I h t u off sn) (I (t + 8)))) (t + 7) (pre n (nxo I h t u off sn) (I (t + 7)))
/-- the rows after the boiler, the walls .. up to the warm rooms and dead pipes -/
def pm5 (I : Nat → Nat → Int32) (h s t : Nat) (w : Int32) (rm : Nat → Nat) (r n : Nat) : Nat → Nat → Int32 := pE (pD (pC (pB (pA I h s t n) h t (w * 10) rm n) h t n) t (sm n (hpw (pB (pA I h s t n) h t (w * 10) rm n) h t n))) h t r
def pm8 (I : Nat → Nat → Int32) (h s t hr : Nat) (w : Int32) (rm pi : Nat → Nat) (r n : Nat) : Nat → Nat → Int32 := pJ (pH (pG (pF (pm5 I h s t w rm r n) h t (I (s + 2) hr) r) h t (Int32.ofNat hr) rm r n) h t r) t (if w < 600 then 0 else 1) pi n
theorem pm5_ne {I : Nat → Nat → Int32} {h s t r n a : Nat} {w : Int32} {rm : Nat → Nat} (ha : a < t ∨ t + 14 ≤ a) : pm5 I h s t w rm r n a = I a := by
  unfold pm5 pE pD pC pB pA
  simp (disch := omega) only [up_ne]
theorem pm8_ne {I : Nat → Nat → Int32} {h s t hr r n a : Nat} {w : Int32} {rm pi : Nat → Nat} (ha : a < t ∨ t + 14 ≤ a) : pm8 I h s t hr w rm pi r n a = I a := by
  unfold pm8 pJ pH pG pF
  simp (disch := omega) only [up_ne, pm5_ne]
