/-! minutes go by -/
section
variable {G G2 : mG} {I J : Nat → Nat → Int32} {L K : Nat → Nat → Int64} {h hs bl bs cl cs nr n nh M hN w : Nat} {rm pi : Nat → Nat}
/-- what the live houses have in common -/
def LiR (I J : Nat → Nat → Int32) (L K : Nat → Nat → Int64) (h nr n nh M hN w : Nat) (rm pi : Nat → Nat) : Prop := HsR I J h 219 nr n rm pi ∧ (FlR J 219 ∧ J 219 23 = Int32.ofNat hN) ∧ SeR I 132 (J 223) n nh ∧ StR I L 139 (J 220) (J 223) (K 225) nr n M ∧ TaR I 153 (J 220) n rm ∧ DiR I 195 (J 228) (J 229) hN w nr M
def FrG (I I' : Nat → Nat → Int32) (L L' : Nat → Nat → Int64) : Prop := (∀ a, ¬ (139 ≤ a ∧ a < 153) → ¬ (195 ≤ a ∧ a < 198) → I' a = I a) ∧ (∀ a, a ≠ 148 → L' a = L a)
def FrJ (J J' : Nat → Nat → Int32) (K K' : Nat → Nat → Int64) : Prop := (∀ a, a ≠ 219 → a ≠ 223 → a ≠ 227 → a ≠ 228 → a ≠ 229 → J' a = J a) ∧ (∀ k, k ≠ 23 → J' 219 k = J 219 k) ∧ (∀ j, (24 ≤ j ∧ j < 32) ∨ (44 ≤ j ∧ j < 71) ∨ (130 ≤ j ∧ j < 168) → J' 223 j = J 223 j) ∧ (∀ a, a ≠ 225 → K' a = K a)
theorem go_1 (d e : Nat) (lB : LayB G hs bl bs cl cs) (lP : LayP G 117 h 132 139 153) (lH : LayH G h) (lS : LayS G 132) (lT : LayT G 139) (lU : LayU G 153) (lD : LayD G 195) (lM : LayM G2 219) (hh : 103 ≤ h ∧ h + 14 ≤ 132) (q : LiR I J L K h nr n nh M hN w rm pi) (hM : M < 2147480000) (N a : Int32) (i : Nat) (hi : i < 2147480000) (hNi : ¬ N ≤ Int32.ofNat i) : ∃ v I' L' J' K' hN' w', f_X11_go (d + 4) 16 [.ref 100, .int N, .int a, .int (Int32.ofNat i)] [] (G, I, L) = f_X11_go (d + 4) 16 [.ref 100, .int N, .int (a + v), .int (Int32.ofNat (i + 1))] [] (G, I', L') ∧ f_X12_goes (e + 5) 4 [.ref 219, .int N, .int a, .int (Int32.ofNat i)] [] (G2, J, K) = f_X12_goes (e + 5) 4 [.ref 219, .int N, .int (a + v), .int (Int32.ofNat (i + 1))] [] (G2, J', K') ∧ LiR I' J' L' K' h nr n nh (M + 1) hN' w' rm pi ∧ FrG I I' L L' ∧ FrJ J J' K K' := by
  obtain ⟨hH, ⟨hF, hHN⟩, hS, hT, hU, hD⟩ := q
  have hn8 := hH.1.2.2.2.2.2
  have hnr8 := hH.1.2.2.1
  have hC := live_c hH hF hS hT hU
  have h24 : M / 60 % 24 < 24 := Nat.mod_lt _ (by decide)
  have hhr : hou (I 139 0) = Int32.ofNat (M / 60 % 24) := by rw [hC.1.1, hou_n (by omega)]
  have q1 := min_c d (L := L) lP lH lS lT lU (by omega) (by decide) (by decide) hH hC (by omega)
  have T' := StR_step hH hF hC hT (by omega) (by omega) (by decide) (by decide) hhr h24 rfl
  have q2 := min_r e (K := K) lM hH hC (by omega)
  generalize hI1 : kI I h 132 139 153 (M / 60 % 24) nr n nh (rwa (J (219 + 1)) (J (219 + 4)) (M / 60 % 24)) rm pi rm = I1 at q1 T'
  generalize hL1 : va_up L (139 + 9) (pre n (tuo (pm8 I h 132 139 (M / 60 % 24) (rwa (J (219 + 1)) (J (219 + 4)) (M / 60 % 24)) rm pi nr n) L h 139 153 (pmO (pm8 I h 132 139 (M / 60 % 24) (rwa (J (219 + 1)) (J (219 + 4)) (M / 60 % 24)) rm pi nr n) 132 139 (M / 60 % 24) nh) rm) (L (139 + 9))) = L1 at q1 T'
  have fr : ∀ a, a < 139 ∨ 153 ≤ a → I1 a = I a := fun a ha => by rw [← hI1]; exact kI_fr (by omega) (by omega)
  have frL : ∀ a, a ≠ 148 → L1 a = L a := fun a ha => by rw [← hL1]; exact up_ne ha
  generalize hS7 : mS7 J 219 pi rm rm (M / 60 % 24) nr n nh = S7 at T'
  have o7 : ∀ j, (24 ≤ j ∧ j < 71) ∨ (130 ≤ j ∧ j < 168) → S7 j = J 223 j := fun j hj => by rw [← hS7]; exact mS7_o hnr8 hn8 hj
  have D1 : DiR I1 195 (J 228) (J 229) hN w nr M := DiR_c hD hnr8 (fun a h1 h2 => fr a (by omega)) (fun _ _ => rfl) (fun _ _ => rfl)
  obtain ⟨⟨d0, d1, d2, d3⟩, -⟩ := id D1
  have nt := c_note (d + 1) (I := I1) (L := L1) (e := 195) (h := h) (t := 139) (r := nr) (M := M + 1) (w := w) lD lH lT (by decide) (by omega) (by rw [fr h (by omega)]; exact hH.1.1) hnr8 T'.1.1 (by omega) d2 d3
  have cls : ∀ I2, (if (M + 1) % 60 = 0 then cEh (va_up I1 (195 + 2) (cP1 I1 195 139 nr (M + 1))) 195 w else va_up I1 (195 + 2) (cP1 I1 195 139 nr (M + 1))) = I2 → f_X11_go (d + 4) 16 [.ref 100, .int N, .int a, .int (Int32.ofNat i)] [] (G, I, L) = f_X11_go (d + 4) 16 [.ref 100, .int N, .int (a + mAl J 219 pi rm (M / 60 % 24) n), .int (Int32.ofNat (i + 1))] [] (G, I2, L1) := by
    intro I2 hI2
    rw [hI2] at nt
    rw [e_X11_go_16, if_neg hNi]
    simp only [↓vB lB, ↓vP lP, ↓mcI_of q1, ↓vD lD, ↓mcV_of nt, i_one]
  -- the reference's rows after the minute
  have ref : ∀ J2, mcal mT (e + 4) 217 [.ref 219] (G2, va_up (va_up J 227 (pre nr (mTe J 219 pi rm (M / 60 % 24) nr n) (J 227))) 223 S7, va_up K 225 (mL2 J (K 225) 219 pi rm rm (M / 60 % 24) nr n nh)) = some (.inl none, (G2, J2, va_up K 225 (mL2 J (K 225) 219 pi rm rm (M / 60 % 24) nr n nh))) → f_X12_goes (e + 5) 4 [.ref 219, .int N, .int a, .int (Int32.ofNat i)] [] (G2, J, K) = f_X12_goes (e + 5) 4 [.ref 219, .int N, .int (a + mAl J 219 pi rm (M / 60 % 24) n), .int (Int32.ofNat (i + 1))] [] (G2, J2, va_up K 225 (mL2 J (K 225) 219 pi rm rm (M / 60 % 24) nr n nh)) := by
    intro J2 hw
    have q3 : mcal mT (e + 5) 214 [.ref 219] (G2, J, K) = some (.inl (some (.int (mAl J 219 pi rm (M / 60 % 24) n))), (G2, J2, va_up K 225 (mL2 J (K 225) 219 pi rm rm (M / 60 % 24) nr n nh))) := by
      rw [q2, e_X12_minute_241]
      have f24 : J 219 24 = 0 := hF.2.2.2.2.2
      have s7 : va_up (mS6 J 219 (mS5 J 219 pi rm (M / 60 % 24) nr n) rm nh n) 71 (mS6 J 219 (mS5 J 219 pi rm (M / 60 % 24) nr n) rm nh n 71 + 1) = S7 := hS7
      simp (disch := omega) only [↓vM lM, up2_e, up_eq, up_ne, up_up, f24, if_true, s7, ↓mcV_of hw, e_X12_minute_263]
    rw [e_X12_goes_4, if_neg hNi]
    simp only [↓vM lM, ↓mcI_of q3, i_one]
  have r220 : va_up (va_up J 227 (pre nr (mTe J 219 pi rm (M / 60 % 24) nr n) (J 227))) 223 S7 220 = J 220 := by simp (disch := omega) only [up_ne]
  have r223 : va_up (va_up J 227 (pre nr (mTe J 219 pi rm (M / 60 % 24) nr n) (J 227))) 223 S7 223 = S7 := up_eq
  have r229 : va_up (va_up J 227 (pre nr (mTe J 219 pi rm (M / 60 % 24) nr n) (J 227))) 223 S7 229 = J 229 := by simp (disch := omega) only [up_ne]
  have r228 : va_up (va_up J 227 (pre nr (mTe J 219 pi rm (M / 60 % 24) nr n) (J 227))) 223 S7 228 = J 228 := by simp (disch := omega) only [up_ne]
  have r219 : va_up (va_up J 227 (pre nr (mTe J 219 pi rm (M / 60 % 24) nr n) (J 227))) 223 S7 219 = J 219 := by simp (disch := omega) only [up_ne]
  have hK : va_up K 225 (mL2 J (K 225) 219 pi rm rm (M / 60 % 24) nr n nh) 225 = mL2 J (K 225) 219 pi rm rm (M / 60 % 24) nr n nh := up_eq
  by_cases c : (M + 1) % 60 = 0
  · have wr := r_writesYes (e + 2) (I := va_up (va_up J 227 (pre nr (mTe J 219 pi rm (M / 60 % 24) nr n) (J 227))) 223 S7) (L := va_up K 225 (mL2 J (K 225) 219 pi rm rm (M / 60 % 24) nr n nh)) (nr := nr) (M := M + 1) (hN := hN) lM (by rw [r220]; exact hH.1.2.1) hnr8 (by rw [r223]; exact T'.1.2) (by omega) c (by rw [r219]; exact hHN) d1
    have D2 := DiR_yes T' hnr8 D1 c
    refine ⟨mAl J 219 pi rm (M / 60 % 24) n, _, L1, _, _, mHs hN, (w + 1) % 48, cls _ (if_pos c), ref _ wr, ⟨?_, ⟨?_, ?_⟩, ?_, ?_, ?_, ?_⟩, ⟨fun a h1 h2 => ?_, frL⟩, ⟨fun a h1 h2 h3 h4 h5 => ?_, fun k hk => ?_, fun j hj => ?_, fun a ha => up_ne ha⟩⟩
    · refine HsR_c (I := I) (J := J) (fun a h1 h2 => ?_) ?_ hH
      · unfold cEh
        simp (disch := omega) only [up_ne]
        exact fr a (by omega)
      · simp (disch := omega) only [up_ne]
    · unfold FlR at hF ⊢
      simp (disch := omega) only [up_ne, up_eq]
      exact hF
    · simp (disch := omega) only [up_ne, up_eq]
    · refine SeR_c hS hn8 (fun a h1 h2 => ?_) (fun j hj => ?_)
      · unfold cEh
        simp (disch := omega) only [up_ne]
        exact fr a (by omega)
      · simp (disch := omega) only [up_ne, up_eq]
        exact o7 j (by omega)
    · refine StR_c T' hn8 hnr8 (fun a h1 h2 => ?_) rfl ?_ (fun j hj => ?_) (fun j hj => ?_)
      · unfold cEh
        simp (disch := omega) only [up_ne]
      · simp (disch := omega) only [up_ne]
      · simp (disch := omega) only [up_ne, up_eq]
      · simp (disch := omega) only [up_eq]
    · refine TaR_c hU (fun a h1 h2 => ?_) ?_
      · unfold cEh
        simp (disch := omega) only [up_ne]
        exact fr a (by omega)
      · simp (disch := omega) only [up_ne]
    · refine DiR_c D2 hnr8 (fun a h1 h2 => rfl) (fun j hj => ?_) (fun j hj => ?_)
      · simp (disch := omega) only [up_ne, up_eq]
      · simp (disch := omega) only [up_ne, up_eq]
    · unfold cEh
      simp (disch := omega) only [up_ne]
      exact fr a (by omega)
    · simp (disch := omega) only [up_ne]
    · simp (disch := omega) only [up_ne, up_eq]
    · simp (disch := omega) only [up_ne, up_eq]
      exact o7 j (by omega)
  · have wr := r_writesNo (e + 2) (I := va_up (va_up J 227 (pre nr (mTe J 219 pi rm (M / 60 % 24) nr n) (J 227))) 223 S7) (L := va_up K 225 (mL2 J (K 225) 219 pi rm rm (M / 60 % 24) nr n nh)) (nr := nr) (M := M + 1) lM (by rw [r220]; exact hH.1.2.1) hnr8 (by rw [r223]; exact T'.1.2) (by omega) c
    have D2 := DiR_no T' hnr8 D1 c
    refine ⟨mAl J 219 pi rm (M / 60 % 24) n, _, L1, _, _, hN, w, cls _ (if_neg c), ref _ wr, ⟨?_, ⟨?_, ?_⟩, ?_, ?_, ?_, ?_⟩, ⟨fun a h1 h2 => ?_, frL⟩, ⟨fun a h1 h2 h3 h4 h5 => ?_, fun k hk => ?_, fun j hj => ?_, fun a ha => up_ne ha⟩⟩
    · refine HsR_c (I := I) (J := J) (fun a h1 h2 => ?_) ?_ hH
      · simp (disch := omega) only [up_ne]
        exact fr a (by omega)
      · simp (disch := omega) only [up_ne]
    · refine FlR_c hF fun k h1 h2 h3 h4 => ?_
      simp (disch := omega) only [up_ne]
    · simp (disch := omega) only [up_ne]
      exact hHN
    · refine SeR_c hS hn8 (fun a h1 h2 => ?_) (fun j hj => ?_)
      · simp (disch := omega) only [up_ne]
        exact fr a (by omega)
      · simp (disch := omega) only [up_ne, up_eq]
        exact o7 j (by omega)
    · refine StR_c T' hn8 hnr8 (fun a h1 h2 => ?_) rfl ?_ (fun j hj => ?_) (fun j hj => ?_)
      · simp (disch := omega) only [up_ne]
      · simp (disch := omega) only [up_ne]
      · simp (disch := omega) only [up_ne, up_eq]
      · simp (disch := omega) only [up_eq]
    · refine TaR_c hU (fun a h1 h2 => ?_) ?_
      · simp (disch := omega) only [up_ne]
        exact fr a (by omega)
      · simp (disch := omega) only [up_ne]
    · refine DiR_c D2 hnr8 (fun a h1 h2 => rfl) (fun j hj => ?_) (fun j hj => ?_)
      · simp (disch := omega) only [up_ne]
      · simp (disch := omega) only [up_ne, up_eq]
    · simp (disch := omega) only [up_ne]
      exact fr a (by omega)
    · simp (disch := omega) only [up_ne]
    · simp (disch := omega) only [up_ne]
    · simp (disch := omega) only [up_ne, up_eq]
      exact o7 j (by omega)
theorem go_n (d e : Nat) (lB : LayB G hs bl bs cl cs) (lP : LayP G 117 h 132 139 153) (lH : LayH G h) (lS : LayS G 132) (lT : LayT G 139) (lU : LayU G 153) (lD : LayD G 195) (lM : LayM G2 219) (hh : 103 ≤ h ∧ h + 14 ≤ 132) (q : LiR I J L K h nr n nh M hN w rm pi) (N N0 : Nat) (hN0 : N ≤ N0) (hM : M + N0 < 2147480000) : ∃ v I' L' J' K' hN' w', f_X11_go (d + 4) 16 [.ref 100, .int (Int32.ofNat N0), .int 0, .int 0] [] (G, I, L) = f_X11_go (d + 4) 16 [.ref 100, .int (Int32.ofNat N0), .int v, .int (Int32.ofNat N)] [] (G, I', L') ∧ f_X12_goes (e + 5) 4 [.ref 219, .int (Int32.ofNat N0), .int 0, .int 0] [] (G2, J, K) = f_X12_goes (e + 5) 4 [.ref 219, .int (Int32.ofNat N0), .int v, .int (Int32.ofNat N)] [] (G2, J', K') ∧ LiR I' J' L' K' h nr n nh (M + N) hN' w' rm pi ∧ FrG I I' L L' ∧ FrJ J J' K K' := by
  induction N with
  | zero => exact ⟨0, I, L, J, K, hN, w, rfl, rfl, q, ⟨fun _ _ _ => rfl, fun _ _ => rfl⟩, ⟨fun _ _ _ _ _ _ => rfl, fun _ _ => rfl, fun _ _ => rfl, fun _ _ => rfl⟩⟩
  | succ N ih =>
    obtain ⟨v, I', L', J', K', hN', w', e1, e2, r, f1, f2⟩ := ih (by omega)
    obtain ⟨v2, I2, L2, J2, K2, hN2, w2, a1, a2, r2, g1, g2⟩ := go_1 d e lB lP lH lS lT lU lD lM hh r (by omega) (Int32.ofNat N0) v N (by omega) (i_ng (by omega) (by omega))
    refine ⟨v + v2, I2, L2, J2, K2, hN2, w2, e1.trans a1, e2.trans a2, r2, ⟨fun a h1 h2 => ?_, fun a ha => ?_⟩, ⟨fun a h1 h2 h3 h4 h5 => ?_, fun k hk => ?_, fun j hj => ?_, fun a ha => ?_⟩⟩
    · rw [g1.1 a h1 h2, f1.1 a h1 h2]
    · rw [g1.2 a ha, f1.2 a ha]
    · rw [g2.1 a h1 h2 h3 h4 h5, f2.1 a h1 h2 h3 h4 h5]
    · rw [g2.2.1 k hk, f2.2.1 k hk]
    · rw [g2.2.2.1 j hj, f2.2.2.1 j hj]
    · rw [g2.2.2.2 a ha, f2.2.2.2 a ha]
end
