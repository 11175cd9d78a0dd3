/-! minutes of a trial, in class and reference -/
section
variable {G G2 : mG} {I J : Nat → Nat → Int32} {L K : Nat → Nat → Int64} {p h s t u m nr n mm nh : Nat} {rm pi sb sr : Nat → Nat} {M : Nat}
theorem min_c (d : Nat) (hP : LayP G p h s t u) (lH : LayH G h) (lS : LayS G s) (lT : LayT G t) (lU : LayU G u) (h1 : h + 14 ≤ s) (h2 : s + 7 ≤ t) (h3 : t + 14 ≤ u) (hH : HsR I J h m nr n rm pi) (hC : CoR I J s t u m nr n mm nh sb sr M) (hM : M < 2147483000) : mcal mT (d + 4) 56 [.ref p] (G, I, L) = some (.inl (some (.int (mAl J m pi rm (M / 60 % 24) n))), (G, kI I h s t u (M / 60 % 24) nr n mm (rwa (J (m + 1)) (J (m + 4)) (M / 60 % 24)) rm pi sr, va_up L (t + 9) (pre n (tuo (pm8 I h s t (M / 60 % 24) (rwa (J (m + 1)) (J (m + 4)) (M / 60 % 24)) rm pi nr n) L h t u (pmO (pm8 I h s t (M / 60 % 24) (rwa (J (m + 1)) (J (m + 4)) (M / 60 % 24)) rm pi nr n) s t (M / 60 % 24) mm) sr) (L (t + 9))))) := by
  have h24 : M / 60 % 24 < 24 := Nat.mod_lt _ (by decide)
  have hhr : hou (I t 0) = Int32.ofNat (M / 60 % 24) := by rw [hC.1.1, hou_n (by omega)]
  have hwt := (eq_wat hH hC h24).1
  have hal := eq_all hH hC h24 rfl
  have hh := hH
  obtain ⟨⟨a1, -, a3, a4, -, a6⟩, -, -, -, -, b6, b7, -⟩ := hh
  have hc := hC
  obtain ⟨-, -, -, -, -, -, -, -, -, ⟨c10, c11, -⟩, c15, -⟩ := hc
  have key := c_passMinute d (L := L) (w := rwa (J (m + 1)) (J (m + 4)) (M / 60 % 24)) hP lH lS lT lU h1 h2 h3 a4 a6 a1 a3 (fun k hk => ⟨(b6 k hk).1, by have := (b6 k hk).2.2; omega⟩) (fun k hk => ⟨(b7 k hk).1, (b7 k hk).2.2⟩) (fun k hk => ⟨(c15 k hk).1, by have := (c15 k hk).2.1; omega⟩) c10 c11 hhr h24 hwt.symm
  rw [k_all (by omega), hal] at key
  exact key
theorem min_r (d : Nat) (lM : LayM G2 m) (hH : HsR I J h m nr n rm pi) (hC : CoR I J s t u m nr n mm nh sb sr M) (hM : M < 2147483000) : mcal mT (d + 5) 214 [.ref m] (G2, J, K) = f_X12_minute (d + 4) 241 [.ref m, .int (mAl J m pi rm (M / 60 % 24) n), mU] [] (G2, va_up (va_up J (m + 8) (pre nr (mTe J m pi rm (M / 60 % 24) nr n) (J (m + 8)))) (m + 4) (mS6 J m (mS5 J m pi rm (M / 60 % 24) nr n) sr nh n), va_up K (m + 6) (mL2 J (K (m + 6)) m pi rm sr (M / 60 % 24) nr n nh)) := by
  have h24 : M / 60 % 24 < 24 := Nat.mod_lt _ (by decide)
  have hhr : hou (J (m + 4) 71) = Int32.ofNat (M / 60 % 24) := by rw [hC.1.2, hou_n (by omega)]
  have hz := (eq_ht hH hC h24 rfl).1
  have hh := hH
  obtain ⟨⟨-, a2, a3, -, a5, a6⟩, b2, -, -, -, b6, b7, -⟩ := hh
  have hc := hC
  obtain ⟨-, -, -, -, -, -, -, -, -, ⟨-, -, c12, c13, -⟩, c15, -⟩ := hc
  refine r_min241 d lM a2 a3 a5 a6 (fun k hk => ⟨(b7 k hk).2.1, (b7 k hk).2.2⟩) (fun k hk => ⟨(b6 k hk).2.1, by have := (b6 k hk).2.2; omega⟩) hhr h24 hz (fun r hr q => ?_) c12 c13 (fun k hk => ⟨(c15 k hk).2.2.1, (c15 k hk).2.2.2.1, (c15 k hk).2.2.2.2, by have := (c15 k hk).2.1; omega⟩)
  have := (b2 r hr).2.1
  rw [q, k0] at this
  omega
theorem min_rt (d : Nat) (lM : LayM G2 m) (hH : HsR I J h m nr n rm pi) (hC : CoR I J s t u m nr n mm nh sb sr M) (hM : M < 2147483000) (ht : ¬ J m 24 = 0) : mcal mT (d + 5) 214 [.ref m] (G2, J, K) = some (.inl (some (.int (mAl J m pi rm (M / 60 % 24) n))), (G2, va_up (va_up J (m + 8) (pre nr (mTe J m pi rm (M / 60 % 24) nr n) (J (m + 8)))) (m + 4) (mS7 J m pi rm sr (M / 60 % 24) nr n nh), va_up K (m + 6) (mL2 J (K (m + 6)) m pi rm sr (M / 60 % 24) nr n nh))) := by
  rw [min_r d lM hH hC hM, e_X12_minute_241]
  simp (disch := omega) only [↓vM lM, up2_e, up_eq, up_ne, up_up, if_neg ht, e_X12_minute_263]
  rfl
/-- what a run of minutes leaves as it was -/
def FrC (I I' : Nat → Nat → Int32) (L L' : Nat → Nat → Int64) (t : Nat) : Prop := (∀ a, a < t ∨ t + 14 ≤ a → I' a = I a) ∧ (∀ a, a ≠ t + 9 → L' a = L a)
def FrM (J J' : Nat → Nat → Int32) (K K' : Nat → Nat → Int64) (m : Nat) : Prop := (∀ a, a ≠ m + 4 → a ≠ m + 8 → J' a = J a) ∧ (∀ a, a ≠ m + 6 → K' a = K a)
theorem run_n (d e : Nat) (hP : LayP G p h s t u) (lH : LayH G h) (lS : LayS G s) (lT : LayT G t) (lU : LayU G u) (lM : LayM G2 m) (h1 : h + 14 ≤ s) (h2 : s + 7 ≤ t) (h3 : t + 14 ≤ u) (hH : HsR I J h m nr n rm pi) (hC : CoR I J s t u m nr n mm nh sb sr M) (N N0 : Nat) (hN : N ≤ N0) (hM : M + N0 < 2147483000) (ht : ¬ J m 24 = 0) : ∃ v I' L' J' K', f_X6_passMinutes (d + 4) 4 [.ref p, .int (Int32.ofNat N0), .int 0, .int 0] [] (G, I, L) = f_X6_passMinutes (d + 4) 4 [.ref p, .int (Int32.ofNat N0), .int v, .int (Int32.ofNat N)] [] (G, I', L') ∧ f_X12_goes (e + 5) 4 [.ref m, .int (Int32.ofNat N0), .int 0, .int 0] [] (G2, J, K) = f_X12_goes (e + 5) 4 [.ref m, .int (Int32.ofNat N0), .int v, .int (Int32.ofNat N)] [] (G2, J', K') ∧ HsR I' J' h m nr n rm pi ∧ CoR I' J' s t u m nr n mm nh sb sr (M + N) ∧ FrC I I' L L' t ∧ FrM J J' K K' m := by
  induction N with
  | zero => exact ⟨0, I, L, J, K, rfl, rfl, hH, hC, ⟨fun _ _ => rfl, fun _ _ => rfl⟩, ⟨fun _ _ _ => rfl, fun _ _ => rfl⟩⟩
  | succ N ih =>
    obtain ⟨v, I', L', J', K', e1, e2, hH', hC', f1, f2⟩ := ih (by omega)
    have q1 := min_c d (L := L') hP lH lS lT lU h1 h2 h3 hH' hC' (by omega)
    have ht' : ¬ J' m 24 = 0 := by rw [f2.1 m (by omega) (by omega)]; exact ht
    have q2 := min_rt e (K := K') lM hH' hC' (by omega) ht'
    have h24 : (M + N) / 60 % 24 < 24 := Nat.mod_lt _ (by decide)
    have hhr : hou (I' t 0) = Int32.ofNat ((M + N) / 60 % 24) := by rw [hC'.1.1, hou_n (by omega)]
    have nl : ¬ Int32.ofNat N0 ≤ Int32.ofNat N := i_ng (by omega) (by omega)
    refine ⟨v + mAl J' m pi rm ((M + N) / 60 % 24) n, kI I' h s t u ((M + N) / 60 % 24) nr n mm (rwa (J' (m + 1)) (J' (m + 4)) ((M + N) / 60 % 24)) rm pi sr, va_up L' (t + 9) (pre n (tuo (pm8 I' h s t ((M + N) / 60 % 24) (rwa (J' (m + 1)) (J' (m + 4)) ((M + N) / 60 % 24)) rm pi nr n) L' h t u (pmO (pm8 I' h s t ((M + N) / 60 % 24) (rwa (J' (m + 1)) (J' (m + 4)) ((M + N) / 60 % 24)) rm pi nr n) s t ((M + N) / 60 % 24) mm) sr) (L' (t + 9))), va_up (va_up J' (m + 8) (pre nr (mTe J' m pi rm ((M + N) / 60 % 24) nr n) (J' (m + 8)))) (m + 4) (mS7 J' m pi rm sr ((M + N) / 60 % 24) nr n nh), va_up K' (m + 6) (mL2 J' (K' (m + 6)) m pi rm sr ((M + N) / 60 % 24) nr n nh), ?_, ?_, ?_, CoR_step (M := M + N) hH' hC' (by omega) h1 h2 h3 hhr h24 rfl ?_ ?_ ?_, ?_, ?_⟩
    · rw [e1, e_X6_passMinutes_4, if_neg nl]
      simp only [↓vP hP, ↓mcI_of q1, i_one]
    · rw [e2, e_X12_goes_4, if_neg nl]
      simp only [↓vM lM, ↓mcI_of q2, i_one]
    · exact HsR_c (fun a ha hb => kI_fr (by omega) (by omega)) (by simp (disch := omega) only [up_ne]) hH'
    · simp (disch := omega) only [up_ne]
    · rw [up_eq]
    · intro k _ _
      simp (disch := omega) only [up_ne]
    · refine ⟨fun a ha => ?_, fun a ha => ?_⟩
      · rw [kI_fr (by omega) ha, f1.1 a ha]
      · rw [up_ne ha, f1.2 a ha]
    · refine ⟨fun a ha hb => ?_, fun a ha => ?_⟩
      · rw [up_ne ha, up_ne hb, f2.1 a ha hb]
      · rw [up_ne ha, f2.2 a ha]
theorem run_t (d e : Nat) (hP : LayP G p h s t u) (lH : LayH G h) (lS : LayS G s) (lT : LayT G t) (lU : LayU G u) (lM : LayM G2 m) (h1 : h + 14 ≤ s) (h2 : s + 7 ≤ t) (h3 : t + 14 ≤ u) (hH : HsR I J h m nr n rm pi) (hC : CoR I J s t u m nr n mm nh sb sr M) (N : Nat) (hM : M + N < 2147483000) (ht : ¬ J m 24 = 0) : ∃ v I' L' J' K', mcal mT (d + 5) 55 [.ref p, .int (Int32.ofNat N)] (G, I, L) = some (.inl (some (.int v)), (G, I', L')) ∧ mcal mT (e + 6) 227 [.ref m, .int (Int32.ofNat N)] (G2, J, K) = some (.inl (some (.int v)), (G2, J', K')) ∧ HsR I' J' h m nr n rm pi ∧ CoR I' J' s t u m nr n mm nh sb sr (M + N) ∧ FrC I I' L L' t ∧ FrM J J' K K' m := by
  obtain ⟨v, I', L', J', K', e1, e2, r⟩ := run_n d e (L := L) (K := K) hP lH lS lT lU lM h1 h2 h3 hH hC N N (Nat.le_refl N) hM ht
  refine ⟨v, I', L', J', K', ?_, ?_, r⟩
  · rw [q_X6_passMinutes_, e_X6_passMinutes_0, e1, e_X6_passMinutes_4, if_pos i_rf, e_X6_passMinutes_22]
  · rw [q_X12_goes_, e_X12_goes_0, e2, e_X12_goes_4, if_pos i_rf, e_X12_goes_22]
end
