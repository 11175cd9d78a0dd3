/-! minutes of a trial one by one -/
section
variable {G G2 : mG} {I J : Nat → Nat → Int32} {L K : Nat → Nat → Int64} {p h s t u m nr n mm nh : Nat} {rm pi sb sr : Nat → Nat} {M : Nat}
theorem st_1 (d e : Nat) (hP : LayP G p h s t u) (lH : LayH G h) (lS : LayS G s) (lT : LayT G t) (lU : LayU G u) (lM : LayM G2 m) (h1 : h + 14 ≤ s) (h2 : s + 7 ≤ t) (h3 : t + 14 ≤ u) (hH : HsR I J h m nr n rm pi) (hC : CoR I J s t u m nr n mm nh sb sr M) (hM : M < 2147483000) (ht : ¬ J m 24 = 0) : ∃ v I' L' J' K', mcal mT (d + 4) 56 [.ref p] (G, I, L) = some (.inl (some (.int v)), (G, I', L')) ∧ mcal mT (e + 5) 214 [.ref m] (G2, J, K) = some (.inl (some (.int v)), (G2, J', K')) ∧ HsR I' J' h m nr n rm pi ∧ CoR I' J' s t u m nr n mm nh sb sr (M + 1) ∧ FrC I I' L L' t ∧ FrM J J' K K' m := by
  have q1 := min_c d (L := L) hP lH lS lT lU h1 h2 h3 hH hC hM
  have q2 := min_rt e (K := K) lM hH hC hM ht
  have h24 : M / 60 % 24 < 24 := Nat.mod_lt _ (by decide)
  have hhr : hou (I t 0) = Int32.ofNat (M / 60 % 24) := by rw [hC.1.1, hou_n (by omega)]
  refine ⟨_, _, _, _, _, q1, q2, ?_, CoR_step (M := M) hH hC hM h1 h2 h3 hhr h24 rfl ?_ ?_ ?_, ?_, ?_⟩
  · exact HsR_c (fun a ha hb => kI_fr (by omega) (by omega)) (by simp (disch := omega) only [up_ne]) hH
  · simp (disch := omega) only [up_ne]
  · rw [up_eq]
  · intro k _ _
    simp (disch := omega) only [up_ne]
  · refine ⟨fun a ha => ?_, fun a ha => ?_⟩
    · rw [kI_fr (by omega) ha]
    · rw [up_ne ha]
  · refine ⟨fun a ha hb => ?_, fun a ha => ?_⟩
    · rw [up_ne ha, up_ne hb]
    · rw [up_ne ha]
def Sqc (d : Nat) (G : mG) (p : Nat) (SI : Nat → Nat → Nat → Int32) (SL : Nat → Nat → Nat → Int64) (N : Nat) : Prop := ∀ i, i < N → ∃ v, mcal mT (d + 4) 56 [.ref p] (G, SI i, SL i) = some (.inl (some (.int v)), (G, SI (i + 1), SL (i + 1)))
def Sqr (e : Nat) (G2 : mG) (m : Nat) (SJ : Nat → Nat → Nat → Int32) (SK : Nat → Nat → Nat → Int64) (N : Nat) : Prop := ∀ i, i < N → ∃ v, mcal mT (e + 5) 214 [.ref m] (G2, SJ i, SK i) = some (.inl (some (.int v)), (G2, SJ (i + 1), SK (i + 1)))
theorem FrC_t {I1 I2 : Nat → Nat → Int32} {L1 L2 : Nat → Nat → Int64} (a : FrC I I1 L L1 t) (b : FrC I1 I2 L1 L2 t) : FrC I I2 L L2 t := ⟨fun x hx => (b.1 x hx).trans (a.1 x hx), fun x hx => (b.2 x hx).trans (a.2 x hx)⟩
theorem FrM_t {J1 J2 : Nat → Nat → Int32} {K1 K2 : Nat → Nat → Int64} (a : FrM J J1 K K1 m) (b : FrM J1 J2 K1 K2 m) : FrM J J2 K K2 m := ⟨fun x hx hy => (b.1 x hx hy).trans (a.1 x hx hy), fun x hx => (b.2 x hx).trans (a.2 x hx)⟩
theorem sq_ex (d e : Nat) (hP : LayP G p h s t u) (lH : LayH G h) (lS : LayS G s) (lT : LayT G t) (lU : LayU G u) (lM : LayM G2 m) (h1 : h + 14 ≤ s) (h2 : s + 7 ≤ t) (h3 : t + 14 ≤ u) (hH : HsR I J h m nr n rm pi) (hC : CoR I J s t u m nr n mm nh sb sr M) (ht : ¬ J m 24 = 0) (N : Nat) (hM : M + N < 2147483000) : ∃ SI SL SJ SK, SI 0 = I ∧ SL 0 = L ∧ SJ 0 = J ∧ SK 0 = K ∧ Sqc d G p SI SL N ∧ Sqr e G2 m SJ SK N ∧ ∀ i, i ≤ N → HsR (SI i) (SJ i) h m nr n rm pi ∧ CoR (SI i) (SJ i) s t u m nr n mm nh sb sr (M + i) ∧ FrC I (SI i) L (SL i) t ∧ FrM J (SJ i) K (SK i) m := by
  induction N with
  | zero =>
    refine ⟨fun _ => I, fun _ => L, fun _ => J, fun _ => K, rfl, rfl, rfl, rfl, fun i hi => by omega, fun i hi => by omega, fun i hi => ?_⟩
    have : i = 0 := by omega
    rw [this]
    exact ⟨hH, hC, ⟨fun _ _ => rfl, fun _ _ => rfl⟩, ⟨fun _ _ _ => rfl, fun _ _ => rfl⟩⟩
  | succ N ih =>
    obtain ⟨SI, SL, SJ, SK, a1, a2, a3, a4, b1, b2, b3⟩ := ih (by omega)
    obtain ⟨c1, c2, c3, c4⟩ := b3 N (Nat.le_refl N)
    have ht' : ¬ SJ N m 24 = 0 := by rw [c4.1 m (by omega) (by omega)]; exact ht
    obtain ⟨v, I', L', J', K', q1, q2, q3, q4, q5, q6⟩ := st_1 d e (L := SL N) (K := SK N) hP lH lS lT lU lM h1 h2 h3 c1 c2 (by omega) ht'
    have le : ∀ {α : Type} (S : Nat → α) (x : α) (i : Nat), i ≤ N → (fun i => if i ≤ N then S i else x) i = S i := fun S x i hi => if_pos hi
    have gt : ∀ {α : Type} (S : Nat → α) (x : α), (fun i => if i ≤ N then S i else x) (N + 1) = x := fun S x => if_neg (by omega)
    refine ⟨fun i => if i ≤ N then SI i else I', fun i => if i ≤ N then SL i else L', fun i => if i ≤ N then SJ i else J', fun i => if i ≤ N then SK i else K', (le SI I' 0 (by omega)).trans a1, (le SL L' 0 (by omega)).trans a2, (le SJ J' 0 (by omega)).trans a3, (le SK K' 0 (by omega)).trans a4, fun i hi => ?_, fun i hi => ?_, fun i hi => ?_⟩
    · rw [le SI I' i (by omega), le SL L' i (by omega)]
      by_cases c : i = N
      · rw [c, gt SI I', gt SL L']; exact ⟨v, q1⟩
      · rw [le SI I' (i + 1) (by omega), le SL L' (i + 1) (by omega)]; exact b1 i (by omega)
    · rw [le SJ J' i (by omega), le SK K' i (by omega)]
      by_cases c : i = N
      · rw [c, gt SJ J', gt SK K']; exact ⟨v, q2⟩
      · rw [le SJ J' (i + 1) (by omega), le SK K' (i + 1) (by omega)]; exact b2 i (by omega)
    · by_cases c : i = N + 1
      · rw [c, gt SI I', gt SL L', gt SJ J', gt SK K']
        exact ⟨q3, q4, FrC_t c3 q5, FrM_t c4 q6⟩
      · rw [le SI I' i (by omega), le SL L' i (by omega), le SJ J' i (by omega), le SK K' i (by omega)]
        exact b3 i (by omega)
theorem sq_pass {d : Nat} {SI : Nat → Nat → Nat → Int32} {SL : Nat → Nat → Nat → Int64} {N : Nat} (hP : LayP G p h s t u) (q : Sqc d G p SI SL N) (i k : Nat) (hk : i + k ≤ N) (hN : N < 2147483000) : ∃ v, mcal mT (d + 5) 55 [.ref p, .int (Int32.ofNat k)] (G, SI i, SL i) = some (.inl (some (.int v)), (G, SI (i + k), SL (i + k))) := by
  have A : ∀ j k', k' + j = k → ∀ v, ∃ v', f_X6_passMinutes (d + 4) 4 [.ref p, .int (Int32.ofNat k), .int v, .int (Int32.ofNat k')] [] (G, SI (i + k'), SL (i + k')) = some (.inl (some (.int v')), (G, SI (i + k), SL (i + k))) := by
    intro j
    induction j with
    | zero =>
      intro k' hk' v
      have e : k' = k := by omega
      exact ⟨v, by rw [e, e_X6_passMinutes_4, if_pos i_rf, e_X6_passMinutes_22]⟩
    | succ j ih =>
      intro k' hk' v
      obtain ⟨v1, q1⟩ := q (i + k') (by omega)
      obtain ⟨v', q2⟩ := ih (k' + 1) (by omega) (v + v1)
      refine ⟨v', ?_⟩
      rw [e_X6_passMinutes_4, if_neg (i_ng (show k' < k by omega) (by omega))]
      simp only [↓vP hP, ↓mcI_of q1, i_one]
      exact q2
  obtain ⟨v', q2⟩ := A k 0 (by omega) 0
  refine ⟨v', ?_⟩
  rw [q_X6_passMinutes_, e_X6_passMinutes_0]
  exact q2
end
theorem jabs_e {x o : Int32} (hx : irng x (-20000) 20000) : jabs x ≤ o ↔ ¬ o < x ∧ -x ≤ o := by
  have n : (-x).toInt = -x.toInt := by
    have := hx.1
    have := hx.2
    have e : -x = 0 - x := (Int32.zero_sub x).symm
    rw [e, t_sub (by rw [k0]; omega) (by rw [k0]; omega), k0]
    omega
  unfold jabs
  by_cases c : 0 ≤ x
  · rw [if_pos c, Int32.not_lt, Int32.le_iff_toInt_le, Int32.le_iff_toInt_le, n]
    rw [Int32.le_iff_toInt_le, k0] at c
    omega
  · rw [if_neg c, Int32.zero_sub, Int32.not_lt, Int32.le_iff_toInt_le, Int32.le_iff_toInt_le, n]
    rw [Int32.le_iff_toInt_le, k0] at c
    omega
