/-! objects made of objects: the constructors -/
theorem malo_b {G : mG} {I : Nat → Nat → Int32} {L : Nat → Nat → Int64} {x y kx t n : Nat} {c : Int32} (hG : G.1 = y) (hn : Int32.toNatClampNeg c = n) (hk : gK G x = kx) (hx : x < y) (f : Nat → mH → Option mO) : malo (G, I, L) t (Int32.toNatClampNeg c) (Int32.toNatClampNeg c) (fun b h2 => gk h2.1 x kx (f b h2)) = f y (gA G t n n, va_up I G.1 (fun _ => 0), va_up L G.1 (fun _ => 0)) := by
  rw [hn]
  unfold malo hA
  show gk (gA G t n n) x kx (f G.1 _) = _
  rw [gk_t (by rw [kA, up_ne (by omega)]; exact hk), hG]
theorem g_X (d : Nat) {G : mG} {I : Nat → Nat → Int32} {L : Nat → Nat → Int64} {y : Nat} (hy : G.1 = y) : ∃ G2 I2 L2, mcal mT (d + 1) 84 [.ref y] (gA G 11 0 8, va_up I G.1 (fun _ => 0), va_up L G.1 (fun _ => 0)) = some (.inl none, (G2, I2, L2)) ∧ LayX G2 y ∧ Gro y 2 508 G G2 I I2 (d1 (va_up (fun _ => 0) 7 (-1))) := by
  obtain ⟨G2, I2, L2, e, l, p, r⟩ := n_X d (G := gA G 11 0 8) (I := va_up I G.1 (fun _ => 0)) (L := va_up L G.1 (fun _ => 0)) (x := y) (by rw [kA, hy, up_eq]) (by rw [A1, hy])
  have r' : va_up I G.1 (fun _ => 0) y = fun _ => 0 := by rw [hy, up_eq]
  rw [r'] at r
  exact ⟨G2, I2, L2, e, l, Gro_N hy (by decide) p r⟩
theorem g_H (d : Nat) {G : mG} {I : Nat → Nat → Int32} {L : Nat → Nat → Int64} {y : Nat} (hy : G.1 = y) : ∃ G2 I2 L2, mcal mT (d + 1) 32 [.ref y] (gA G 5 0 19, va_up I G.1 (fun _ => 0), va_up L G.1 (fun _ => 0)) = some (.inl none, (G2, I2, L2)) ∧ LayH G2 y ∧ Gro y 14 179 G G2 I I2 (d1 (va_up (va_up (va_up (fun _ => 0) 16 100) 17 9999) 18 600)) := by
  obtain ⟨G2, I2, L2, e, l, p, r⟩ := n_H d (G := gA G 5 0 19) (I := va_up I G.1 (fun _ => 0)) (L := va_up L G.1 (fun _ => 0)) (x := y) (by rw [kA, hy, up_eq]) (by rw [A1, hy])
  have r' : va_up I G.1 (fun _ => 0) y = fun _ => 0 := by rw [hy, up_eq]
  rw [r'] at r
  exact ⟨G2, I2, L2, e, l, Gro_N hy (by decide) p r⟩
theorem g_S (d : Nat) {G : mG} {I : Nat → Nat → Int32} {L : Nat → Nat → Int64} {y : Nat} (hy : G.1 = y) : ∃ G2 I2 L2, mcal mT (d + 1) 74 [.ref y] (gA G 8 0 11, va_up I G.1 (fun _ => 0), va_up L G.1 (fun _ => 0)) = some (.inl none, (G2, I2, L2)) ∧ LayS G2 y ∧ Gro y 7 79 G G2 I I2 (d1 (va_up (fun _ => 0) 10 100)) := by
  obtain ⟨G2, I2, L2, e, l, p, r⟩ := n_S d (G := gA G 8 0 11) (I := va_up I G.1 (fun _ => 0)) (L := va_up L G.1 (fun _ => 0)) (x := y) (by rw [kA, hy, up_eq]) (by rw [A1, hy])
  have r' : va_up I G.1 (fun _ => 0) y = fun _ => 0 := by rw [hy, up_eq]
  rw [r'] at r
  exact ⟨G2, I2, L2, e, l, Gro_N hy (by decide) p r⟩
theorem g_T (d : Nat) {G : mG} {I : Nat → Nat → Int32} {L : Nat → Nat → Int64} {y : Nat} (hy : G.1 = y) : ∃ G2 I2 L2, mcal mT (d + 1) 79 [.ref y] (gA G 9 0 19, va_up I G.1 (fun _ => 0), va_up L G.1 (fun _ => 0)) = some (.inl none, (G2, I2, L2)) ∧ LayT G2 y ∧ Gro y 14 119 G G2 I I2 (d1 (fun _ => 0)) := by
  obtain ⟨G2, I2, L2, e, l, p, r⟩ := n_T d (G := gA G 9 0 19) (I := va_up I G.1 (fun _ => 0)) (L := va_up L G.1 (fun _ => 0)) (x := y) (by rw [kA, hy, up_eq]) (by rw [A1, hy])
  have r' : va_up I G.1 (fun _ => 0) y = fun _ => 0 := by rw [hy, up_eq]
  rw [r'] at r
  exact ⟨G2, I2, L2, e, l, Gro_N hy (by decide) p r⟩
theorem g_U (d : Nat) {G : mG} {I : Nat → Nat → Int32} {L : Nat → Nat → Int64} {y : Nat} (hy : G.1 = y) : ∃ G2 I2 L2, mcal mT (d + 1) 82 [.ref y] (gA G 10 0 3, va_up I G.1 (fun _ => 0), va_up L G.1 (fun _ => 0)) = some (.inl none, (G2, I2, L2)) ∧ LayU G2 y ∧ Gro y 3 19 G G2 I I2 (d1 (fun _ => 0)) := by
  obtain ⟨G2, I2, L2, e, l, p, r⟩ := n_U d (G := gA G 10 0 3) (I := va_up I G.1 (fun _ => 0)) (L := va_up L G.1 (fun _ => 0)) (x := y) (by rw [kA, hy, up_eq]) (by rw [A1, hy])
  have r' : va_up I G.1 (fun _ => 0) y = fun _ => 0 := by rw [hy, up_eq]
  rw [r'] at r
  exact ⟨G2, I2, L2, e, l, Gro_N hy (by decide) p r⟩
theorem g_D (d : Nat) {G : mG} {I : Nat → Nat → Int32} {L : Nat → Nat → Int64} {y : Nat} (hy : G.1 = y) : ∃ G2 I2 L2, mcal mT (d + 1) 24 [.ref y] (gA G 4 0 4, va_up I G.1 (fun _ => 0), va_up L G.1 (fun _ => 0)) = some (.inl none, (G2, I2, L2)) ∧ LayD G2 y ∧ Gro y 3 2748 G G2 I I2 (d1 (fun _ => 0)) := by
  obtain ⟨G2, I2, L2, e, l, p, r⟩ := n_D d (G := gA G 4 0 4) (I := va_up I G.1 (fun _ => 0)) (L := va_up L G.1 (fun _ => 0)) (x := y) (by rw [kA, hy, up_eq]) (by rw [A1, hy])
  have r' : va_up I G.1 (fun _ => 0) y = fun _ => 0 := by rw [hy, up_eq]
  rw [r'] at r
  exact ⟨G2, I2, L2, e, l, Gro_N hy (by decide) p r⟩
theorem g_C (d : Nat) {G : mG} {I : Nat → Nat → Int32} {L : Nat → Nat → Int64} {y : Nat} (hy : G.1 = y) : ∃ G2 I2 L2, mcal mT (d + 1) 19 [.ref y] (gA G 3 0 4, va_up I G.1 (fun _ => 0), va_up L G.1 (fun _ => 0)) = some (.inl none, (G2, I2, L2)) ∧ LayC G2 y ∧ Gro y 3 219 G G2 I I2 (d1 (fun _ => 0)) := by
  obtain ⟨G2, I2, L2, e, l, p, r⟩ := n_C d (G := gA G 3 0 4) (I := va_up I G.1 (fun _ => 0)) (L := va_up L G.1 (fun _ => 0)) (x := y) (by rw [kA, hy, up_eq]) (by rw [A1, hy])
  have r' : va_up I G.1 (fun _ => 0) y = fun _ => 0 := by rw [hy, up_eq]
  rw [r'] at r
  exact ⟨G2, I2, L2, e, l, Gro_N hy (by decide) p r⟩
theorem g_B (d : Nat) {G : mG} {I : Nat → Nat → Int32} {L : Nat → Nat → Int64} {y : Nat} (hy : G.1 = y) : ∃ G2 I2 L2, mcal mT (d + 2) 0 [.ref y] (gA G 1 0 6, va_up I G.1 (fun _ => 0), va_up L G.1 (fun _ => 0)) = some (.inl none, (G2, I2, L2)) ∧ LayW G2 1 y ∧ Gro y 4 225 G G2 I I2 (ct 1 (d1 (fun _ => 0)) (d1 (fun _ => 0))) := by
  have c0 : Cum y 1 1 6 G (gA G 1 0 6) I (va_up I G.1 (fun _ => 0)) (fun _ => none) (d1 (fun _ => 0)) := Cum_0 hy
  generalize hG0 : gA G 1 0 6 = H0 at c0
  generalize hI0 : va_up I G.1 (fun _ => 0) = J0 at c0
  generalize hL0 : va_up L G.1 (fun _ => 0) = K0
  obtain ⟨G1, J1, K1, e1, m1_0, g1⟩ := g_C (d + 0) (I := J0) (L := K0) (Cum_1 c0)
  have k1 := Cum_k c0 g1
  have c1 : Cum y 1 4 225 G (gS G1 y 0 (some (y + 1))) I J1 (va_up (fun _ => none) 0 (some (y + 1))) (ct 1 (d1 (fun _ => 0)) (d1 (fun _ => 0))) := Cum_s 0 c0 g1
  replace m1_0 := LayC_m (Sam_S (a := y) (k := 0) (v := some (y + 1)) (by omega)) m1_0
  generalize hH1 : gS G1 y 0 (some (y + 1)) = H1 at c1 m1_0
  refine ⟨H1, J1, K1, ?_, ⟨c1.2.1, by rw [c1.2.2.1, up_eq], m1_0⟩, c1.1⟩
  rw [q_X0_init_, e_X0_init_0, malo_o (Cum_1 c0) e1 k1]
  dsimp only
  rw [hH1]
theorem g_Q (d : Nat) {G : mG} {I : Nat → Nat → Int32} {L : Nat → Nat → Int64} {y : Nat} (hy : G.1 = y) : ∃ G2 I2 L2, mcal mT (d + 2) 9 [.ref y] (gA G 2 0 1, va_up I G.1 (fun _ => 0), va_up L G.1 (fun _ => 0)) = some (.inl none, (G2, I2, L2)) ∧ LayW G2 2 y ∧ Gro y 4 220 G G2 I I2 (ct 1 (d1 (fun _ => 0)) (d1 (fun _ => 0))) := by
  have c0 : Cum y 2 1 1 G (gA G 2 0 1) I (va_up I G.1 (fun _ => 0)) (fun _ => none) (d1 (fun _ => 0)) := Cum_0 hy
  generalize hG0 : gA G 2 0 1 = H0 at c0
  generalize hI0 : va_up I G.1 (fun _ => 0) = J0 at c0
  generalize hL0 : va_up L G.1 (fun _ => 0) = K0
  obtain ⟨G1, J1, K1, e1, m1_0, g1⟩ := g_C (d + 0) (I := J0) (L := K0) (Cum_1 c0)
  have k1 := Cum_k c0 g1
  have c1 : Cum y 2 4 220 G (gS G1 y 0 (some (y + 1))) I J1 (va_up (fun _ => none) 0 (some (y + 1))) (ct 1 (d1 (fun _ => 0)) (d1 (fun _ => 0))) := Cum_s 0 c0 g1
  replace m1_0 := LayC_m (Sam_S (a := y) (k := 0) (v := some (y + 1)) (by omega)) m1_0
  generalize hH1 : gS G1 y 0 (some (y + 1)) = H1 at c1 m1_0
  refine ⟨H1, J1, K1, ?_, ⟨c1.2.1, by rw [c1.2.2.1, up_eq], m1_0⟩, c1.1⟩
  rw [q_X1_init_, e_X1_init_0, malo_o (Cum_1 c0) e1 k1]
  dsimp only
  rw [hH1]
theorem g_P (d : Nat) {G : mG} {I : Nat → Nat → Int32} {L : Nat → Nat → Int64} {y : Nat} (hy : G.1 = y) : ∃ G2 I2 L2, mcal mT (d + 2) 54 [.ref y] (gA G 7 0 4, va_up I G.1 (fun _ => 0), va_up L G.1 (fun _ => 0)) = some (.inl none, (G2, I2, L2)) ∧ (LayP G2 y (y + 1) (y + 15) (y + 22) (y + 36) ∧ LayH G2 (y + 1) ∧ LayS G2 (y + 15) ∧ LayT G2 (y + 22) ∧ LayU G2 (y + 36)) ∧ Gro y 39 400 G G2 I I2 (ct 36 (ct 22 (ct 15 (ct 1 (d1 (fun _ => 0)) (d1 (va_up (va_up (va_up (fun _ => 0) 16 100) 17 9999) 18 600))) (d1 (va_up (fun _ => 0) 10 100))) (d1 (fun _ => 0))) (d1 (fun _ => 0))) := by
  have c0 : Cum y 7 1 4 G (gA G 7 0 4) I (va_up I G.1 (fun _ => 0)) (fun _ => none) (d1 (fun _ => 0)) := Cum_0 hy
  generalize hG0 : gA G 7 0 4 = H0 at c0
  generalize hI0 : va_up I G.1 (fun _ => 0) = J0 at c0
  generalize hL0 : va_up L G.1 (fun _ => 0) = K0
  obtain ⟨G1, J1, K1, e1, m1_0, g1⟩ := g_H (d + 0) (I := J0) (L := K0) (Cum_1 c0)
  have k1 := Cum_k c0 g1
  have c1 : Cum y 7 15 183 G (gS G1 y 0 (some (y + 1))) I J1 (va_up (fun _ => none) 0 (some (y + 1))) (ct 1 (d1 (fun _ => 0)) (d1 (va_up (va_up (va_up (fun _ => 0) 16 100) 17 9999) 18 600))) := Cum_s 0 c0 g1
  replace m1_0 := LayH_m (Sam_S (a := y) (k := 0) (v := some (y + 1)) (by omega)) m1_0
  generalize hH1 : gS G1 y 0 (some (y + 1)) = H1 at c1 m1_0
  obtain ⟨G2, J2, K2, e2, m2_0, g2⟩ := g_S (d + 0) (I := J1) (L := K1) (Cum_1 c1)
  have k2 := Cum_k c1 g2
  have c2 : Cum y 7 22 262 G (gS G2 y 1 (some (y + 15))) I J2 (va_up (va_up (fun _ => none) 0 (some (y + 1))) 1 (some (y + 15))) (ct 15 (ct 1 (d1 (fun _ => 0)) (d1 (va_up (va_up (va_up (fun _ => 0) 16 100) 17 9999) 18 600))) (d1 (va_up (fun _ => 0) 10 100))) := Cum_s 1 c1 g2
  replace m1_0 := LayH_m (Sam_c (x := y) (k := 1) (q := some (y + 15)) g2 (by omega) (by omega)) m1_0
  replace m2_0 := LayS_m (Sam_S (a := y) (k := 1) (v := some (y + 15)) (by omega)) m2_0
  generalize hH2 : gS G2 y 1 (some (y + 15)) = H2 at c2 m1_0 m2_0
  obtain ⟨G3, J3, K3, e3, m3_0, g3⟩ := g_T (d + 0) (I := J2) (L := K2) (Cum_1 c2)
  have k3 := Cum_k c2 g3
  have c3 : Cum y 7 36 381 G (gS G3 y 2 (some (y + 22))) I J3 (va_up (va_up (va_up (fun _ => none) 0 (some (y + 1))) 1 (some (y + 15))) 2 (some (y + 22))) (ct 22 (ct 15 (ct 1 (d1 (fun _ => 0)) (d1 (va_up (va_up (va_up (fun _ => 0) 16 100) 17 9999) 18 600))) (d1 (va_up (fun _ => 0) 10 100))) (d1 (fun _ => 0))) := Cum_s 2 c2 g3
  replace m1_0 := LayH_m (Sam_c (x := y) (k := 2) (q := some (y + 22)) g3 (by omega) (by omega)) m1_0
  replace m2_0 := LayS_m (Sam_c (x := y) (k := 2) (q := some (y + 22)) g3 (by omega) (by omega)) m2_0
  replace m3_0 := LayT_m (Sam_S (a := y) (k := 2) (v := some (y + 22)) (by omega)) m3_0
  generalize hH3 : gS G3 y 2 (some (y + 22)) = H3 at c3 m1_0 m2_0 m3_0
  obtain ⟨G4, J4, K4, e4, m4_0, g4⟩ := g_U (d + 0) (I := J3) (L := K3) (Cum_1 c3)
  have k4 := Cum_k c3 g4
  have c4 : Cum y 7 39 400 G (gS G4 y 3 (some (y + 36))) I J4 (va_up (va_up (va_up (va_up (fun _ => none) 0 (some (y + 1))) 1 (some (y + 15))) 2 (some (y + 22))) 3 (some (y + 36))) (ct 36 (ct 22 (ct 15 (ct 1 (d1 (fun _ => 0)) (d1 (va_up (va_up (va_up (fun _ => 0) 16 100) 17 9999) 18 600))) (d1 (va_up (fun _ => 0) 10 100))) (d1 (fun _ => 0))) (d1 (fun _ => 0))) := Cum_s 3 c3 g4
  replace m1_0 := LayH_m (Sam_c (x := y) (k := 3) (q := some (y + 36)) g4 (by omega) (by omega)) m1_0
  replace m2_0 := LayS_m (Sam_c (x := y) (k := 3) (q := some (y + 36)) g4 (by omega) (by omega)) m2_0
  replace m3_0 := LayT_m (Sam_c (x := y) (k := 3) (q := some (y + 36)) g4 (by omega) (by omega)) m3_0
  replace m4_0 := LayU_m (Sam_S (a := y) (k := 3) (v := some (y + 36)) (by omega)) m4_0
  generalize hH4 : gS G4 y 3 (some (y + 36)) = H4 at c4 m1_0 m2_0 m3_0 m4_0
  refine ⟨H4, J4, K4, ?_, ⟨⟨c4.2.1, ?_, ?_, ?_, ?_⟩, m1_0, m2_0, m3_0, m4_0⟩, c4.1⟩
  · rw [q_X6_init_, e_X6_init_0, malo_o (Cum_1 c0) e1 k1]
    dsimp only
    rw [hH1, malo_o (Cum_1 c1) e2 k2]
    dsimp only
    rw [hH2, malo_o (Cum_1 c2) e3 k3]
    dsimp only
    rw [hH3, malo_o (Cum_1 c3) e4 k4]
    dsimp only
    rw [hH4]
  · rw [c4.2.2.1]; simp (disch := decide) only [up_eq, up_ne]
  · rw [c4.2.2.1]; simp (disch := decide) only [up_eq, up_ne]
  · rw [c4.2.2.1]; simp (disch := decide) only [up_eq, up_ne]
  · rw [c4.2.2.1]; simp (disch := decide) only [up_eq, up_ne]
def LayPP (G : mG) (y : Nat) : Prop := LayP G y (y + 1) (y + 15) (y + 22) (y + 36) ∧ LayH G (y + 1) ∧ LayS G (y + 15) ∧ LayT G (y + 22) ∧ LayU G (y + 36)
theorem LayPP_m {G G' : mG} {y : Nat} (g : Sam G G' y 39) (q : LayPP G y) : LayPP G' y := ⟨LayP_m (fun a h1 h2 => g a (by omega) (by omega)) q.1, LayH_m (fun a h1 h2 => g a (by omega) (by omega)) q.2.1, LayS_m (fun a h1 h2 => g a (by omega) (by omega)) q.2.2.1, LayT_m (fun a h1 h2 => g a (by omega) (by omega)) q.2.2.2.1, LayU_m (fun a h1 h2 => g a (by omega) (by omega)) q.2.2.2.2⟩
theorem g_Z (d : Nat) {G : mG} {I : Nat → Nat → Int32} {L : Nat → Nat → Int64} {y : Nat} (hy : G.1 = y) : ∃ G2 I2 L2, mcal mT (d + 3) 99 [.ref y] (gA G 12 0 16, va_up I G.1 (fun _ => 0), va_up L G.1 (fun _ => 0)) = some (.inl none, (G2, I2, L2)) ∧ (gK G2 y = 12 ∧ gR G2 y = (va_up (va_up (va_up (va_up (va_up (va_up (va_up (va_up (va_up (va_up (va_up (va_up (va_up (va_up (fun _ => none) 0 (some (y + 1))) 1 (some (y + 3))) 2 (some (y + 17))) 3 (some (y + 56))) 4 (some (y + 95))) 5 (some (y + 98))) 7 (some (y + 99))) 8 (some (y + 103))) 9 (some (y + 107))) 10 (some (y + 111))) 11 (some (y + 115))) 12 (some (y + 116))) 13 (some (y + 117))) 14 (some (y + 118))) ∧ LayX G2 (y + 1) ∧ LayH G2 (y + 3) ∧ LayPP G2 (y + 17) ∧ LayPP G2 (y + 56) ∧ LayD G2 (y + 95) ∧ LayW G2 1 (y + 99) ∧ LayW G2 1 (y + 103) ∧ LayW G2 2 (y + 107) ∧ LayW G2 2 (y + 111) ∧ (gK G2 (y + 98) = 22 ∧ gN G2 (y + 98) = 4 ∧ gR G2 (y + 98) = fun _ => none) ∧ (gK G2 (y + 115) = 20 ∧ gN G2 (y + 115) = 8 ∧ gR G2 (y + 115) = fun _ => none) ∧ (gK G2 (y + 116) = 20 ∧ gN G2 (y + 116) = 8 ∧ gR G2 (y + 116) = fun _ => none) ∧ (gK G2 (y + 117) = 20 ∧ gN G2 (y + 117) = 40 ∧ gR G2 (y + 117) = fun _ => none) ∧ (gK G2 (y + 118) = 20 ∧ gN G2 (y + 118) = 60 ∧ gR G2 (y + 118) = fun _ => none)) ∧ Gro y 119 5261 G G2 I I2 (fun a => if a = 117 then pre 40 (fun _ => -1) (fun _ => 0) else (ct 118 (ct 117 (ct 116 (ct 115 (ct 111 (ct 107 (ct 103 (ct 99 (ct 98 (ct 95 (ct 56 (ct 17 (ct 3 (ct 1 (d1 (fun _ => 0)) (d1 (va_up (fun _ => 0) 7 (-1)))) (d1 (va_up (va_up (va_up (fun _ => 0) 16 100) 17 9999) 18 600))) (ct 36 (ct 22 (ct 15 (ct 1 (d1 (fun _ => 0)) (d1 (va_up (va_up (va_up (fun _ => 0) 16 100) 17 9999) 18 600))) (d1 (va_up (fun _ => 0) 10 100))) (d1 (fun _ => 0))) (d1 (fun _ => 0)))) (ct 36 (ct 22 (ct 15 (ct 1 (d1 (fun _ => 0)) (d1 (va_up (va_up (va_up (fun _ => 0) 16 100) 17 9999) 18 600))) (d1 (va_up (fun _ => 0) 10 100))) (d1 (fun _ => 0))) (d1 (fun _ => 0)))) (d1 (fun _ => 0))) (d1 (fun _ => 0))) (ct 1 (d1 (fun _ => 0)) (d1 (fun _ => 0)))) (ct 1 (d1 (fun _ => 0)) (d1 (fun _ => 0)))) (ct 1 (d1 (fun _ => 0)) (d1 (fun _ => 0)))) (ct 1 (d1 (fun _ => 0)) (d1 (fun _ => 0)))) (d1 (fun _ => 0))) (d1 (fun _ => 0))) (d1 (fun _ => 0))) (d1 (fun _ => 0))) a) := by
  have c0 : Cum y 12 1 16 G (gA G 12 0 16) I (va_up I G.1 (fun _ => 0)) (fun _ => none) (d1 (fun _ => 0)) := Cum_0 hy
  generalize hG0 : gA G 12 0 16 = H0 at c0
  generalize hI0 : va_up I G.1 (fun _ => 0) = J0 at c0
  generalize hL0 : va_up L G.1 (fun _ => 0) = K0
  obtain ⟨G1, J1, K1, e1, m1_0, g1⟩ := g_X (d + 1) (I := J0) (L := K0) (Cum_1 c0)
  have k1 := Cum_k c0 g1
  have c1 : Cum y 12 3 524 G (gS G1 y 0 (some (y + 1))) I J1 (va_up (fun _ => none) 0 (some (y + 1))) (ct 1 (d1 (fun _ => 0)) (d1 (va_up (fun _ => 0) 7 (-1)))) := Cum_s 0 c0 g1
  replace m1_0 := LayX_m (Sam_S (a := y) (k := 0) (v := some (y + 1)) (by omega)) m1_0
  generalize hH1 : gS G1 y 0 (some (y + 1)) = H1 at c1 m1_0
  obtain ⟨G2, J2, K2, e2, m2_0, g2⟩ := g_H (d + 1) (I := J1) (L := K1) (Cum_1 c1)
  have k2 := Cum_k c1 g2
  have c2 : Cum y 12 17 703 G (gS G2 y 1 (some (y + 3))) I J2 (va_up (va_up (fun _ => none) 0 (some (y + 1))) 1 (some (y + 3))) (ct 3 (ct 1 (d1 (fun _ => 0)) (d1 (va_up (fun _ => 0) 7 (-1)))) (d1 (va_up (va_up (va_up (fun _ => 0) 16 100) 17 9999) 18 600))) := Cum_s 1 c1 g2
  replace m1_0 := LayX_m (Sam_c (x := y) (k := 1) (q := some (y + 3)) g2 (by omega) (by omega)) m1_0
  replace m2_0 := LayH_m (Sam_S (a := y) (k := 1) (v := some (y + 3)) (by omega)) m2_0
  generalize hH2 : gS G2 y 1 (some (y + 3)) = H2 at c2 m1_0 m2_0
  obtain ⟨G3, J3, K3, e3, m3_0, g3⟩ := g_P (d + 0) (I := J2) (L := K2) (Cum_1 c2)
  have k3 := Cum_k c2 g3
  have c3 : Cum y 12 56 1103 G (gS G3 y 2 (some (y + 17))) I J3 (va_up (va_up (va_up (fun _ => none) 0 (some (y + 1))) 1 (some (y + 3))) 2 (some (y + 17))) (ct 17 (ct 3 (ct 1 (d1 (fun _ => 0)) (d1 (va_up (fun _ => 0) 7 (-1)))) (d1 (va_up (va_up (va_up (fun _ => 0) 16 100) 17 9999) 18 600))) (ct 36 (ct 22 (ct 15 (ct 1 (d1 (fun _ => 0)) (d1 (va_up (va_up (va_up (fun _ => 0) 16 100) 17 9999) 18 600))) (d1 (va_up (fun _ => 0) 10 100))) (d1 (fun _ => 0))) (d1 (fun _ => 0)))) := Cum_s 2 c2 g3
  replace m1_0 := LayX_m (Sam_c (x := y) (k := 2) (q := some (y + 17)) g3 (by omega) (by omega)) m1_0
  replace m2_0 := LayH_m (Sam_c (x := y) (k := 2) (q := some (y + 17)) g3 (by omega) (by omega)) m2_0
  replace m3_0 := LayPP_m (Sam_S (a := y) (k := 2) (v := some (y + 17)) (by omega)) m3_0
  generalize hH3 : gS G3 y 2 (some (y + 17)) = H3 at c3 m1_0 m2_0 m3_0
  obtain ⟨G4, J4, K4, e4, m4_0, g4⟩ := g_P (d + 0) (I := J3) (L := K3) (Cum_1 c3)
  have k4 := Cum_k c3 g4
  have c4 : Cum y 12 95 1503 G (gS G4 y 3 (some (y + 56))) I J4 (va_up (va_up (va_up (va_up (fun _ => none) 0 (some (y + 1))) 1 (some (y + 3))) 2 (some (y + 17))) 3 (some (y + 56))) (ct 56 (ct 17 (ct 3 (ct 1 (d1 (fun _ => 0)) (d1 (va_up (fun _ => 0) 7 (-1)))) (d1 (va_up (va_up (va_up (fun _ => 0) 16 100) 17 9999) 18 600))) (ct 36 (ct 22 (ct 15 (ct 1 (d1 (fun _ => 0)) (d1 (va_up (va_up (va_up (fun _ => 0) 16 100) 17 9999) 18 600))) (d1 (va_up (fun _ => 0) 10 100))) (d1 (fun _ => 0))) (d1 (fun _ => 0)))) (ct 36 (ct 22 (ct 15 (ct 1 (d1 (fun _ => 0)) (d1 (va_up (va_up (va_up (fun _ => 0) 16 100) 17 9999) 18 600))) (d1 (va_up (fun _ => 0) 10 100))) (d1 (fun _ => 0))) (d1 (fun _ => 0)))) := Cum_s 3 c3 g4
  replace m1_0 := LayX_m (Sam_c (x := y) (k := 3) (q := some (y + 56)) g4 (by omega) (by omega)) m1_0
  replace m2_0 := LayH_m (Sam_c (x := y) (k := 3) (q := some (y + 56)) g4 (by omega) (by omega)) m2_0
  replace m3_0 := LayPP_m (Sam_c (x := y) (k := 3) (q := some (y + 56)) g4 (by omega) (by omega)) m3_0
  replace m4_0 := LayPP_m (Sam_S (a := y) (k := 3) (v := some (y + 56)) (by omega)) m4_0
  generalize hH4 : gS G4 y 3 (some (y + 56)) = H4 at c4 m1_0 m2_0 m3_0 m4_0
  obtain ⟨G5, J5, K5, e5, m5_0, g5⟩ := g_D (d + 1) (I := J4) (L := K4) (Cum_1 c4)
  have k5 := Cum_k c4 g5
  have c5 : Cum y 12 98 4251 G (gS G5 y 4 (some (y + 95))) I J5 (va_up (va_up (va_up (va_up (va_up (fun _ => none) 0 (some (y + 1))) 1 (some (y + 3))) 2 (some (y + 17))) 3 (some (y + 56))) 4 (some (y + 95))) (ct 95 (ct 56 (ct 17 (ct 3 (ct 1 (d1 (fun _ => 0)) (d1 (va_up (fun _ => 0) 7 (-1)))) (d1 (va_up (va_up (va_up (fun _ => 0) 16 100) 17 9999) 18 600))) (ct 36 (ct 22 (ct 15 (ct 1 (d1 (fun _ => 0)) (d1 (va_up (va_up (va_up (fun _ => 0) 16 100) 17 9999) 18 600))) (d1 (va_up (fun _ => 0) 10 100))) (d1 (fun _ => 0))) (d1 (fun _ => 0)))) (ct 36 (ct 22 (ct 15 (ct 1 (d1 (fun _ => 0)) (d1 (va_up (va_up (va_up (fun _ => 0) 16 100) 17 9999) 18 600))) (d1 (va_up (fun _ => 0) 10 100))) (d1 (fun _ => 0))) (d1 (fun _ => 0)))) (d1 (fun _ => 0))) := Cum_s 4 c4 g5
  replace m1_0 := LayX_m (Sam_c (x := y) (k := 4) (q := some (y + 95)) g5 (by omega) (by omega)) m1_0
  replace m2_0 := LayH_m (Sam_c (x := y) (k := 4) (q := some (y + 95)) g5 (by omega) (by omega)) m2_0
  replace m3_0 := LayPP_m (Sam_c (x := y) (k := 4) (q := some (y + 95)) g5 (by omega) (by omega)) m3_0
  replace m4_0 := LayPP_m (Sam_c (x := y) (k := 4) (q := some (y + 95)) g5 (by omega) (by omega)) m4_0
  replace m5_0 := LayD_m (Sam_S (a := y) (k := 4) (v := some (y + 95)) (by omega)) m5_0
  generalize hH5 : gS G5 y 4 (some (y + 95)) = H5 at c5 m1_0 m2_0 m3_0 m4_0 m5_0
  have g6 := Gro_A (t := 22) (n := 4) (I := J5) (Cum_1 c5)
  have q6_k : gK (gA H5 22 4 4) (y + 98) = 22 := by rw [kA, Cum_1 c5, up_eq]
  have q6_n : gN (gA H5 22 4 4) (y + 98) = 4 := by rw [nA, Cum_1 c5, up_eq]
  have q6_r : gR (gA H5 22 4 4) (y + 98) = fun _ => none := by rw [rA, Cum_1 c5, up_eq]
  generalize hA6 : gA H5 22 4 4 = G6 at g6 q6_k q6_n q6_r
  generalize hB6 : va_up J5 H5.1 (fun _ => 0) = J6 at g6
  generalize hC6 : va_up K5 H5.1 (fun _ => 0) = K6
  have k6 := Cum_k c5 g6
  have c6 : Cum y 12 99 4255 G (gS G6 y 5 (some (y + 98))) I J6 (va_up (va_up (va_up (va_up (va_up (va_up (fun _ => none) 0 (some (y + 1))) 1 (some (y + 3))) 2 (some (y + 17))) 3 (some (y + 56))) 4 (some (y + 95))) 5 (some (y + 98))) (ct 98 (ct 95 (ct 56 (ct 17 (ct 3 (ct 1 (d1 (fun _ => 0)) (d1 (va_up (fun _ => 0) 7 (-1)))) (d1 (va_up (va_up (va_up (fun _ => 0) 16 100) 17 9999) 18 600))) (ct 36 (ct 22 (ct 15 (ct 1 (d1 (fun _ => 0)) (d1 (va_up (va_up (va_up (fun _ => 0) 16 100) 17 9999) 18 600))) (d1 (va_up (fun _ => 0) 10 100))) (d1 (fun _ => 0))) (d1 (fun _ => 0)))) (ct 36 (ct 22 (ct 15 (ct 1 (d1 (fun _ => 0)) (d1 (va_up (va_up (va_up (fun _ => 0) 16 100) 17 9999) 18 600))) (d1 (va_up (fun _ => 0) 10 100))) (d1 (fun _ => 0))) (d1 (fun _ => 0)))) (d1 (fun _ => 0))) (d1 (fun _ => 0))) := Cum_s 5 c5 g6
  replace m1_0 := LayX_m (Sam_c (x := y) (k := 5) (q := some (y + 98)) g6 (by omega) (by omega)) m1_0
  replace m2_0 := LayH_m (Sam_c (x := y) (k := 5) (q := some (y + 98)) g6 (by omega) (by omega)) m2_0
  replace m3_0 := LayPP_m (Sam_c (x := y) (k := 5) (q := some (y + 98)) g6 (by omega) (by omega)) m3_0
  replace m4_0 := LayPP_m (Sam_c (x := y) (k := 5) (q := some (y + 98)) g6 (by omega) (by omega)) m4_0
  replace m5_0 := LayD_m (Sam_c (x := y) (k := 5) (q := some (y + 98)) g6 (by omega) (by omega)) m5_0
  replace q6_r := (show gR (gS G6 y 5 (some (y + 98))) (y + 98) = gR G6 (y + 98) from by rw [rS, up_ne (by omega)]).trans q6_r
  replace q6_k : gK (gS G6 y 5 (some (y + 98))) (y + 98) = 22 := q6_k
  replace q6_n : gN (gS G6 y 5 (some (y + 98))) (y + 98) = 4 := q6_n
  generalize hH6 : gS G6 y 5 (some (y + 98)) = H6 at c6 m1_0 m2_0 m3_0 m4_0 m5_0 q6_k q6_n q6_r
  obtain ⟨G7, J7, K7, e7, m7_0, g7⟩ := g_B (d + 0) (I := J6) (L := K6) (Cum_1 c6)
  have k7 := Cum_k c6 g7
  have c7 : Cum y 12 103 4480 G (gS G7 y 7 (some (y + 99))) I J7 (va_up (va_up (va_up (va_up (va_up (va_up (va_up (fun _ => none) 0 (some (y + 1))) 1 (some (y + 3))) 2 (some (y + 17))) 3 (some (y + 56))) 4 (some (y + 95))) 5 (some (y + 98))) 7 (some (y + 99))) (ct 99 (ct 98 (ct 95 (ct 56 (ct 17 (ct 3 (ct 1 (d1 (fun _ => 0)) (d1 (va_up (fun _ => 0) 7 (-1)))) (d1 (va_up (va_up (va_up (fun _ => 0) 16 100) 17 9999) 18 600))) (ct 36 (ct 22 (ct 15 (ct 1 (d1 (fun _ => 0)) (d1 (va_up (va_up (va_up (fun _ => 0) 16 100) 17 9999) 18 600))) (d1 (va_up (fun _ => 0) 10 100))) (d1 (fun _ => 0))) (d1 (fun _ => 0)))) (ct 36 (ct 22 (ct 15 (ct 1 (d1 (fun _ => 0)) (d1 (va_up (va_up (va_up (fun _ => 0) 16 100) 17 9999) 18 600))) (d1 (va_up (fun _ => 0) 10 100))) (d1 (fun _ => 0))) (d1 (fun _ => 0)))) (d1 (fun _ => 0))) (d1 (fun _ => 0))) (ct 1 (d1 (fun _ => 0)) (d1 (fun _ => 0)))) := Cum_s 7 c6 g7
  replace m1_0 := LayX_m (Sam_c (x := y) (k := 7) (q := some (y + 99)) g7 (by omega) (by omega)) m1_0
  replace m2_0 := LayH_m (Sam_c (x := y) (k := 7) (q := some (y + 99)) g7 (by omega) (by omega)) m2_0
  replace m3_0 := LayPP_m (Sam_c (x := y) (k := 7) (q := some (y + 99)) g7 (by omega) (by omega)) m3_0
  replace m4_0 := LayPP_m (Sam_c (x := y) (k := 7) (q := some (y + 99)) g7 (by omega) (by omega)) m4_0
  replace m5_0 := LayD_m (Sam_c (x := y) (k := 7) (q := some (y + 99)) g7 (by omega) (by omega)) m5_0
  replace m7_0 := LayW_m (Sam_S (a := y) (k := 7) (v := some (y + 99)) (by omega)) m7_0
  replace q6_k := ((Sam_c (x := y) (k := 7) (q := some (y + 99)) g7 (s := y + 98) (v := 1) (by omega) (by omega)) (y + 98) (by omega) (by omega)).1.trans q6_k
  replace q6_n := ((Sam_c (x := y) (k := 7) (q := some (y + 99)) g7 (s := y + 98) (v := 1) (by omega) (by omega)) (y + 98) (by omega) (by omega)).2.1.trans q6_n
  replace q6_r := ((Sam_c (x := y) (k := 7) (q := some (y + 99)) g7 (s := y + 98) (v := 1) (by omega) (by omega)) (y + 98) (by omega) (by omega)).2.2.trans q6_r
  generalize hH7 : gS G7 y 7 (some (y + 99)) = H7 at c7 m1_0 m2_0 m3_0 m4_0 m5_0 m7_0 q6_k q6_n q6_r
  obtain ⟨G8, J8, K8, e8, m8_0, g8⟩ := g_B (d + 0) (I := J7) (L := K7) (Cum_1 c7)
  have k8 := Cum_k c7 g8
  have c8 : Cum y 12 107 4705 G (gS G8 y 8 (some (y + 103))) I J8 (va_up (va_up (va_up (va_up (va_up (va_up (va_up (va_up (fun _ => none) 0 (some (y + 1))) 1 (some (y + 3))) 2 (some (y + 17))) 3 (some (y + 56))) 4 (some (y + 95))) 5 (some (y + 98))) 7 (some (y + 99))) 8 (some (y + 103))) (ct 103 (ct 99 (ct 98 (ct 95 (ct 56 (ct 17 (ct 3 (ct 1 (d1 (fun _ => 0)) (d1 (va_up (fun _ => 0) 7 (-1)))) (d1 (va_up (va_up (va_up (fun _ => 0) 16 100) 17 9999) 18 600))) (ct 36 (ct 22 (ct 15 (ct 1 (d1 (fun _ => 0)) (d1 (va_up (va_up (va_up (fun _ => 0) 16 100) 17 9999) 18 600))) (d1 (va_up (fun _ => 0) 10 100))) (d1 (fun _ => 0))) (d1 (fun _ => 0)))) (ct 36 (ct 22 (ct 15 (ct 1 (d1 (fun _ => 0)) (d1 (va_up (va_up (va_up (fun _ => 0) 16 100) 17 9999) 18 600))) (d1 (va_up (fun _ => 0) 10 100))) (d1 (fun _ => 0))) (d1 (fun _ => 0)))) (d1 (fun _ => 0))) (d1 (fun _ => 0))) (ct 1 (d1 (fun _ => 0)) (d1 (fun _ => 0)))) (ct 1 (d1 (fun _ => 0)) (d1 (fun _ => 0)))) := Cum_s 8 c7 g8
  replace m1_0 := LayX_m (Sam_c (x := y) (k := 8) (q := some (y + 103)) g8 (by omega) (by omega)) m1_0
  replace m2_0 := LayH_m (Sam_c (x := y) (k := 8) (q := some (y + 103)) g8 (by omega) (by omega)) m2_0
  replace m3_0 := LayPP_m (Sam_c (x := y) (k := 8) (q := some (y + 103)) g8 (by omega) (by omega)) m3_0
  replace m4_0 := LayPP_m (Sam_c (x := y) (k := 8) (q := some (y + 103)) g8 (by omega) (by omega)) m4_0
  replace m5_0 := LayD_m (Sam_c (x := y) (k := 8) (q := some (y + 103)) g8 (by omega) (by omega)) m5_0
  replace m7_0 := LayW_m (Sam_c (x := y) (k := 8) (q := some (y + 103)) g8 (by omega) (by omega)) m7_0
  replace m8_0 := LayW_m (Sam_S (a := y) (k := 8) (v := some (y + 103)) (by omega)) m8_0
  replace q6_k := ((Sam_c (x := y) (k := 8) (q := some (y + 103)) g8 (s := y + 98) (v := 1) (by omega) (by omega)) (y + 98) (by omega) (by omega)).1.trans q6_k
  replace q6_n := ((Sam_c (x := y) (k := 8) (q := some (y + 103)) g8 (s := y + 98) (v := 1) (by omega) (by omega)) (y + 98) (by omega) (by omega)).2.1.trans q6_n
  replace q6_r := ((Sam_c (x := y) (k := 8) (q := some (y + 103)) g8 (s := y + 98) (v := 1) (by omega) (by omega)) (y + 98) (by omega) (by omega)).2.2.trans q6_r
  generalize hH8 : gS G8 y 8 (some (y + 103)) = H8 at c8 m1_0 m2_0 m3_0 m4_0 m5_0 m7_0 m8_0 q6_k q6_n q6_r
  obtain ⟨G9, J9, K9, e9, m9_0, g9⟩ := g_Q (d + 0) (I := J8) (L := K8) (Cum_1 c8)
  have k9 := Cum_k c8 g9
  have c9 : Cum y 12 111 4925 G (gS G9 y 9 (some (y + 107))) I J9 (va_up (va_up (va_up (va_up (va_up (va_up (va_up (va_up (va_up (fun _ => none) 0 (some (y + 1))) 1 (some (y + 3))) 2 (some (y + 17))) 3 (some (y + 56))) 4 (some (y + 95))) 5 (some (y + 98))) 7 (some (y + 99))) 8 (some (y + 103))) 9 (some (y + 107))) (ct 107 (ct 103 (ct 99 (ct 98 (ct 95 (ct 56 (ct 17 (ct 3 (ct 1 (d1 (fun _ => 0)) (d1 (va_up (fun _ => 0) 7 (-1)))) (d1 (va_up (va_up (va_up (fun _ => 0) 16 100) 17 9999) 18 600))) (ct 36 (ct 22 (ct 15 (ct 1 (d1 (fun _ => 0)) (d1 (va_up (va_up (va_up (fun _ => 0) 16 100) 17 9999) 18 600))) (d1 (va_up (fun _ => 0) 10 100))) (d1 (fun _ => 0))) (d1 (fun _ => 0)))) (ct 36 (ct 22 (ct 15 (ct 1 (d1 (fun _ => 0)) (d1 (va_up (va_up (va_up (fun _ => 0) 16 100) 17 9999) 18 600))) (d1 (va_up (fun _ => 0) 10 100))) (d1 (fun _ => 0))) (d1 (fun _ => 0)))) (d1 (fun _ => 0))) (d1 (fun _ => 0))) (ct 1 (d1 (fun _ => 0)) (d1 (fun _ => 0)))) (ct 1 (d1 (fun _ => 0)) (d1 (fun _ => 0)))) (ct 1 (d1 (fun _ => 0)) (d1 (fun _ => 0)))) := Cum_s 9 c8 g9
  replace m1_0 := LayX_m (Sam_c (x := y) (k := 9) (q := some (y + 107)) g9 (by omega) (by omega)) m1_0
  replace m2_0 := LayH_m (Sam_c (x := y) (k := 9) (q := some (y + 107)) g9 (by omega) (by omega)) m2_0
  replace m3_0 := LayPP_m (Sam_c (x := y) (k := 9) (q := some (y + 107)) g9 (by omega) (by omega)) m3_0
  replace m4_0 := LayPP_m (Sam_c (x := y) (k := 9) (q := some (y + 107)) g9 (by omega) (by omega)) m4_0
  replace m5_0 := LayD_m (Sam_c (x := y) (k := 9) (q := some (y + 107)) g9 (by omega) (by omega)) m5_0
  replace m7_0 := LayW_m (Sam_c (x := y) (k := 9) (q := some (y + 107)) g9 (by omega) (by omega)) m7_0
  replace m8_0 := LayW_m (Sam_c (x := y) (k := 9) (q := some (y + 107)) g9 (by omega) (by omega)) m8_0
  replace m9_0 := LayW_m (Sam_S (a := y) (k := 9) (v := some (y + 107)) (by omega)) m9_0
  replace q6_k := ((Sam_c (x := y) (k := 9) (q := some (y + 107)) g9 (s := y + 98) (v := 1) (by omega) (by omega)) (y + 98) (by omega) (by omega)).1.trans q6_k
  replace q6_n := ((Sam_c (x := y) (k := 9) (q := some (y + 107)) g9 (s := y + 98) (v := 1) (by omega) (by omega)) (y + 98) (by omega) (by omega)).2.1.trans q6_n
  replace q6_r := ((Sam_c (x := y) (k := 9) (q := some (y + 107)) g9 (s := y + 98) (v := 1) (by omega) (by omega)) (y + 98) (by omega) (by omega)).2.2.trans q6_r
  generalize hH9 : gS G9 y 9 (some (y + 107)) = H9 at c9 m1_0 m2_0 m3_0 m4_0 m5_0 m7_0 m8_0 m9_0 q6_k q6_n q6_r
  obtain ⟨G10, J10, K10, e10, m10_0, g10⟩ := g_Q (d + 0) (I := J9) (L := K9) (Cum_1 c9)
  have k10 := Cum_k c9 g10
  have c10 : Cum y 12 115 5145 G (gS G10 y 10 (some (y + 111))) I J10 (va_up (va_up (va_up (va_up (va_up (va_up (va_up (va_up (va_up (va_up (fun _ => none) 0 (some (y + 1))) 1 (some (y + 3))) 2 (some (y + 17))) 3 (some (y + 56))) 4 (some (y + 95))) 5 (some (y + 98))) 7 (some (y + 99))) 8 (some (y + 103))) 9 (some (y + 107))) 10 (some (y + 111))) (ct 111 (ct 107 (ct 103 (ct 99 (ct 98 (ct 95 (ct 56 (ct 17 (ct 3 (ct 1 (d1 (fun _ => 0)) (d1 (va_up (fun _ => 0) 7 (-1)))) (d1 (va_up (va_up (va_up (fun _ => 0) 16 100) 17 9999) 18 600))) (ct 36 (ct 22 (ct 15 (ct 1 (d1 (fun _ => 0)) (d1 (va_up (va_up (va_up (fun _ => 0) 16 100) 17 9999) 18 600))) (d1 (va_up (fun _ => 0) 10 100))) (d1 (fun _ => 0))) (d1 (fun _ => 0)))) (ct 36 (ct 22 (ct 15 (ct 1 (d1 (fun _ => 0)) (d1 (va_up (va_up (va_up (fun _ => 0) 16 100) 17 9999) 18 600))) (d1 (va_up (fun _ => 0) 10 100))) (d1 (fun _ => 0))) (d1 (fun _ => 0)))) (d1 (fun _ => 0))) (d1 (fun _ => 0))) (ct 1 (d1 (fun _ => 0)) (d1 (fun _ => 0)))) (ct 1 (d1 (fun _ => 0)) (d1 (fun _ => 0)))) (ct 1 (d1 (fun _ => 0)) (d1 (fun _ => 0)))) (ct 1 (d1 (fun _ => 0)) (d1 (fun _ => 0)))) := Cum_s 10 c9 g10
  replace m1_0 := LayX_m (Sam_c (x := y) (k := 10) (q := some (y + 111)) g10 (by omega) (by omega)) m1_0
  replace m2_0 := LayH_m (Sam_c (x := y) (k := 10) (q := some (y + 111)) g10 (by omega) (by omega)) m2_0
  replace m3_0 := LayPP_m (Sam_c (x := y) (k := 10) (q := some (y + 111)) g10 (by omega) (by omega)) m3_0
  replace m4_0 := LayPP_m (Sam_c (x := y) (k := 10) (q := some (y + 111)) g10 (by omega) (by omega)) m4_0
  replace m5_0 := LayD_m (Sam_c (x := y) (k := 10) (q := some (y + 111)) g10 (by omega) (by omega)) m5_0
  replace m7_0 := LayW_m (Sam_c (x := y) (k := 10) (q := some (y + 111)) g10 (by omega) (by omega)) m7_0
  replace m8_0 := LayW_m (Sam_c (x := y) (k := 10) (q := some (y + 111)) g10 (by omega) (by omega)) m8_0
  replace m9_0 := LayW_m (Sam_c (x := y) (k := 10) (q := some (y + 111)) g10 (by omega) (by omega)) m9_0
  replace m10_0 := LayW_m (Sam_S (a := y) (k := 10) (v := some (y + 111)) (by omega)) m10_0
  replace q6_k := ((Sam_c (x := y) (k := 10) (q := some (y + 111)) g10 (s := y + 98) (v := 1) (by omega) (by omega)) (y + 98) (by omega) (by omega)).1.trans q6_k
  replace q6_n := ((Sam_c (x := y) (k := 10) (q := some (y + 111)) g10 (s := y + 98) (v := 1) (by omega) (by omega)) (y + 98) (by omega) (by omega)).2.1.trans q6_n
  replace q6_r := ((Sam_c (x := y) (k := 10) (q := some (y + 111)) g10 (s := y + 98) (v := 1) (by omega) (by omega)) (y + 98) (by omega) (by omega)).2.2.trans q6_r
  generalize hH10 : gS G10 y 10 (some (y + 111)) = H10 at c10 m1_0 m2_0 m3_0 m4_0 m5_0 m7_0 m8_0 m9_0 m10_0 q6_k q6_n q6_r
  have g11 := Gro_A (t := 20) (n := 8) (I := J10) (Cum_1 c10)
  have q11_k : gK (gA H10 20 8 8) (y + 115) = 20 := by rw [kA, Cum_1 c10, up_eq]
  have q11_n : gN (gA H10 20 8 8) (y + 115) = 8 := by rw [nA, Cum_1 c10, up_eq]
  have q11_r : gR (gA H10 20 8 8) (y + 115) = fun _ => none := by rw [rA, Cum_1 c10, up_eq]
  generalize hA11 : gA H10 20 8 8 = G11 at g11 q11_k q11_n q11_r
  generalize hB11 : va_up J10 H10.1 (fun _ => 0) = J11 at g11
  generalize hC11 : va_up K10 H10.1 (fun _ => 0) = K11
  have k11 := Cum_k c10 g11
  have c11 : Cum y 12 116 5153 G (gS G11 y 11 (some (y + 115))) I J11 (va_up (va_up (va_up (va_up (va_up (va_up (va_up (va_up (va_up (va_up (va_up (fun _ => none) 0 (some (y + 1))) 1 (some (y + 3))) 2 (some (y + 17))) 3 (some (y + 56))) 4 (some (y + 95))) 5 (some (y + 98))) 7 (some (y + 99))) 8 (some (y + 103))) 9 (some (y + 107))) 10 (some (y + 111))) 11 (some (y + 115))) (ct 115 (ct 111 (ct 107 (ct 103 (ct 99 (ct 98 (ct 95 (ct 56 (ct 17 (ct 3 (ct 1 (d1 (fun _ => 0)) (d1 (va_up (fun _ => 0) 7 (-1)))) (d1 (va_up (va_up (va_up (fun _ => 0) 16 100) 17 9999) 18 600))) (ct 36 (ct 22 (ct 15 (ct 1 (d1 (fun _ => 0)) (d1 (va_up (va_up (va_up (fun _ => 0) 16 100) 17 9999) 18 600))) (d1 (va_up (fun _ => 0) 10 100))) (d1 (fun _ => 0))) (d1 (fun _ => 0)))) (ct 36 (ct 22 (ct 15 (ct 1 (d1 (fun _ => 0)) (d1 (va_up (va_up (va_up (fun _ => 0) 16 100) 17 9999) 18 600))) (d1 (va_up (fun _ => 0) 10 100))) (d1 (fun _ => 0))) (d1 (fun _ => 0)))) (d1 (fun _ => 0))) (d1 (fun _ => 0))) (ct 1 (d1 (fun _ => 0)) (d1 (fun _ => 0)))) (ct 1 (d1 (fun _ => 0)) (d1 (fun _ => 0)))) (ct 1 (d1 (fun _ => 0)) (d1 (fun _ => 0)))) (ct 1 (d1 (fun _ => 0)) (d1 (fun _ => 0)))) (d1 (fun _ => 0))) := Cum_s 11 c10 g11
  replace m1_0 := LayX_m (Sam_c (x := y) (k := 11) (q := some (y + 115)) g11 (by omega) (by omega)) m1_0
  replace m2_0 := LayH_m (Sam_c (x := y) (k := 11) (q := some (y + 115)) g11 (by omega) (by omega)) m2_0
  replace m3_0 := LayPP_m (Sam_c (x := y) (k := 11) (q := some (y + 115)) g11 (by omega) (by omega)) m3_0
  replace m4_0 := LayPP_m (Sam_c (x := y) (k := 11) (q := some (y + 115)) g11 (by omega) (by omega)) m4_0
  replace m5_0 := LayD_m (Sam_c (x := y) (k := 11) (q := some (y + 115)) g11 (by omega) (by omega)) m5_0
  replace m7_0 := LayW_m (Sam_c (x := y) (k := 11) (q := some (y + 115)) g11 (by omega) (by omega)) m7_0
  replace m8_0 := LayW_m (Sam_c (x := y) (k := 11) (q := some (y + 115)) g11 (by omega) (by omega)) m8_0
  replace m9_0 := LayW_m (Sam_c (x := y) (k := 11) (q := some (y + 115)) g11 (by omega) (by omega)) m9_0
  replace m10_0 := LayW_m (Sam_c (x := y) (k := 11) (q := some (y + 115)) g11 (by omega) (by omega)) m10_0
  replace q6_k := ((Sam_c (x := y) (k := 11) (q := some (y + 115)) g11 (s := y + 98) (v := 1) (by omega) (by omega)) (y + 98) (by omega) (by omega)).1.trans q6_k
  replace q6_n := ((Sam_c (x := y) (k := 11) (q := some (y + 115)) g11 (s := y + 98) (v := 1) (by omega) (by omega)) (y + 98) (by omega) (by omega)).2.1.trans q6_n
  replace q6_r := ((Sam_c (x := y) (k := 11) (q := some (y + 115)) g11 (s := y + 98) (v := 1) (by omega) (by omega)) (y + 98) (by omega) (by omega)).2.2.trans q6_r
  replace q11_r := (show gR (gS G11 y 11 (some (y + 115))) (y + 115) = gR G11 (y + 115) from by rw [rS, up_ne (by omega)]).trans q11_r
  replace q11_k : gK (gS G11 y 11 (some (y + 115))) (y + 115) = 20 := q11_k
  replace q11_n : gN (gS G11 y 11 (some (y + 115))) (y + 115) = 8 := q11_n
  generalize hH11 : gS G11 y 11 (some (y + 115)) = H11 at c11 m1_0 m2_0 m3_0 m4_0 m5_0 m7_0 m8_0 m9_0 m10_0 q6_k q6_n q6_r q11_k q11_n q11_r
  have g12 := Gro_A (t := 20) (n := 8) (I := J11) (Cum_1 c11)
  have q12_k : gK (gA H11 20 8 8) (y + 116) = 20 := by rw [kA, Cum_1 c11, up_eq]
  have q12_n : gN (gA H11 20 8 8) (y + 116) = 8 := by rw [nA, Cum_1 c11, up_eq]
  have q12_r : gR (gA H11 20 8 8) (y + 116) = fun _ => none := by rw [rA, Cum_1 c11, up_eq]
  generalize hA12 : gA H11 20 8 8 = G12 at g12 q12_k q12_n q12_r
  generalize hB12 : va_up J11 H11.1 (fun _ => 0) = J12 at g12
  generalize hC12 : va_up K11 H11.1 (fun _ => 0) = K12
  have k12 := Cum_k c11 g12
  have c12 : Cum y 12 117 5161 G (gS G12 y 12 (some (y + 116))) I J12 (va_up (va_up (va_up (va_up (va_up (va_up (va_up (va_up (va_up (va_up (va_up (va_up (fun _ => none) 0 (some (y + 1))) 1 (some (y + 3))) 2 (some (y + 17))) 3 (some (y + 56))) 4 (some (y + 95))) 5 (some (y + 98))) 7 (some (y + 99))) 8 (some (y + 103))) 9 (some (y + 107))) 10 (some (y + 111))) 11 (some (y + 115))) 12 (some (y + 116))) (ct 116 (ct 115 (ct 111 (ct 107 (ct 103 (ct 99 (ct 98 (ct 95 (ct 56 (ct 17 (ct 3 (ct 1 (d1 (fun _ => 0)) (d1 (va_up (fun _ => 0) 7 (-1)))) (d1 (va_up (va_up (va_up (fun _ => 0) 16 100) 17 9999) 18 600))) (ct 36 (ct 22 (ct 15 (ct 1 (d1 (fun _ => 0)) (d1 (va_up (va_up (va_up (fun _ => 0) 16 100) 17 9999) 18 600))) (d1 (va_up (fun _ => 0) 10 100))) (d1 (fun _ => 0))) (d1 (fun _ => 0)))) (ct 36 (ct 22 (ct 15 (ct 1 (d1 (fun _ => 0)) (d1 (va_up (va_up (va_up (fun _ => 0) 16 100) 17 9999) 18 600))) (d1 (va_up (fun _ => 0) 10 100))) (d1 (fun _ => 0))) (d1 (fun _ => 0)))) (d1 (fun _ => 0))) (d1 (fun _ => 0))) (ct 1 (d1 (fun _ => 0)) (d1 (fun _ => 0)))) (ct 1 (d1 (fun _ => 0)) (d1 (fun _ => 0)))) (ct 1 (d1 (fun _ => 0)) (d1 (fun _ => 0)))) (ct 1 (d1 (fun _ => 0)) (d1 (fun _ => 0)))) (d1 (fun _ => 0))) (d1 (fun _ => 0))) := Cum_s 12 c11 g12
  replace m1_0 := LayX_m (Sam_c (x := y) (k := 12) (q := some (y + 116)) g12 (by omega) (by omega)) m1_0
  replace m2_0 := LayH_m (Sam_c (x := y) (k := 12) (q := some (y + 116)) g12 (by omega) (by omega)) m2_0
  replace m3_0 := LayPP_m (Sam_c (x := y) (k := 12) (q := some (y + 116)) g12 (by omega) (by omega)) m3_0
  replace m4_0 := LayPP_m (Sam_c (x := y) (k := 12) (q := some (y + 116)) g12 (by omega) (by omega)) m4_0
  replace m5_0 := LayD_m (Sam_c (x := y) (k := 12) (q := some (y + 116)) g12 (by omega) (by omega)) m5_0
  replace m7_0 := LayW_m (Sam_c (x := y) (k := 12) (q := some (y + 116)) g12 (by omega) (by omega)) m7_0
  replace m8_0 := LayW_m (Sam_c (x := y) (k := 12) (q := some (y + 116)) g12 (by omega) (by omega)) m8_0
  replace m9_0 := LayW_m (Sam_c (x := y) (k := 12) (q := some (y + 116)) g12 (by omega) (by omega)) m9_0
  replace m10_0 := LayW_m (Sam_c (x := y) (k := 12) (q := some (y + 116)) g12 (by omega) (by omega)) m10_0
  replace q6_k := ((Sam_c (x := y) (k := 12) (q := some (y + 116)) g12 (s := y + 98) (v := 1) (by omega) (by omega)) (y + 98) (by omega) (by omega)).1.trans q6_k
  replace q6_n := ((Sam_c (x := y) (k := 12) (q := some (y + 116)) g12 (s := y + 98) (v := 1) (by omega) (by omega)) (y + 98) (by omega) (by omega)).2.1.trans q6_n
  replace q6_r := ((Sam_c (x := y) (k := 12) (q := some (y + 116)) g12 (s := y + 98) (v := 1) (by omega) (by omega)) (y + 98) (by omega) (by omega)).2.2.trans q6_r
  replace q11_k := ((Sam_c (x := y) (k := 12) (q := some (y + 116)) g12 (s := y + 115) (v := 1) (by omega) (by omega)) (y + 115) (by omega) (by omega)).1.trans q11_k
  replace q11_n := ((Sam_c (x := y) (k := 12) (q := some (y + 116)) g12 (s := y + 115) (v := 1) (by omega) (by omega)) (y + 115) (by omega) (by omega)).2.1.trans q11_n
  replace q11_r := ((Sam_c (x := y) (k := 12) (q := some (y + 116)) g12 (s := y + 115) (v := 1) (by omega) (by omega)) (y + 115) (by omega) (by omega)).2.2.trans q11_r
  replace q12_r := (show gR (gS G12 y 12 (some (y + 116))) (y + 116) = gR G12 (y + 116) from by rw [rS, up_ne (by omega)]).trans q12_r
  replace q12_k : gK (gS G12 y 12 (some (y + 116))) (y + 116) = 20 := q12_k
  replace q12_n : gN (gS G12 y 12 (some (y + 116))) (y + 116) = 8 := q12_n
  generalize hH12 : gS G12 y 12 (some (y + 116)) = H12 at c12 m1_0 m2_0 m3_0 m4_0 m5_0 m7_0 m8_0 m9_0 m10_0 q6_k q6_n q6_r q11_k q11_n q11_r q12_k q12_n q12_r
  have g13 := Gro_A (t := 20) (n := 40) (I := J12) (Cum_1 c12)
  have q13_k : gK (gA H12 20 40 40) (y + 117) = 20 := by rw [kA, Cum_1 c12, up_eq]
  have q13_n : gN (gA H12 20 40 40) (y + 117) = 40 := by rw [nA, Cum_1 c12, up_eq]
  have q13_r : gR (gA H12 20 40 40) (y + 117) = fun _ => none := by rw [rA, Cum_1 c12, up_eq]
  generalize hA13 : gA H12 20 40 40 = G13 at g13 q13_k q13_n q13_r
  generalize hB13 : va_up J12 H12.1 (fun _ => 0) = J13 at g13
  generalize hC13 : va_up K12 H12.1 (fun _ => 0) = K13
  have k13 := Cum_k c12 g13
  have c13 : Cum y 12 118 5201 G (gS G13 y 13 (some (y + 117))) I J13 (va_up (va_up (va_up (va_up (va_up (va_up (va_up (va_up (va_up (va_up (va_up (va_up (va_up (fun _ => none) 0 (some (y + 1))) 1 (some (y + 3))) 2 (some (y + 17))) 3 (some (y + 56))) 4 (some (y + 95))) 5 (some (y + 98))) 7 (some (y + 99))) 8 (some (y + 103))) 9 (some (y + 107))) 10 (some (y + 111))) 11 (some (y + 115))) 12 (some (y + 116))) 13 (some (y + 117))) (ct 117 (ct 116 (ct 115 (ct 111 (ct 107 (ct 103 (ct 99 (ct 98 (ct 95 (ct 56 (ct 17 (ct 3 (ct 1 (d1 (fun _ => 0)) (d1 (va_up (fun _ => 0) 7 (-1)))) (d1 (va_up (va_up (va_up (fun _ => 0) 16 100) 17 9999) 18 600))) (ct 36 (ct 22 (ct 15 (ct 1 (d1 (fun _ => 0)) (d1 (va_up (va_up (va_up (fun _ => 0) 16 100) 17 9999) 18 600))) (d1 (va_up (fun _ => 0) 10 100))) (d1 (fun _ => 0))) (d1 (fun _ => 0)))) (ct 36 (ct 22 (ct 15 (ct 1 (d1 (fun _ => 0)) (d1 (va_up (va_up (va_up (fun _ => 0) 16 100) 17 9999) 18 600))) (d1 (va_up (fun _ => 0) 10 100))) (d1 (fun _ => 0))) (d1 (fun _ => 0)))) (d1 (fun _ => 0))) (d1 (fun _ => 0))) (ct 1 (d1 (fun _ => 0)) (d1 (fun _ => 0)))) (ct 1 (d1 (fun _ => 0)) (d1 (fun _ => 0)))) (ct 1 (d1 (fun _ => 0)) (d1 (fun _ => 0)))) (ct 1 (d1 (fun _ => 0)) (d1 (fun _ => 0)))) (d1 (fun _ => 0))) (d1 (fun _ => 0))) (d1 (fun _ => 0))) := Cum_s 13 c12 g13
  replace m1_0 := LayX_m (Sam_c (x := y) (k := 13) (q := some (y + 117)) g13 (by omega) (by omega)) m1_0
  replace m2_0 := LayH_m (Sam_c (x := y) (k := 13) (q := some (y + 117)) g13 (by omega) (by omega)) m2_0
  replace m3_0 := LayPP_m (Sam_c (x := y) (k := 13) (q := some (y + 117)) g13 (by omega) (by omega)) m3_0
  replace m4_0 := LayPP_m (Sam_c (x := y) (k := 13) (q := some (y + 117)) g13 (by omega) (by omega)) m4_0
  replace m5_0 := LayD_m (Sam_c (x := y) (k := 13) (q := some (y + 117)) g13 (by omega) (by omega)) m5_0
  replace m7_0 := LayW_m (Sam_c (x := y) (k := 13) (q := some (y + 117)) g13 (by omega) (by omega)) m7_0
  replace m8_0 := LayW_m (Sam_c (x := y) (k := 13) (q := some (y + 117)) g13 (by omega) (by omega)) m8_0
  replace m9_0 := LayW_m (Sam_c (x := y) (k := 13) (q := some (y + 117)) g13 (by omega) (by omega)) m9_0
  replace m10_0 := LayW_m (Sam_c (x := y) (k := 13) (q := some (y + 117)) g13 (by omega) (by omega)) m10_0
  replace q6_k := ((Sam_c (x := y) (k := 13) (q := some (y + 117)) g13 (s := y + 98) (v := 1) (by omega) (by omega)) (y + 98) (by omega) (by omega)).1.trans q6_k
  replace q6_n := ((Sam_c (x := y) (k := 13) (q := some (y + 117)) g13 (s := y + 98) (v := 1) (by omega) (by omega)) (y + 98) (by omega) (by omega)).2.1.trans q6_n
  replace q6_r := ((Sam_c (x := y) (k := 13) (q := some (y + 117)) g13 (s := y + 98) (v := 1) (by omega) (by omega)) (y + 98) (by omega) (by omega)).2.2.trans q6_r
  replace q11_k := ((Sam_c (x := y) (k := 13) (q := some (y + 117)) g13 (s := y + 115) (v := 1) (by omega) (by omega)) (y + 115) (by omega) (by omega)).1.trans q11_k
  replace q11_n := ((Sam_c (x := y) (k := 13) (q := some (y + 117)) g13 (s := y + 115) (v := 1) (by omega) (by omega)) (y + 115) (by omega) (by omega)).2.1.trans q11_n
  replace q11_r := ((Sam_c (x := y) (k := 13) (q := some (y + 117)) g13 (s := y + 115) (v := 1) (by omega) (by omega)) (y + 115) (by omega) (by omega)).2.2.trans q11_r
  replace q12_k := ((Sam_c (x := y) (k := 13) (q := some (y + 117)) g13 (s := y + 116) (v := 1) (by omega) (by omega)) (y + 116) (by omega) (by omega)).1.trans q12_k
  replace q12_n := ((Sam_c (x := y) (k := 13) (q := some (y + 117)) g13 (s := y + 116) (v := 1) (by omega) (by omega)) (y + 116) (by omega) (by omega)).2.1.trans q12_n
  replace q12_r := ((Sam_c (x := y) (k := 13) (q := some (y + 117)) g13 (s := y + 116) (v := 1) (by omega) (by omega)) (y + 116) (by omega) (by omega)).2.2.trans q12_r
  replace q13_r := (show gR (gS G13 y 13 (some (y + 117))) (y + 117) = gR G13 (y + 117) from by rw [rS, up_ne (by omega)]).trans q13_r
  replace q13_k : gK (gS G13 y 13 (some (y + 117))) (y + 117) = 20 := q13_k
  replace q13_n : gN (gS G13 y 13 (some (y + 117))) (y + 117) = 40 := q13_n
  generalize hH13 : gS G13 y 13 (some (y + 117)) = H13 at c13 m1_0 m2_0 m3_0 m4_0 m5_0 m7_0 m8_0 m9_0 m10_0 q6_k q6_n q6_r q11_k q11_n q11_r q12_k q12_n q12_r q13_k q13_n q13_r
  have g14 := Gro_A (t := 20) (n := 60) (I := J13) (Cum_1 c13)
  have q14_k : gK (gA H13 20 60 60) (y + 118) = 20 := by rw [kA, Cum_1 c13, up_eq]
  have q14_n : gN (gA H13 20 60 60) (y + 118) = 60 := by rw [nA, Cum_1 c13, up_eq]
  have q14_r : gR (gA H13 20 60 60) (y + 118) = fun _ => none := by rw [rA, Cum_1 c13, up_eq]
  generalize hA14 : gA H13 20 60 60 = G14 at g14 q14_k q14_n q14_r
  generalize hB14 : va_up J13 H13.1 (fun _ => 0) = J14 at g14
  generalize hC14 : va_up K13 H13.1 (fun _ => 0) = K14
  have k14 := Cum_k c13 g14
  have c14 : Cum y 12 119 5261 G (gS G14 y 14 (some (y + 118))) I J14 (va_up (va_up (va_up (va_up (va_up (va_up (va_up (va_up (va_up (va_up (va_up (va_up (va_up (va_up (fun _ => none) 0 (some (y + 1))) 1 (some (y + 3))) 2 (some (y + 17))) 3 (some (y + 56))) 4 (some (y + 95))) 5 (some (y + 98))) 7 (some (y + 99))) 8 (some (y + 103))) 9 (some (y + 107))) 10 (some (y + 111))) 11 (some (y + 115))) 12 (some (y + 116))) 13 (some (y + 117))) 14 (some (y + 118))) (ct 118 (ct 117 (ct 116 (ct 115 (ct 111 (ct 107 (ct 103 (ct 99 (ct 98 (ct 95 (ct 56 (ct 17 (ct 3 (ct 1 (d1 (fun _ => 0)) (d1 (va_up (fun _ => 0) 7 (-1)))) (d1 (va_up (va_up (va_up (fun _ => 0) 16 100) 17 9999) 18 600))) (ct 36 (ct 22 (ct 15 (ct 1 (d1 (fun _ => 0)) (d1 (va_up (va_up (va_up (fun _ => 0) 16 100) 17 9999) 18 600))) (d1 (va_up (fun _ => 0) 10 100))) (d1 (fun _ => 0))) (d1 (fun _ => 0)))) (ct 36 (ct 22 (ct 15 (ct 1 (d1 (fun _ => 0)) (d1 (va_up (va_up (va_up (fun _ => 0) 16 100) 17 9999) 18 600))) (d1 (va_up (fun _ => 0) 10 100))) (d1 (fun _ => 0))) (d1 (fun _ => 0)))) (d1 (fun _ => 0))) (d1 (fun _ => 0))) (ct 1 (d1 (fun _ => 0)) (d1 (fun _ => 0)))) (ct 1 (d1 (fun _ => 0)) (d1 (fun _ => 0)))) (ct 1 (d1 (fun _ => 0)) (d1 (fun _ => 0)))) (ct 1 (d1 (fun _ => 0)) (d1 (fun _ => 0)))) (d1 (fun _ => 0))) (d1 (fun _ => 0))) (d1 (fun _ => 0))) (d1 (fun _ => 0))) := Cum_s 14 c13 g14
  replace m1_0 := LayX_m (Sam_c (x := y) (k := 14) (q := some (y + 118)) g14 (by omega) (by omega)) m1_0
  replace m2_0 := LayH_m (Sam_c (x := y) (k := 14) (q := some (y + 118)) g14 (by omega) (by omega)) m2_0
  replace m3_0 := LayPP_m (Sam_c (x := y) (k := 14) (q := some (y + 118)) g14 (by omega) (by omega)) m3_0
  replace m4_0 := LayPP_m (Sam_c (x := y) (k := 14) (q := some (y + 118)) g14 (by omega) (by omega)) m4_0
  replace m5_0 := LayD_m (Sam_c (x := y) (k := 14) (q := some (y + 118)) g14 (by omega) (by omega)) m5_0
  replace m7_0 := LayW_m (Sam_c (x := y) (k := 14) (q := some (y + 118)) g14 (by omega) (by omega)) m7_0
  replace m8_0 := LayW_m (Sam_c (x := y) (k := 14) (q := some (y + 118)) g14 (by omega) (by omega)) m8_0
  replace m9_0 := LayW_m (Sam_c (x := y) (k := 14) (q := some (y + 118)) g14 (by omega) (by omega)) m9_0
  replace m10_0 := LayW_m (Sam_c (x := y) (k := 14) (q := some (y + 118)) g14 (by omega) (by omega)) m10_0
  replace q6_k := ((Sam_c (x := y) (k := 14) (q := some (y + 118)) g14 (s := y + 98) (v := 1) (by omega) (by omega)) (y + 98) (by omega) (by omega)).1.trans q6_k
  replace q6_n := ((Sam_c (x := y) (k := 14) (q := some (y + 118)) g14 (s := y + 98) (v := 1) (by omega) (by omega)) (y + 98) (by omega) (by omega)).2.1.trans q6_n
  replace q6_r := ((Sam_c (x := y) (k := 14) (q := some (y + 118)) g14 (s := y + 98) (v := 1) (by omega) (by omega)) (y + 98) (by omega) (by omega)).2.2.trans q6_r
  replace q11_k := ((Sam_c (x := y) (k := 14) (q := some (y + 118)) g14 (s := y + 115) (v := 1) (by omega) (by omega)) (y + 115) (by omega) (by omega)).1.trans q11_k
  replace q11_n := ((Sam_c (x := y) (k := 14) (q := some (y + 118)) g14 (s := y + 115) (v := 1) (by omega) (by omega)) (y + 115) (by omega) (by omega)).2.1.trans q11_n
  replace q11_r := ((Sam_c (x := y) (k := 14) (q := some (y + 118)) g14 (s := y + 115) (v := 1) (by omega) (by omega)) (y + 115) (by omega) (by omega)).2.2.trans q11_r
  replace q12_k := ((Sam_c (x := y) (k := 14) (q := some (y + 118)) g14 (s := y + 116) (v := 1) (by omega) (by omega)) (y + 116) (by omega) (by omega)).1.trans q12_k
  replace q12_n := ((Sam_c (x := y) (k := 14) (q := some (y + 118)) g14 (s := y + 116) (v := 1) (by omega) (by omega)) (y + 116) (by omega) (by omega)).2.1.trans q12_n
  replace q12_r := ((Sam_c (x := y) (k := 14) (q := some (y + 118)) g14 (s := y + 116) (v := 1) (by omega) (by omega)) (y + 116) (by omega) (by omega)).2.2.trans q12_r
  replace q13_k := ((Sam_c (x := y) (k := 14) (q := some (y + 118)) g14 (s := y + 117) (v := 1) (by omega) (by omega)) (y + 117) (by omega) (by omega)).1.trans q13_k
  replace q13_n := ((Sam_c (x := y) (k := 14) (q := some (y + 118)) g14 (s := y + 117) (v := 1) (by omega) (by omega)) (y + 117) (by omega) (by omega)).2.1.trans q13_n
  replace q13_r := ((Sam_c (x := y) (k := 14) (q := some (y + 118)) g14 (s := y + 117) (v := 1) (by omega) (by omega)) (y + 117) (by omega) (by omega)).2.2.trans q13_r
  replace q14_r := (show gR (gS G14 y 14 (some (y + 118))) (y + 118) = gR G14 (y + 118) from by rw [rS, up_ne (by omega)]).trans q14_r
  replace q14_k : gK (gS G14 y 14 (some (y + 118))) (y + 118) = 20 := q14_k
  replace q14_n : gN (gS G14 y 14 (some (y + 118))) (y + 118) = 60 := q14_n
  generalize hH14 : gS G14 y 14 (some (y + 118)) = H14 at c14 m1_0 m2_0 m3_0 m4_0 m5_0 m7_0 m8_0 m9_0 m10_0 q6_k q6_n q6_r q11_k q11_n q11_r q12_k q12_n q12_r q13_k q13_n q13_r q14_k q14_n q14_r
  have f217 : J14 (y + 117) = fun _ => 0 := c14.1.2.2.2 117 (by decide)
  refine ⟨H14, fil J14 (y + 117) 40 (-1), K14, ?_, ⟨c14.2.1, c14.2.2.1, m1_0, m2_0, m3_0, m4_0, m5_0, m7_0, m8_0, m9_0, m10_0, ⟨q6_k, q6_n, q6_r⟩, ⟨q11_k, q11_n, q11_r⟩, ⟨q12_k, q12_n, q12_r⟩, ⟨q13_k, q13_n, q13_r⟩, ⟨q14_k, q14_n, q14_r⟩⟩, ?_⟩
  · rw [q_X11_init_, e_X11_init_0]
    rw [malo_o (Cum_1 c0) e1 k1]
    dsimp only
    rw [hH1]
    rw [malo_o (Cum_1 c1) e2 k2]
    dsimp only
    rw [hH2]
    rw [malo_o (Cum_1 c2) e3 k3]
    dsimp only
    rw [hH3]
    rw [malo_o (Cum_1 c3) e4 k4]
    dsimp only
    rw [hH4]
    rw [malo_o (Cum_1 c4) e5 k5]
    dsimp only
    rw [hH5]
    rw [if_neg (show ¬ (4 < 0 ∨ 100000 < Int32.toNatClampNeg 4) by decide), malo_b (c := 4) (n := 4) (Cum_1 c5) (by decide) c5.2.1 (by omega), hA6, hB6, hC6]
    dsimp only
    rw [hH6]
    rw [malo_o (Cum_1 c6) e7 k7]
    dsimp only
    rw [hH7]
    rw [malo_o (Cum_1 c7) e8 k8]
    dsimp only
    rw [hH8]
    rw [malo_o (Cum_1 c8) e9 k9]
    dsimp only
    rw [hH9]
    rw [malo_o (Cum_1 c9) e10 k10]
    dsimp only
    rw [hH10]
    rw [if_neg (show ¬ (8 < 0 ∨ 100000 < Int32.toNatClampNeg 8) by decide), malo_b (c := 8) (n := 8) (Cum_1 c10) (by decide) c10.2.1 (by omega), hA11, hB11, hC11]
    dsimp only
    rw [hH11]
    rw [if_neg (show ¬ (8 < 0 ∨ 100000 < Int32.toNatClampNeg 8) by decide), malo_b (c := 8) (n := 8) (Cum_1 c11) (by decide) c11.2.1 (by omega), hA12, hB12, hC12]
    dsimp only
    rw [hH12]
    rw [if_neg (show ¬ (40 < 0 ∨ 100000 < Int32.toNatClampNeg 40) by decide), malo_b (c := 40) (n := 40) (Cum_1 c12) (by decide) c12.2.1 (by omega), hA13, hB13, hC13]
    dsimp only
    rw [hH13]
    rw [if_neg (show ¬ (60 < 0 ∨ 100000 < Int32.toNatClampNeg 60) by decide), malo_b (c := 60) (n := 60) (Cum_1 c13) (by decide) c13.2.1 (by omega), hA14, hB14, hC14]
    dsimp only
    rw [hH14]
    have r13 : gR H14 y 13 = some (y + 117) := by rw [c14.2.2.1]; simp (disch := decide) only [up_eq, up_ne]
    simp only [↓gk_t c14.2.1, ↓gr_t r13, ↓mcV_of (c_fillI (d + 1) (G := H14) (I := J14) (L := K14) (-1) q13_k q13_n (by decide))]
    rfl
  · obtain ⟨z1, z2, z3, z4⟩ := c14.1
    refine ⟨z1, z2, fun a ha => ?_, fun a ha => ?_⟩
    · obtain ⟨b1, b2, b3, b4⟩ := z3 a ha
      exact ⟨b1, b2, b3, by rw [fil_ne (by omega)]; exact b4⟩
    · dsimp only
      by_cases a9 : a = 117
      · rw [if_pos a9, a9, fil_eq, f217]
      · rw [if_neg a9, fil_ne (by omega)]
        exact z4 a ha
