/-! where the cells of the class's own object lie -/
def LayB (G : mG) (hs bl bs cl cs : Nat) : Prop := gK G 100 = 12 ∧ gR G 100 0 = some 101 ∧ gR G 100 1 = some hs ∧ gR G 100 2 = some 117 ∧ gR G 100 3 = some 156 ∧ gR G 100 4 = some 195 ∧ gR G 100 5 = some 198 ∧ gR G 100 7 = some bl ∧ gR G 100 8 = some bs ∧ gR G 100 9 = some cl ∧ gR G 100 10 = some cs ∧ gR G 100 11 = some 215 ∧ gR G 100 12 = some 216 ∧ gR G 100 13 = some 217 ∧ gR G 100 14 = some 218 ∧ (gK G 198 = 22 ∧ gN G 198 = 4) ∧ (gK G 215 = 20 ∧ gN G 215 = 8) ∧ (gK G 216 = 20 ∧ gN G 216 = 8) ∧ (gK G 217 = 20 ∧ gN G 217 = 40) ∧ (gK G 218 = 20 ∧ gN G 218 = 60)
theorem vB {G : mG} {hs bl bs cl cs : Nat} (q : LayB G hs bl bs cl cs) : (∀ X, gk G 100 12 X = X) ∧ (∀ f, gr G 100 0 f = f 101) ∧ (∀ f, gr G 100 1 f = f hs) ∧ (∀ f, gr G 100 2 f = f 117) ∧ (∀ f, gr G 100 3 f = f 156) ∧ (∀ f, gr G 100 4 f = f 195) ∧ (∀ f, gr G 100 5 f = f 198) ∧ (∀ f, gr G 100 7 f = f bl) ∧ (∀ f, gr G 100 8 f = f bs) ∧ (∀ f, gr G 100 9 f = f cl) ∧ (∀ f, gr G 100 10 f = f cs) ∧ (∀ f, gr G 100 11 f = f 215) ∧ (∀ f, gr G 100 12 f = f 216) ∧ (∀ f, gr G 100 13 f = f 217) ∧ (∀ f, gr G 100 14 f = f 218) ∧ (∀ j f, j < 4 → gx G 198 22 (Int32.ofNat j) f = f j) ∧ (∀ j f, j < 8 → gx G 215 20 (Int32.ofNat j) f = f j) ∧ (∀ j f, j < 8 → gx G 216 20 (Int32.ofNat j) f = f j) ∧ (∀ j f, j < 40 → gx G 217 20 (Int32.ofNat j) f = f j) ∧ (∀ j f, j < 60 → gx G 218 20 (Int32.ofNat j) f = f j) := by
  obtain ⟨a0, b0, b1, b2, b3, b4, b5, b6, b7, b8, b9, b10, b11, b12, b13, ⟨c0, d0⟩, ⟨c1, d1⟩, ⟨c2, d2⟩, ⟨c3, d3⟩, ⟨c4, d4⟩⟩ := q
  exact ⟨fun X => gk_t a0, fun f => gr_t b0, fun f => gr_t b1, fun f => gr_t b2, fun f => gr_t b3, fun f => gr_t b4, fun f => gr_t b5, fun f => gr_t b6, fun f => gr_t b7, fun f => gr_t b8, fun f => gr_t b9, fun f => gr_t b10, fun f => gr_t b11, fun f => gr_t b12, fun f => gr_t b13, fun j f hj => gx_t c0 (Nat.lt_of_lt_of_eq hj d0.symm) (Nat.lt_trans hj (by decide)), fun j f hj => gx_t c1 (Nat.lt_of_lt_of_eq hj d1.symm) (Nat.lt_trans hj (by decide)), fun j f hj => gx_t c2 (Nat.lt_of_lt_of_eq hj d2.symm) (Nat.lt_trans hj (by decide)), fun j f hj => gx_t c3 (Nat.lt_of_lt_of_eq hj d3.symm) (Nat.lt_trans hj (by decide)), fun j f hj => gx_t c4 (Nat.lt_of_lt_of_eq hj d4.symm) (Nat.lt_trans hj (by decide))⟩
theorem uB {G : mG} {hs bl bs cl cs : Nat} (q : LayB G hs bl bs cl cs) : gK G 100 = 12 ∧ gR G 100 0 = some 101 ∧ gR G 100 1 = some hs ∧ gR G 100 2 = some 117 ∧ gR G 100 3 = some 156 ∧ gR G 100 4 = some 195 ∧ gR G 100 5 = some 198 ∧ gR G 100 7 = some bl ∧ gR G 100 8 = some bs ∧ gR G 100 9 = some cl ∧ gR G 100 10 = some cs ∧ gR G 100 11 = some 215 ∧ gR G 100 12 = some 216 ∧ gR G 100 13 = some 217 ∧ gR G 100 14 = some 218 ∧ (gK G 198 = 22 ∧ gN G 198 = 4) ∧ (gK G 215 = 20 ∧ gN G 215 = 8) ∧ (gK G 216 = 20 ∧ gN G 216 = 8) ∧ (gK G 217 = 20 ∧ gN G 217 = 40) ∧ (gK G 218 = 20 ∧ gN G 218 = 60) := q
def LayW (G : mG) (k b : Nat) : Prop := gK G b = k ∧ gR G b 0 = some (b + 1) ∧ LayC G (b + 1)
theorem vW {G : mG} {k b : Nat} (q : LayW G k b) : (∀ X, gk G b k X = X) ∧ (∀ f, gr G b 0 f = f (b + 1)) := ⟨fun X => gk_t q.1, fun f => gr_t q.2.1⟩
def LayK (G : mG) (k : Nat) : Prop := gK G k = 6 ∧ gR G k 0 = some (k + 1) ∧ gR G k 1 = some (k + 8) ∧ gR G k 2 = some (k + 22) ∧ LayS G (k + 1) ∧ LayT G (k + 8) ∧ LayD G (k + 22)
theorem vK {G : mG} {k : Nat} (q : LayK G k) : (∀ X, gk G k 6 X = X) ∧ (∀ f, gr G k 0 f = f (k + 1)) ∧ (∀ f, gr G k 1 f = f (k + 8)) ∧ (∀ f, gr G k 2 f = f (k + 22)) := ⟨fun X => gk_t q.1, fun f => gr_t q.2.1, fun f => gr_t q.2.2.1, fun f => gr_t q.2.2.2.1⟩
/-- the layout of everything; kc marks are made -/
def LyR (G : mG) (h hs bl bs cl cs kc : Nat) (mk : Nat → Nat) : Prop :=
  LayB G hs bl bs cl cs ∧ LayX G 101 ∧ LayP G 117 h 132 139 153 ∧ (∃ ht, LayP G 156 ht 171 178 192) ∧ (LayH G 103 ∧ LayH G 118) ∧ (LayS G 132 ∧ LayS G 171) ∧ (LayT G 139 ∧ LayT G 178) ∧ (LayU G 153 ∧ LayU G 192) ∧ LayD G 195 ∧ (LayW G 1 199 ∧ LayW G 1 203) ∧ (LayW G 2 207 ∧ LayW G 2 211) ∧ LayM G 219 ∧ (gK G 251 = 21 ∧ gN G 251 = 1) ∧ (gK G 0 = 31) ∧
  ((h = 103 ∧ hs = 118) ∨ (h = 118 ∧ hs = 103)) ∧ ((bl = 199 ∧ bs = 203) ∨ (bl = 203 ∧ bs = 199)) ∧ ((cl = 207 ∧ cs = 211) ∨ (cl = 211 ∧ cs = 207)) ∧ 252 ≤ G.1 ∧ kc ≤ 4 ∧
  (∀ i, i < kc → gR G 198 i = some (mk i) ∧ LayK G (mk i) ∧ 252 ≤ mk i ∧ mk i + 25 ≤ G.1) ∧ (∀ i, kc ≤ i → i < 4 → gR G 198 i = none) ∧ (∀ i j, i < j → j < kc → mk i + 25 ≤ mk j)
/-- a heap that has grown, its old cells as they were -/
def Grw (G G' : mG) : Prop := G.1 ≤ G'.1 ∧ (∀ a, a < G.1 → gK G' a = gK G a) ∧ (∀ a, a < G.1 → gN G' a = gN G a) ∧ (∀ a k, a < G.1 → gR G' a k = gR G a k)
theorem Grw_C (G : mG) : Grw G (gC G) := by
  refine ⟨Nat.le_succ _, fun a ha => ?_, fun a ha => rfl, fun a k ha => rfl⟩
  unfold gK gC
  exact up_ne (by omega)
theorem Grw_r (G : mG) : Grw G G := ⟨Nat.le_refl _, fun _ _ => rfl, fun _ _ => rfl, fun _ _ _ => rfl⟩
theorem LayH_g {G G' : mG} {h : Nat} (g : Grw G G') (hb : h + 14 ≤ G.1) (q : LayH G h) : LayH G' h := by
  obtain ⟨-, gk, gn, gr⟩ := g
  unfold LayH at q ⊢
  simp (disch := omega) only [gk, gn, gr]
  exact q
theorem LayS_g {G G' : mG} {s : Nat} (g : Grw G G') (hb : s + 7 ≤ G.1) (q : LayS G s) : LayS G' s := by
  obtain ⟨-, gk, gn, gr⟩ := g
  unfold LayS at q ⊢
  simp (disch := omega) only [gk, gn, gr]
  exact q
theorem LayT_g {G G' : mG} {t : Nat} (g : Grw G G') (hb : t + 14 ≤ G.1) (q : LayT G t) : LayT G' t := by
  obtain ⟨-, gk, gn, gr⟩ := g
  unfold LayT at q ⊢
  simp (disch := omega) only [gk, gn, gr]
  exact q
theorem LayU_g {G G' : mG} {u : Nat} (g : Grw G G') (hb : u + 3 ≤ G.1) (q : LayU G u) : LayU G' u := by
  obtain ⟨-, gk, gn, gr⟩ := g
  unfold LayU at q ⊢
  simp (disch := omega) only [gk, gn, gr]
  exact q
theorem LayD_g {G G' : mG} {e : Nat} (g : Grw G G') (hb : e + 3 ≤ G.1) (q : LayD G e) : LayD G' e := by
  obtain ⟨-, gk, gn, gr⟩ := g
  unfold LayD at q ⊢
  simp (disch := omega) only [gk, gn, gr]
  exact q
theorem LayX_g {G G' : mG} {x : Nat} (g : Grw G G') (hb : x + 2 ≤ G.1) (q : LayX G x) : LayX G' x := by
  obtain ⟨-, gk, gn, gr⟩ := g
  unfold LayX at q ⊢
  simp (disch := omega) only [gk, gn, gr]
  exact q
theorem LayC_g {G G' : mG} {c : Nat} (g : Grw G G') (hb : c + 3 ≤ G.1) (q : LayC G c) : LayC G' c := by
  obtain ⟨-, gk, gn, gr⟩ := g
  unfold LayC at q ⊢
  simp (disch := omega) only [gk, gn, gr]
  exact q
theorem LayM_g {G G' : mG} {m : Nat} (g : Grw G G') (hb : m + 32 ≤ G.1) (q : LayM G m) : LayM G' m := by
  obtain ⟨-, gk, gn, gr⟩ := g
  unfold LayM at q ⊢
  simp (disch := omega) only [gk, gn, gr]
  exact q
theorem LayP_g {G G' : mG} {p h s t u : Nat} (g : Grw G G') (hb : p < G.1) (q : LayP G p h s t u) : LayP G' p h s t u := by
  obtain ⟨-, gk, gn, gr⟩ := g
  unfold LayP at q ⊢
  simp (disch := omega) only [gk, gn, gr]
  exact q
theorem LayB_g {G G' : mG} {hs bl bs cl cs : Nat} (g : Grw G G') (hb : 252 ≤ G.1) (q : LayB G hs bl bs cl cs) : LayB G' hs bl bs cl cs := by
  obtain ⟨-, gk, gn, gr⟩ := g
  unfold LayB at q ⊢
  simp (disch := omega) only [gk, gn, gr]
  exact q
theorem LayW_g {G G' : mG} {k b : Nat} (g : Grw G G') (hb : b + 4 ≤ G.1) (q : LayW G k b) : LayW G' k b := by
  have r := LayC_g g (by omega) q.2.2
  obtain ⟨-, gk, gn, gr⟩ := g
  exact ⟨by rw [gk _ (by omega)]; exact q.1, by rw [gr _ _ (by omega)]; exact q.2.1, r⟩
theorem LayK_g {G G' : mG} {k : Nat} (g : Grw G G') (hb : k + 25 ≤ G.1) (q : LayK G k) : LayK G' k := by
  obtain ⟨a, b, c, e, f1, f2, f3⟩ := q
  have r1 := LayS_g g (by omega) f1
  have r2 := LayT_g g (by omega) f2
  have r3 := LayD_g g (by omega) f3
  obtain ⟨-, gk, gn, gr⟩ := g
  exact ⟨by rw [gk _ (by omega)]; exact a, by rw [gr _ _ (by omega)]; exact b, by rw [gr _ _ (by omega)]; exact c, by rw [gr _ _ (by omega)]; exact e, r1, r2, r3⟩
theorem LyR_g {G G' : mG} {h hs bl bs cl cs kc : Nat} {mk : Nat → Nat} (g : Grw G G') (q : LyR G h hs bl bs cl cs kc mk) : LyR G' h hs bl bs cl cs kc mk := by
  obtain ⟨a1, a2, a3, ⟨ht, a4⟩, ⟨a5, a6⟩, ⟨a7, a8⟩, ⟨a9, a10⟩, ⟨a11, a12⟩, a13, ⟨a14, a15⟩, ⟨a16, a17⟩, a18, ⟨a19, a20⟩, a21, a22, a23, a24, a25, a26, a27, a28, a29⟩ := q
  obtain ⟨g0, gk, gn, gr⟩ := id g
  refine ⟨LayB_g g a25 a1, LayX_g g (by omega) a2, LayP_g g (by omega) a3, ⟨ht, LayP_g g (by omega) a4⟩, ⟨LayH_g g (by omega) a5, LayH_g g (by omega) a6⟩, ⟨LayS_g g (by omega) a7, LayS_g g (by omega) a8⟩, ⟨LayT_g g (by omega) a9, LayT_g g (by omega) a10⟩, ⟨LayU_g g (by omega) a11, LayU_g g (by omega) a12⟩, LayD_g g (by omega) a13, ⟨LayW_g g (by omega) a14, LayW_g g (by omega) a15⟩, ⟨LayW_g g (by omega) a16, LayW_g g (by omega) a17⟩, LayM_g g (by omega) a18, ⟨by rw [gk _ (by omega)]; exact a19, by rw [gn _ (by omega)]; exact a20⟩, by rw [gk _ (by omega)]; exact a21, a22, a23, a24, by omega, a26, ?_, ?_, a29⟩
  · intro i hi
    obtain ⟨b1, b2, b3, b4⟩ := a27 i hi
    exact ⟨by rw [gr _ _ (by omega)]; exact b1, LayK_g g b4 b2, b3, by omega⟩
  · intro i h1 h2
    rw [gr _ _ (by omega)]
    exact a28 i h1 h2
