/-! call: log -/
theorem Rel_lg {z h hs bl bs cl cs nr n nh M hN w lc mc kc ta : Nat} {rm pi mk : Nat → Nat} {G : mG} {I I' : Nat → Nat → Int32} {L L' : Nat → Nat → Int64} (q : Rel z h hs bl bs cl cs nr n nh M hN w lc mc kc ta rm pi mk G I L) (hz : z + 1 ≤ 512) (hI : ∀ a, ¬ (a = 100 ∨ a = 218 ∨ a = 231 ∨ a = 232 ∨ a = 233) → a ≠ 219 → a ≠ 223 → I' a = I a) (h9 : ∀ k, k ≠ 0 → k ≠ 28 → I' 219 k = I 219 k) (h3 : ∀ j, j < 173 → True → I' 223 j = I 223 j) (hL : ∀ a, a ≠ 251 → L' a = L a) (h6 : I' 100 6 = I 100 6) {lc' : Nat} (hLg : LgR I' lc' nr) : Rel (z + 1) h hs bl bs cl cs nr n nh M hN w lc' mc kc ta rm pi mk G I' L' := by
  obtain ⟨a1, a2, ⟨a3, a3'⟩, a4, ⟨a5, a5'⟩, a6, a7, a8, a9, a10, a11, a12, ⟨a13, a13'⟩, a14⟩ := q
  obtain ⟨-, -, hnr8, -, -, hn8⟩ := ho_sz a2
  have hm := a1.2.2.2.2.2.2.2.2.2.2.2.2.2.2.2.2.2.2.2.1
  have hh := a1.2.2.2.2.2.2.2.2.2.2.2.2.2.2.1
  have hb := a1.2.2.2.2.2.2.2.2.2.2.2.2.2.2.2.1
  have hc := a1.2.2.2.2.2.2.2.2.2.2.2.2.2.2.2.2.1
  exact ⟨a1, HoR_c a2 (fun a h1 h2 => hI a (by omega) (by omega) (by omega)) (hI 220 (by omega) (by omega) (by omega)), ⟨FlR_c a3 (fun k h1 h2 h3 h4 => h9 k (by omega) (by omega)), by rw [h9 23 (by omega) (by omega)]; exact a3'⟩, SeR_c a4 hn8 (fun a h1 h2 => hI a (by omega) (by omega) (by omega)) (fun j hj => h3 j (by omega) (by first | trivial | omega)), ⟨StR_c a5 hn8 hnr8 (fun a h1 h2 => hI a (by omega) (by omega) (by omega)) (hL _ (by omega)) (hI 220 (by omega) (by omega) (by omega)) (fun j hj => h3 j (by omega) (by first | trivial | omega)) (fun j _ => by rw [hL 225 (by omega)]), by omega⟩, TaR_c a6 (fun a h1 h2 => hI a (by omega) (by omega) (by omega)) (hI 220 (by omega) (by omega) (by omega)), DiR_c a7 hnr8 (fun a h1 h2 => hI a (by omega) (by omega) (by omega)) (fun j _ => by rw [hI 228 (by omega) (by omega) (by omega)]) (fun j _ => by rw [hI 229 (by omega) (by omega) (by omega)]), TpR_c a8 (by rw [hI 101 (by omega) (by omega) (by omega)]) (by rw [hI 101 (by omega) (by omega) (by omega)]) (hI 102 (by omega) (by omega) (by omega)) (h9 3 (by omega) (by omega)) (h9 9 (by omega) (by omega)) (hI 222 (by omega) (by omega) (by omega)), EgR_c a9 (hI 215 (by omega) (by omega) (by omega)) (hI 217 (by omega) (by omega) (by omega)) (hI 230 (by omega) (by omega) (by omega)) (hI 240 (by omega) (by omega) (by omega)), hLg, BiR_c a11 (by rw [hI (bl + 1) (by omega) (by omega) (by omega)]) (h9 36 (by omega) (by omega)) (hI (bl + 2) (by omega) (by omega) (by omega)) (hI 235 (by omega) (by omega) (by omega)) (hI 236 (by omega) (by omega) (by omega)), ClR_c a12 (by rw [hI (cl + 1) (by omega) (by omega) (by omega)]) (h9 44 (by omega) (by omega)) (hI (cl + 2) (by omega) (by omega) (by omega)) (hI 241 (by omega) (by omega) (by omega)) (hI 242 (by omega) (by omega) (by omega)), ⟨MkR_c a13 hn8 hnr8 (Nat.le_succ z) h6 (h9 51 (by omega) (by omega)) (hI 246 (by omega) (by omega) (by omega)) (hI 247 (by omega) (by omega) (by omega)) (hI 248 (by omega) (by omega) (by omega)) (hI 249 (by omega) (by omega) (by omega)) (hL 250 (by omega)) (hI 220 (by omega) (by omega) (by omega)) (fun i a hi h1 h2 => by
    obtain ⟨-, -, m3, m4⟩ := hm i (by omega)
    exact ⟨hI a (by omega) (by omega) (by omega), hL a (by omega)⟩), a13'⟩, hz⟩
theorem i_pred (c : Nat) : Int32.ofNat (c + 1) - 1 = Int32.ofNat c := by rw [← i_one, Int32.add_sub_cancel]
theorem i_m1 (x : Int32) : x + (-1) = x - 1 := (Int32.sub_eq_add_neg x 1).symm
/-- entries from c to e moved by three -/
def shf (c e : Nat) (R : Nat → Int32) : Nat → Int32 := fun j => if c + 3 ≤ j ∧ j < e + 3 then R (j - 3) else R j
theorem shf_0 {e : Nat} {R : Nat → Int32} : shf e e R = R := by
  funext j
  exact if_neg (by omega)
theorem shf_s {c e : Nat} {R : Nat → Int32} (h : c < e) : va_up (shf (c + 1) e R) (c + 3) (shf (c + 1) e R c) = shf c e R := by
  funext j
  by_cases q : j = c + 3
  · rw [q, up_eq]
    unfold shf
    rw [if_neg (by omega), if_pos (by omega), Nat.add_sub_cancel]
  · rw [up_ne q]
    unfold shf
    by_cases p : c + 3 ≤ j ∧ j < e + 3
    · rw [if_pos p, if_pos (by omega)]
    · rw [if_neg p, if_neg (by omega)]
/-- a row put in at p -/
def ins (p e : Nat) (x y u : Int32) (R : Nat → Int32) : Nat → Int32 := va_up (va_up (va_up (shf (3 * p) (3 * e) R) (3 * p) x) (3 * p + 1) y) (3 * p + 2) u
theorem ins_lt {p e i k : Nat} {x y u : Int32} {R : Nat → Int32} (h : i < p) (hk : k < 3) : ins p e x y u R (3 * i + k) = R (3 * i + k) := by
  unfold ins
  rw [up_ne (by omega), up_ne (by omega), up_ne (by omega)]
  unfold shf
  rw [if_neg (by omega)]
theorem ins_gt {p e i k : Nat} {x y u : Int32} {R : Nat → Int32} (h : p ≤ i) (he : i < e) (hk : k < 3) : ins p e x y u R (3 * (i + 1) + k) = R (3 * i + k) := by
  unfold ins
  rw [up_ne (by omega), up_ne (by omega), up_ne (by omega)]
  unfold shf
  rw [if_pos (by omega), show 3 * (i + 1) + k - 3 = 3 * i + k by omega]
theorem ins_eq {p e : Nat} {x y u : Int32} {R : Nat → Int32} : ins p e x y u R (3 * p) = x ∧ ins p e x y u R (3 * p + 1) = y ∧ ins p e x y u R (3 * p + 2) = u := by
  unfold ins
  refine ⟨?_, ?_, ?_⟩
  · rw [up_ne (by omega), up_ne (by omega), up_eq]
  · rw [up_ne (by omega), up_eq]
  · rw [up_eq]
section
variable {G : mG} {I : Nat → Nat → Int32} {L : Nat → Nat → Int64} {hs bl bs cl cs lc : Nat}
theorem c_place (d : Nat) (lB : LayB G hs bl bs cl cs) (x : Int32) (h1 : I 100 15 = Int32.ofNat lc) (h2 : lc ≤ 20) : ∃ p, p ≤ lc ∧ mcal mT (d + 1) 129 [.ref 100, .int x] (G, I, L) = some (.inl (some (.int (Int32.ofNat p))), (G, I, L)) ∧ (p = 0 ∨ I 218 (3 * (p - 1)) ≤ x) ∧ (∀ i, p ≤ i → i < lc → ¬ I 218 (3 * i) ≤ x) := by
  have A : ∀ c, c ≤ lc → (∀ i, c ≤ i → i < lc → ¬ I 218 (3 * i) ≤ x) → ∃ p, p ≤ lc ∧ f_X11_placeInLog d 5 [.ref 100, .int x, .int (Int32.ofNat c)] [] (G, I, L) = some (.inl (some (.int (Int32.ofNat p))), (G, I, L)) ∧ (p = 0 ∨ I 218 (3 * (p - 1)) ≤ x) ∧ (∀ i, p ≤ i → i < lc → ¬ I 218 (3 * i) ≤ x) := by
    intro c
    induction c with
    | zero =>
      intro hc hi
      refine ⟨0, Nat.zero_le _, ?_, Or.inl rfl, hi⟩
      rw [e_X11_placeInLog_5, if_pos (by decide), e_X11_placeInLog_29]
    | succ c ih =>
      intro hc hi
      have c1 : ¬ Int32.ofNat (c + 1) ≤ 0 := fun p => by have := (i_le (b := 0) (by omega) (by decide)).mp p; omega
      have ex : (Int32.ofNat (c + 1) - 1) * 3 = Int32.ofNat (3 * c) := by
        rw [i_pred, show Int32.ofNat c * 3 = Int32.ofNat (c * 3) from i_mul c 3, Nat.mul_comm]
      by_cases c2 : I 218 (3 * c) ≤ x
      · refine ⟨c + 1, hc, ?_, Or.inr (by rw [Nat.add_sub_cancel]; exact c2), hi⟩
        rw [e_X11_placeInLog_5, if_neg c1]
        simp (disch := omega) only [↓vB lB, ex, if_pos c2, e_X11_placeInLog_29]
      · obtain ⟨p, p1, p2, p3⟩ := ih (by omega) (fun i h1 h2 => by
          by_cases e : i = c
          · rw [e]; exact c2
          · exact hi i (by omega) h2)
        refine ⟨p, p1, ?_, p3⟩
        rw [e_X11_placeInLog_5, if_neg c1]
        simp (disch := omega) only [↓vB lB, ex, if_neg c2]
        rw [i_m1, i_pred]
        exact p2
  obtain ⟨p, p1, p2, p3⟩ := A lc (Nat.le_refl _) (fun i h1 h2 => by omega)
  refine ⟨p, p1, ?_, p3⟩
  simp only [q_X11_placeInLog_, e_X11_placeInLog_0, ↓vB lB, h1]
  exact p2
theorem c_putLog (d : Nat) (lB : LayB G hs bl bs cl cs) (x y u : Int32) {p : Nat} (hp : p ≤ lc) (h1 : I 100 15 = Int32.ofNat lc) (h2 : lc < 20) : mcal mT (d + 1) 130 [.ref 100, .int (Int32.ofNat p), .int x, .int y, .int u] (G, I, L) = some (.inl none, (G, va_up (va_up I 218 (ins p lc x y u (I 218))) 100 (va_up (I 100) 15 (Int32.ofNat (lc + 1))), L)) := by
  have m3 : ∀ k : Nat, Int32.ofNat k * 3 = Int32.ofNat (3 * k) := fun k => by rw [show Int32.ofNat k * 3 = Int32.ofNat (k * 3) from i_mul k 3, Nat.mul_comm]
  have A : ∀ m c, c = 3 * p + m → c ≤ 3 * lc → f_X11_putLogRow d 15 [.ref 100, mU, .int x, .int y, .int u, .int (Int32.ofNat (3 * p)), .int (Int32.ofNat c - 1)] [] (G, va_up I 218 (shf c (3 * lc) (I 218)), L) = f_X11_putLogRow d 44 [.ref 100, mU, .int x, .int y, .int u, .int (Int32.ofNat (3 * p)), mU] [] (G, va_up I 218 (shf (3 * p) (3 * lc) (I 218)), L) := by
    intro m
    induction m with
    | zero =>
      intro c hc h3
      rw [hc, Nat.add_zero, e_X11_putLogRow_15, if_pos ((i_sub1 (n := 3 * p) (x := Int32.ofNat (3 * p)) (by omega) (i_neg (by omega))).mpr Int32.lt_irrefl)]
    | succ m ih =>
      intro c hc h3
      obtain ⟨c', rfl⟩ : ∃ c', c = c' + 1 := ⟨c - 1, by omega⟩
      have n1 : ¬ Int32.ofNat c' < Int32.ofNat (3 * p) := fun q => by have := (i_lt (by omega) (by omega)).mp q; omega
      rw [i_pred, e_X11_putLogRow_15, if_neg n1]
      simp (disch := omega) only [↓vB lB, ixR, up2_e, up_eq, up_up, i_m1]
      rw [shf_s (by omega)]
      exact ih c' (by omega) (by omega)
  have B := A (3 * lc - 3 * p) (3 * lc) (by omega) (Nat.le_refl _)
  rw [shf_0, up_id] at B
  rw [q_X11_putLogRow_, e_X11_putLogRow_0]
  simp only [↓vB lB, h1, m3]
  refine Eq.trans B ?_
  rw [e_X11_putLogRow_44]
  simp (disch := omega) only [↓vB lB, ixR, up2_e, up_eq, up_up, up_ne, h1]
  rfl
end
section
variable {I I' : Nat → Nat → Int32} {lc nr p mi ro : Nat} {x y u : Int32}
theorem LgR_ins (q : LgR I lc nr) (hp : p ≤ lc) (h20 : lc < 20) (p1 : p = 0 ∨ I 218 (3 * (p - 1)) ≤ x) (p2 : ∀ i, p ≤ i → i < lc → ¬ I 218 (3 * i) ≤ x) (hx : x = Int32.ofNat mi) (hm1 : 1 ≤ mi) (hm2 : mi ≤ 240) (hy : y = Int32.ofNat ro) (hro : ro < nr) (hu : irng u (-9999) 9999) (e1 : I' 100 15 = Int32.ofNat (lc + 1)) (e2 : I' 219 28 = Int32.ofNat (lc + 1)) (e3 : I' 218 = ins p lc x y u (I 218)) (e4 : I' 231 = va_up (I 231) lc x) (e5 : I' 232 = va_up (I 232) lc y) (e6 : I' 233 = va_up (I 233) lc u) : LgR I' (lc + 1) nr := by
  obtain ⟨-, a2, a3, a4, a5⟩ := q
  unfold LgR
  rw [e3, e4, e5, e6]
  refine ⟨⟨e1, e2, by omega⟩, fun j hj => ?_, fun i hi => ?_, fun j hj => ?_, fun i hi => ?_⟩
  · by_cases c : j = lc
    · rw [c, up_eq, up_eq, up_eq]
      exact ⟨mi, ro, hm1, hm2, hro, hx, hy, hu⟩
    · rw [up_ne c, up_ne c, up_ne c]
      exact a2 j (by omega)
  · rcases (show i < p ∨ i = p ∨ (p < i ∧ i < lc + 1) by omega) with c | c | ⟨c, c'⟩
    · obtain ⟨j, h1, h2, h3, h4⟩ := a3 i (by omega)
      have r0 := ins_lt (e := lc) (x := x) (y := y) (u := u) (R := I 218) (k := 0) c (by decide)
      have r1 := ins_lt (e := lc) (x := x) (y := y) (u := u) (R := I 218) (k := 1) c (by decide)
      have r2 := ins_lt (e := lc) (x := x) (y := y) (u := u) (R := I 218) (k := 2) c (by decide)
      rw [Nat.add_zero] at r0
      refine ⟨j, by omega, ?_⟩
      rw [r0, r1, r2, up_ne (by omega), up_ne (by omega), up_ne (by omega)]
      exact ⟨h2, h3, h4⟩
    · obtain ⟨r0, r1, r2⟩ := ins_eq (p := p) (e := lc) (x := x) (y := y) (u := u) (R := I 218)
      refine ⟨lc, by omega, ?_⟩
      rw [c, r0, r1, r2, up_eq, up_eq, up_eq]
      exact ⟨rfl, rfl, rfl⟩
    · obtain ⟨i', rfl⟩ : ∃ i', i = i' + 1 := ⟨i - 1, by omega⟩
      obtain ⟨j, h1, h2, h3, h4⟩ := a3 i' (by omega)
      have r0 := ins_gt (e := lc) (x := x) (y := y) (u := u) (R := I 218) (k := 0) (show p ≤ i' by omega) (by omega) (by decide)
      have r1 := ins_gt (e := lc) (x := x) (y := y) (u := u) (R := I 218) (k := 1) (show p ≤ i' by omega) (by omega) (by decide)
      have r2 := ins_gt (e := lc) (x := x) (y := y) (u := u) (R := I 218) (k := 2) (show p ≤ i' by omega) (by omega) (by decide)
      rw [Nat.add_zero, Nat.add_zero] at r0
      refine ⟨j, by omega, ?_⟩
      rw [r0, r1, r2, up_ne (by omega), up_ne (by omega), up_ne (by omega)]
      exact ⟨h2, h3, h4⟩
  · by_cases c : j = lc
    · obtain ⟨r0, r1, r2⟩ := ins_eq (p := p) (e := lc) (x := x) (y := y) (u := u) (R := I 218)
      refine ⟨p, by omega, ?_⟩
      rw [c, r0, r1, r2, up_eq, up_eq, up_eq]
      exact ⟨rfl, rfl, rfl⟩
    · obtain ⟨i, h1, h2, h3, h4⟩ := a4 j (by omega)
      rw [up_ne c, up_ne c, up_ne c]
      by_cases c' : i < p
      · have r0 := ins_lt (e := lc) (x := x) (y := y) (u := u) (R := I 218) (k := 0) c' (by decide)
        have r1 := ins_lt (e := lc) (x := x) (y := y) (u := u) (R := I 218) (k := 1) c' (by decide)
        have r2 := ins_lt (e := lc) (x := x) (y := y) (u := u) (R := I 218) (k := 2) c' (by decide)
        rw [Nat.add_zero] at r0
        refine ⟨i, by omega, ?_⟩
        rw [r0, r1, r2]
        exact ⟨h2, h3, h4⟩
      · have r0 := ins_gt (e := lc) (x := x) (y := y) (u := u) (R := I 218) (k := 0) (show p ≤ i by omega) h1 (by decide)
        have r1 := ins_gt (e := lc) (x := x) (y := y) (u := u) (R := I 218) (k := 1) (show p ≤ i by omega) h1 (by decide)
        have r2 := ins_gt (e := lc) (x := x) (y := y) (u := u) (R := I 218) (k := 2) (show p ≤ i by omega) h1 (by decide)
        rw [Nat.add_zero, Nat.add_zero] at r0
        refine ⟨i + 1, by omega, ?_⟩
        rw [r0, r1, r2]
        exact ⟨h2, h3, h4⟩
  · have rl : ∀ i, i < p → ins p lc x y u (I 218) (3 * i) = I 218 (3 * i) := fun i c => by
      have r0 := ins_lt (e := lc) (x := x) (y := y) (u := u) (R := I 218) (k := 0) c (by decide)
      exact r0
    have rg : ∀ i, p ≤ i → i < lc → ins p lc x y u (I 218) (3 * (i + 1)) = I 218 (3 * i) := fun i c c' => by
      have r0 := ins_gt (e := lc) (x := x) (y := y) (u := u) (R := I 218) (k := 0) c c' (by decide)
      exact r0
    have re := (ins_eq (p := p) (e := lc) (x := x) (y := y) (u := u) (R := I 218)).1
    rcases (show i + 1 < p ∨ i + 1 = p ∨ i = p ∨ p < i by omega) with c | c | c | c
    · rw [rl i (by omega), rl (i + 1) c]
      exact a5 i (by omega)
    · rw [rl i (by omega), c, re]
      rcases p1 with p1 | p1
      · omega
      · rw [← c, Nat.add_sub_cancel] at p1
        exact p1
    · rw [c, re, rg p (Nat.le_refl _) (by omega)]
      exact Int32.le_of_lt (Int32.not_le.mp (p2 p (Nat.le_refl _) (by omega)))
    · obtain ⟨i', rfl⟩ : ∃ i', i = i' + 1 := ⟨i - 1, by omega⟩
      rw [rg i' (by omega) (by omega), rg (i' + 1) (by omega) (by omega)]
      exact a5 i' (by omega)
end
section
variable {z h hs bl bs cl cs nr n nh M hN w lc mc kc ta : Nat} {rm pi mk : Nat → Nat} {G : mG} {I : Nat → Nat → Int32} {L : Nat → Nat → Int64}
theorem ca_log (d : Nat) (q : Rel z h hs bl bs cl cs nr n nh M hN w lc mc kc ta rm pi mk G I L) (g1 : G.1 ≤ 252 + z + 25 * kc) (g2 : G.2.1 ≤ 60000 + 6 * z + 4000 * kc) (hz : z + 1 ≤ 512) (x : Int32) (y : Int32) (u : Int32) : Ste (d + 6) 308 244 [.int x, .int y, .int u] (z + 1) G I L := by
  obtain ⟨lB, lX, lP, -, ⟨lH1, lH2⟩, ⟨lS, -⟩, ⟨lT, -⟩, ⟨lU, -⟩, lD, -, -, lM, ⟨o1, o2⟩, -, hh, -⟩ := id q.1
  have ho := q.2.1
  obtain ⟨s1, s2, s3, s4, s5, s6⟩ := ho_sz ho
  have lH : LayH G h := by
    rcases hh with ⟨a, -⟩ | ⟨a, -⟩
    · rw [a]; exact lH1
    · rw [a]; exact lH2
  have hb : 103 ≤ h ∧ h + 14 ≤ 132 := by omega
  obtain ⟨-, -, ⟨hF, hHN⟩, hS, ⟨hT, hMz⟩, hU, hD, hTp, hEg, hLg, -, -, -, -⟩ := id q
  have z1 : ¬ (1 : Int32) = 0 := by decide
  have I00 : (va_up I 219 (va_up (I 219) 0 0)) 219 0 = 0 := by rw [up_eq, up_eq]
  have I01 : (va_up I 219 (va_up (I 219) 0 0)) 220 = I 220 := up_ne (by decide)
  by_cases c0 : y < 0 ∨ ¬ y < Int32.ofNat nr
  · have hc : mcal mT (d + 5) 128 [.ref 100, .int x, .int y, .int u] (G, I, L) = some (.inr "java/lang/IndexOutOfBoundsException", (G, I, L)) := by
      simp only [q_X11_log_, e_X11_log_0, ↓vB lB, ↓vP lP, ↓vT lT, ↓vH lH, ↓vS lS, nr_no (d + 3) (L := L) lB lP lH s1 c0, mcV_v, mcV_e, mthr_e]
    refine Ste_e (k := 1) q g1 g2 hz (by decide) (w_log_I (d + 5) hc lB.1) fun lM => ?_
    simp only [q_X12_log_, e_X12_log_0, e_X12_log_43, e_X12_log_44, e_X12_log_51, ↓vM lM, up2_e, r_within, mcI_v, ↓mcI_of (ri_no (d + 3) (L := L) (I := (va_up I 219 (va_up (I 219) 0 0))) 1 lM I00 (by decide) (by rw [I01]; exact s2) s3 c0), ↓mcI_of (r_may0 (d + 4) 1 lM (I := (va_up I 219 (va_up (I 219) 0 0))) (L := L) I00 (by decide)), up_eq, up_up, if_true, if_neg z1, mb0]
  by_cases c1 : x < 1 ∨ 240 < x
  · have hc : mcal mT (d + 5) 128 [.ref 100, .int x, .int y, .int u] (G, I, L) = some (.inr "java/lang/IllegalArgumentException", (G, I, L)) := by
      simp only [q_X11_log_, e_X11_log_0, ↓vB lB, ↓vP lP, ↓vT lT, ↓vH lH, ↓vS lS, nr_ok (d + 3) (L := L) lB lP lH s1 c0, nw_no (d + 3) c1 (G, I, L), mcV_v, mcV_e, mthr_e]
    refine Ste_e (k := 2) q g1 g2 hz (by decide) (w_log_A (d + 5) hc lB.1) fun lM => ?_
    simp only [q_X12_log_, e_X12_log_0, e_X12_log_43, e_X12_log_44, e_X12_log_51, ↓vM lM, up2_e, r_within, mcI_v, ↓mcI_of (ri_ok (d + 3) (L := L) (I := (va_up I 219 (va_up (I 219) 0 0))) 1 lM I00 (by decide) (by rw [I01]; exact s2) s3 c0), wi_0 (x := x) (a := 1) (b := 240) c1, ↓mcI_of (r_may1 (d + 4) 1 lM (I := (va_up I 219 (va_up (I 219) 0 0))) (L := L) I00), ↓mcI_of (r_may0 (d + 4) 2 lM (I := (va_up I 219 (va_up (I 219) 0 0))) (L := L) I00 (by decide)), up_eq, up_up, if_true, if_neg z1, mb0]
  by_cases c2 : u < -9999 ∨ 9999 < u
  · have hc : mcal mT (d + 5) 128 [.ref 100, .int x, .int y, .int u] (G, I, L) = some (.inr "java/lang/IllegalArgumentException", (G, I, L)) := by
      simp only [q_X11_log_, e_X11_log_0, ↓vB lB, ↓vP lP, ↓vT lT, ↓vH lH, ↓vS lS, nr_ok (d + 3) (L := L) lB lP lH s1 c0, nw_ok (d + 3) c1 (G, I, L), nw_no (d + 3) c2 (G, I, L), mcV_v, mcV_e, mthr_e]
    refine Ste_e (k := 2) q g1 g2 hz (by decide) (w_log_A (d + 5) hc lB.1) fun lM => ?_
    simp only [q_X12_log_, e_X12_log_0, e_X12_log_43, e_X12_log_44, e_X12_log_51, ↓vM lM, up2_e, r_within, mcI_v, ↓mcI_of (ri_ok (d + 3) (L := L) (I := (va_up I 219 (va_up (I 219) 0 0))) 1 lM I00 (by decide) (by rw [I01]; exact s2) s3 c0), wi_1 (x := x) (a := 1) (b := 240) c1, wi_0 (x := u) (a := -9999) (b := 9999) c2, ↓mcI_of (r_may1 (d + 4) 1 lM (I := (va_up I 219 (va_up (I 219) 0 0))) (L := L) I00), ↓mcI_of (r_may1 (d + 4) 2 lM (I := (va_up I 219 (va_up (I 219) 0 0))) (L := L) I00), ↓mcI_of (r_may0 (d + 4) 2 lM (I := (va_up I 219 (va_up (I 219) 0 0))) (L := L) I00 (by decide)), up_eq, up_up, if_true, if_neg z1, mb0]
  obtain ⟨ro, hro, ey⟩ := i_rm (by omega) c0
  obtain ⟨mi, hmi, ex⟩ := i_rng (x := x) (n := 240) (fun p => c1 (by
    rcases p with p | p
    · left
      rw [Int32.lt_iff_toInt_lt] at p ⊢
      have e0 : (0 : Int32).toInt = 0 := by decide
      have e1 : (1 : Int32).toInt = 1 := by decide
      omega
    · exact Or.inr p)) (by decide)
  have hm1 : 1 ≤ mi := by
    by_cases e : mi = 0
    · exact absurd (Or.inl (by rw [ex, e]; decide)) c1
    · omega
  have hu9 : irng u (-9999) 9999 := by
    have a := Int32.not_lt.mp (fun p => c2 (Or.inl p))
    have b := Int32.not_lt.mp (fun p => c2 (Or.inr p))
    rw [Int32.le_iff_toInt_le] at a b
    exact ⟨a, b⟩
  obtain ⟨l1, l2, l3⟩ := hLg.1
  by_cases c20 : lc = 20
  · have e4 : ¬ Int32.ofNat lc < 20 := by rw [c20]; decide
    have e5 : Int32.ofNat lc = 20 := by rw [c20]; rfl
    refine Ste_q (v := -1) q g1 g2 hz (w_log (d + 5) (v := -1) ?_ lB.1 o1 o2) (fun L' => ?_)
    · simp only [q_X11_log_, e_X11_log_0, nr_ok (d + 3) (L := L) lB lP lH s1 c0, nw_ok (d + 3) c1 (G, I, L), nw_ok (d + 3) c2 (G, I, L), mcV_v, ↓vB lB, l1, if_neg e4]
    · have my := r_may1 (d + 4) 2 lM (I := va_up I 219 (va_up (I 219) 0 0)) (L := L') I00
      have ir := ri_ok (d + 3) (L := L') (I := (va_up I 219 (va_up (I 219) 0 0))) 1 lM I00 (by decide) (by rw [I01]; exact s2) s3 c0
      simp (disch := omega) only [List.nil_append, List.cons_append, q_X12_log_, e_X12_log_0, ↓vM lM, up2_e, ↓mcI_of ir, r_within, mcI_v, wi_1 c1, wi_1 c2, if_neg z1, e_X12_log_44, ↓mcI_of my, e_X12_log_53, up_eq, up_ne, l2, if_pos e5]
  have e4 : Int32.ofNat lc < 20 := (i_lt (b := 20) (by omega) (by decide)).mpr (by omega)
  have e5 : ¬ Int32.ofNat lc = 20 := fun p => c20 ((i_eq (b := 20) (by omega) (by decide)).mp p)
  obtain ⟨p, p1, p2, p3, p4⟩ := c_place (d + 3) (G := G) (L := L) lB x l1 l3
  have pl := c_putLog (d + 3) (L := L) lB x y u p1 l1 (by omega)
  have hc : mcal mT (d + 5) 128 [.ref 100, .int x, .int y, .int u] (G, I, L) = some (.inl (some (.int (Int32.ofNat (lc + 1)))), (G, va_up (va_up I 218 (ins p lc x y u (I 218))) 100 (va_up (I 100) 15 (Int32.ofNat (lc + 1))), L)) := by
    simp (disch := omega) only [q_X11_log_, e_X11_log_0, nr_ok (d + 3) (L := L) lB lP lH s1 c0, nw_ok (d + 3) c1 (G, I, L), nw_ok (d + 3) c2 (G, I, L), mcV_v, ↓vB lB, l1, if_pos e4, e_X11_log_34, ↓mcI_of p2, ↓mcV_of pl, up_eq]
  generalize hI1 : va_up (va_up I 218 (ins p lc x y u (I 218))) 100 (va_up (I 100) 15 (Int32.ofNat (lc + 1))) = I1 at hc
  have o : ∀ a, a ≠ 100 → a ≠ 218 → I1 a = I a := fun a h1 h2 => by rw [← hI1, up_ne h1, up_ne h2]
  have J00 : va_up I1 219 (va_up (I1 219) 0 0) 219 0 = 0 := by rw [up_eq, up_eq]
  have J9 : ∀ k, k ≠ 0 → va_up I1 219 (va_up (I1 219) 0 0) 219 k = I 219 k := fun k hk => by rw [up_eq, up_ne hk, o 219 (by decide) (by decide)]
  have Jo : ∀ a, a ≠ 100 → a ≠ 218 → a ≠ 219 → va_up I1 219 (va_up (I1 219) 0 0) a = I a := fun a h1 h2 h3 => by rw [up_ne h3, o a h1 h2]
  have J100 : va_up I1 219 (va_up (I1 219) 0 0) 100 = va_up (I 100) 15 (Int32.ofNat (lc + 1)) := by rw [up_ne (by decide), ← hI1, up_eq]
  have J218 : va_up I1 219 (va_up (I1 219) 0 0) 218 = ins p lc x y u (I 218) := by rw [up_ne (by decide), ← hI1, up_ne (by decide), up_eq]
  generalize hJ : va_up I1 219 (va_up (I1 219) 0 0) = J at J00 J9 Jo J100 J218
  refine Ste_n g1 g2 (w_log (d + 5) hc lB.1 o1 o2) (I2 := va_up (va_up (va_up (va_up J 231 (va_up (I 231) lc x)) 232 (va_up (I 232) lc y)) 233 (va_up (I 233) lc u)) 219 (va_up (J 219) 28 (Int32.ofNat (lc + 1)))) (fun L' => ?_) ?_ ?_ ?_ ?_
  · have my := r_may1 (d + 4) 2 lM (I := J) (L := L') J00
    have ir := ri_ok (d + 3) (L := L') (I := J) 1 lM J00 (by decide) (by rw [Jo 220 (by decide) (by decide) (by decide)]; exact s2) s3 c0
    have j28 : J 219 28 = Int32.ofNat lc := by rw [J9 28 (by decide)]; exact l2
    have j31 := Jo 231 (by decide) (by decide) (by decide)
    have j32 := Jo 232 (by decide) (by decide) (by decide)
    have j33 := Jo 233 (by decide) (by decide) (by decide)
    show mcal mT (d + 6) 244 [.ref 219, .int x, .int y, .int u] (G, I1, L') = _
    rw [q_X12_log_, e_X12_log_0, up2_e (F := I1), hJ]
    simp (disch := omega) only [↓vM lM, ↓mcI_of ir, r_within, mcI_v, wi_1 c1, wi_1 c2, if_neg z1, e_X12_log_44, ↓mcI_of my, e_X12_log_53, j28, if_neg e5, e_X12_log_64, up2_e, up_eq, up_ne, j31, j32, j33, i_one]
  · exact o 0 (by decide) (by decide)
  · rw [up_ne (by decide), up_ne (by decide), up_ne (by decide), up_ne (by decide), Jo 0 (by decide) (by decide) (by decide)]
  · rw [up_eq, up_ne (by decide)]; exact J00
  · refine ⟨h, hs, bl, bs, cl, cs, nr, n, nh, M, hN, w, lc + 1, mc, ta, rm, pi, mk, Rel_lg q hz (fun a h1 h2 h3 => ?_) (fun k h1 h2 => ?_) (fun j _ _ => ?_) (fun a ha => up_ne ha) ?_ (LgR_ins hLg p1 (by omega) p3 p4 ex hm1 (by omega) ey hro hu9 ?_ ?_ ?_ ?_ ?_ ?_)⟩
    · rw [up_ne h2, up_ne (by omega), up_ne (by omega), up_ne (by omega), Jo a (by omega) (by omega) h2]
    · rw [up_eq, up_ne h2, J9 k h1]
    · rw [up_ne (by decide), up_ne (by decide), up_ne (by decide), up_ne (by decide), Jo 223 (by decide) (by decide) (by decide)]
    · rw [up_ne (by decide), up_ne (by decide), up_ne (by decide), up_ne (by decide), J100, up_ne (by decide)]
    · rw [up_ne (by decide), up_ne (by decide), up_ne (by decide), up_ne (by decide), J100, up_eq]
    · rw [up_eq, up_eq]
    · rw [up_ne (by decide), up_ne (by decide), up_ne (by decide), up_ne (by decide), J218]
    · rw [up_ne (by decide), up_ne (by decide), up_ne (by decide), up_eq]
    · rw [up_ne (by decide), up_ne (by decide), up_eq]
    · rw [up_ne (by decide), up_eq]
end
