/-! balancing: the search -/
def QuB (J J' : Nat → Nat → Int32) (K K' : Nat → Nat → Int64) : Prop := (∀ a, a ≠ 219 → a ≠ 223 → a ≠ 224 → a ≠ 227 → a ≠ 234 → J' a = J a) ∧ (∀ k, k ≠ 17 → k ≠ 24 → k ≠ 34 → J' 219 k = J 219 k) ∧ J' 219 24 = 1 ∧ (∀ j, j < 173 → J' 224 j = J 223 j) ∧ (∀ a, a ≠ 225 → a ≠ 226 → K' a = K a) ∧ (∀ j, j < 16 → K' 226 j = K 225 j)
/-- the best way -/
def Bst (N : Nat) (T : Nat → Nat) (E : Nat → Int32) (v : Nat) : Prop := v < N ∧ E v = 1 ∧ ∀ u, u < N → E u = 1 → (T v < T u ∨ (T v = T u ∧ v ≤ u))
theorem Bst_u {N : Nat} {T : Nat → Nat} {E : Nat → Int32} {v w : Nat} (a : Bst N T E v) (b : Bst N T E w) : v = w := by
  have x := a.2.2 w b.1 b.2.1
  have y := b.2.2 v a.1 a.2.1
  omega
section
variable {G G2 : mG} {I J : Nat → Nat → Int32} {L K : Nat → Nat → Int64} {h hs bl bs cl cs nr n nh M kc : Nat} {rm pi mk sk : Nat → Nat} {E : Nat → Int32}
/-- what the class's search needs -/
def WrC (d : Nat) (out want : Int32) (h hs bl bs cl cs kc : Nat) (mk : Nat → Nat) (G : mG) (I : Nat → Nat → Int32) (L : Nat → Nat → Int64) (E : Nat → Int32) : Prop := ∀ c, c < 256 → (E c = 0 ∨ E c = 1) ∧ ∀ Gx Ix Lx, GH h hs bl bs cl cs kc mk G I L Gx Ix Lx → ∃ G' I' L', mcal mT (d + 6) 142 [.ref 100, .int (Int32.ofNat c), .int out, .int want] (Gx, Ix, Lx) = some (.inl (some (.int (E c))), (G', I', L')) ∧ GH h hs bl bs cl cs kc mk G I L G' I' L'
/-- what the reference's search needs -/
def WrR (e : Nat) (out want : Int32) (G2 : mG) (J : Nat → Nat → Int32) (n : Nat) (E : Nat → Int32) : Prop := ∀ c, c < 256 → (E c = 0 ∨ E c = 1) ∧ ∀ (J1 : Nat → Nat → Int32) (K1 : Nat → Nat → Int64) (x3 x4 t : Int32), J1 220 = J 220 → (∀ k, k ≠ 17 → k ≠ 24 → k ≠ 34 → J1 219 k = J 219 k) → J1 219 24 = 1 → (∀ j, j < 173 → J1 223 j = if 24 ≤ j ∧ j < 24 + mq n then Int32.ofNat (dgt (mq n) c (j - 24)) else J 223 j) → ∃ J2 K2, f_X12_findBalanced (e + 6) 172 [.ref 219, .int out, .int want, .int x3, .int x4, .int (Int32.ofNat c), .int t, mU, mU, mU] [] (G2, J1, K1) = (if E c = 0 then f_X12_findBalanced (e + 6) 250 [.ref 219, .int out, .int want, .int x3, .int x4, .int (Int32.ofNat c), mU, mU, mU, mU] [] (G2, J2, K2) else f_X12_findBalanced (e + 6) 211 [.ref 219, .int out, .int want, .int x3, .int x4, .int (Int32.ofNat c), .int t, mU, mU, mU] [] (G2, J2, K2)) ∧ (∀ a, a ≠ 219 → a ≠ 223 → a ≠ 227 → J2 a = J1 a) ∧ (∀ k, k ≠ 17 → J2 219 k = J1 219 k) ∧ (∀ a, a ≠ 225 → K2 a = K1 a) ∧ ∀ k, k < n → J2 223 (24 + k) = if k < mq n then Int32.ofNat (dgt (mq n) c k) else J 223 (24 + k)
theorem bw_E (d e : Nat) (out want : Int32) (q : LyR G h hs bl bs cl cs kc mk) (lM : LayM G2 219) (hb : 103 ≤ h ∧ h + 14 ≤ 132) (hB : BsR I J L K h nr n nh M rm pi) (hr2 : ∀ r, r < nr → I (h + 2) r = J 220 (8 + r) ∧ irng (J 220 (8 + r)) 0 4000) : ∃ E : Nat → Int32, WrC d out want h hs bl bs cl cs kc mk G I L E ∧ WrR e out want G2 J n E := by
  have key : ∀ c, ∃ b : Int32, c < 256 → (b = 0 ∨ b = 1) ∧ (∀ Gx Ix Lx, GH h hs bl bs cl cs kc mk G I L Gx Ix Lx → ∃ G' I' L', mcal mT (d + 6) 142 [.ref 100, .int (Int32.ofNat c), .int out, .int want] (Gx, Ix, Lx) = some (.inl (some (.int b)), (G', I', L')) ∧ GH h hs bl bs cl cs kc mk G I L G' I' L') ∧ ∀ (J1 : Nat → Nat → Int32) (K1 : Nat → Nat → Int64) (x3 x4 t : Int32), J1 220 = J 220 → (∀ k, k ≠ 17 → k ≠ 24 → k ≠ 34 → J1 219 k = J 219 k) → J1 219 24 = 1 → (∀ j, j < 173 → J1 223 j = if 24 ≤ j ∧ j < 24 + mq n then Int32.ofNat (dgt (mq n) c (j - 24)) else J 223 j) → ∃ J2 K2, f_X12_findBalanced (e + 6) 172 [.ref 219, .int out, .int want, .int x3, .int x4, .int (Int32.ofNat c), .int t, mU, mU, mU] [] (G2, J1, K1) = (if b = 0 then f_X12_findBalanced (e + 6) 250 [.ref 219, .int out, .int want, .int x3, .int x4, .int (Int32.ofNat c), mU, mU, mU, mU] [] (G2, J2, K2) else f_X12_findBalanced (e + 6) 211 [.ref 219, .int out, .int want, .int x3, .int x4, .int (Int32.ofNat c), .int t, mU, mU, mU] [] (G2, J2, K2)) ∧ (∀ a, a ≠ 219 → a ≠ 223 → a ≠ 227 → J2 a = J1 a) ∧ (∀ k, k ≠ 17 → J2 219 k = J1 219 k) ∧ (∀ a, a ≠ 225 → K2 a = K1 a) ∧ ∀ k, k < n → J2 223 (24 + k) = if k < mq n then Int32.ofNat (dgt (mq n) c k) else J 223 (24 + k) := by
    intro c
    by_cases hc : c < 256
    · obtain ⟨b, I0, L0, b01, -, -, ⟨v, Jc, Kc, t1, t2⟩, rf⟩ := bw_pair d e (G2 := G2) out want q lM hb hB hr2 hc
      refine ⟨b, fun _ => ⟨b01, fun Gx Ix Lx gh => ?_, rf⟩⟩
      obtain ⟨g1, -, -, -, g5⟩ := id gh
      have fr : ∀ a, ¬ (171 ≤ a ∧ a < 195) → Ix a = I a := g5.1
      obtain ⟨b', I', L', -, c1, c2, ⟨v', Jc', Kc', t1', t2'⟩, -⟩ := bw_pair d e (G2 := G2) out want g1 lM hb (BsR_i hB hb g5) (by rw [fr (h + 2) (by omega)]; exact hr2) hc
      obtain ⟨-, -, rfl, rfl⟩ := some_i t1 t1'
      obtain ⟨rfl, -⟩ := some_i t2 t2'
      exact ⟨_, I', L', c1, GH_s gh c2⟩
    · exact ⟨0, fun p => absurd p hc⟩
  refine ⟨fun c => Classical.choose (key c), fun c hc => ?_, fun c hc => ?_⟩
  · obtain ⟨a, b, -⟩ := Classical.choose_spec (key c) hc
    exact ⟨a, b⟩
  · obtain ⟨a, -, b⟩ := Classical.choose_spec (key c) hc
    exact ⟨a, b⟩
/-- the class's inner loop -/
theorem bs_22 (d : Nat) {t : Nat} {out want : Int32} (hb : 103 ≤ h ∧ h + 14 ≤ 132) (s4 : I h 10 = Int32.ofNat n) (s6 : n ≤ 8) (hsk : ∀ k, k < n → I 133 k = Int32.ofNat (sk k) ∧ 1 ≤ sk k ∧ sk k ≤ 16) (ht : t ≤ 60) (q : WrC d out want h hs bl bs cl cs kc mk G I L E) : ∀ k c, c + k = 4 ^ mq n → ∀ Gx Ix Lx, GH h hs bl bs cl cs kc mk G I L Gx Ix Lx → ∃ G' I' L', GH h hs bl bs cl cs kc mk G I L G' I' L' ∧ ((∃ v, c ≤ v ∧ v < 4 ^ mq n ∧ tsm (mq n) v sk (mq n) = t ∧ E v = 1 ∧ (∀ u, c ≤ u → u < v → ¬ (tsm (mq n) u sk (mq n) = t ∧ E u = 1)) ∧ f_X11_bestWay (d + 6) 22 [.ref 100, .int out, .int want, .int (Int32.ofNat (4 ^ mq n)), .int (Int32.ofNat t), .int (Int32.ofNat c)] [] (Gx, Ix, Lx) = some (.inl (some (.int (Int32.ofNat v))), (G', I', L'))) ∨ ((∀ u, c ≤ u → u < 4 ^ mq n → ¬ (tsm (mq n) u sk (mq n) = t ∧ E u = 1)) ∧ f_X11_bestWay (d + 6) 22 [.ref 100, .int out, .int want, .int (Int32.ofNat (4 ^ mq n)), .int (Int32.ofNat t), .int (Int32.ofNat c)] [] (Gx, Ix, Lx) = f_X11_bestWay (d + 6) 59 [.ref 100, .int out, .int want, .int (Int32.ofNat (4 ^ mq n)), .int (Int32.ofNat t), mU] [] (G', I', L'))) := by
  have m4 := mq_le n
  have p44 := p4 m4.1
  intro k
  induction k with
  | zero =>
    intro c hc Gx Ix Lx gh
    refine ⟨Gx, Ix, Lx, gh, Or.inr ⟨fun u h1 h2 => by omega, ?_⟩⟩
    rw [show c = 4 ^ mq n by omega, e_X11_bestWay_22, if_pos i_rf]
  | succ k ih =>
    intro c hc Gx Ix Lx gh
    obtain ⟨ly, -, -, -, qc⟩ := id gh
    obtain ⟨lB, -, lP, -, ⟨lH1, lH2⟩, ⟨lS, -⟩, -⟩ := id ly
    have hh := ly.2.2.2.2.2.2.2.2.2.2.2.2.2.2.1
    have lH : LayH Gx h := by
      rcases hh with ⟨a, -⟩ | ⟨a, -⟩
      · rw [a]; exact lH1
      · rw [a]; exact lH2
    have fr : ∀ x, ¬ (171 ≤ x ∧ x < 195) → Ix x = I x := qc.1
    have nn : ¬ Int32.ofNat (4 ^ mq n) ≤ Int32.ofNat c := fun p => by have := (i_le (by omega) (by omega)).mp p; omega
    have to := c_tO (d + 3) (L := Lx) (I := Ix) (c := c) (sk := sk) lB lP lH lS (by rw [fr h (by omega)]; exact s4) s6 (by omega) (fun k hk => by rw [fr 133 (by omega)]; exact ⟨(hsk k hk).1, (hsk k hk).2.2⟩)
    have tb := tsm_b (m := mq n) (c := c) (sk := sk) (mq n) (fun j hj => (hsk j (by omega)).2)
    have ext : ∀ G1 I1 L1, GH h hs bl bs cl cs kc mk G I L G1 I1 L1 → ¬ (tsm (mq n) c sk (mq n) = t ∧ E c = 1) → f_X11_bestWay (d + 6) 22 [.ref 100, .int out, .int want, .int (Int32.ofNat (4 ^ mq n)), .int (Int32.ofNat t), .int (Int32.ofNat c)] [] (Gx, Ix, Lx) = f_X11_bestWay (d + 6) 53 [.ref 100, .int out, .int want, .int (Int32.ofNat (4 ^ mq n)), .int (Int32.ofNat t), .int (Int32.ofNat c)] [] (G1, I1, L1) → ∃ G' I' L', GH h hs bl bs cl cs kc mk G I L G' I' L' ∧ ((∃ v, c ≤ v ∧ v < 4 ^ mq n ∧ tsm (mq n) v sk (mq n) = t ∧ E v = 1 ∧ (∀ u, c ≤ u → u < v → ¬ (tsm (mq n) u sk (mq n) = t ∧ E u = 1)) ∧ f_X11_bestWay (d + 6) 22 [.ref 100, .int out, .int want, .int (Int32.ofNat (4 ^ mq n)), .int (Int32.ofNat t), .int (Int32.ofNat c)] [] (Gx, Ix, Lx) = some (.inl (some (.int (Int32.ofNat v))), (G', I', L'))) ∨ ((∀ u, c ≤ u → u < 4 ^ mq n → ¬ (tsm (mq n) u sk (mq n) = t ∧ E u = 1)) ∧ f_X11_bestWay (d + 6) 22 [.ref 100, .int out, .int want, .int (Int32.ofNat (4 ^ mq n)), .int (Int32.ofNat t), .int (Int32.ofNat c)] [] (Gx, Ix, Lx) = f_X11_bestWay (d + 6) 59 [.ref 100, .int out, .int want, .int (Int32.ofNat (4 ^ mq n)), .int (Int32.ofNat t), mU] [] (G', I', L'))) := by
      intro G1 I1 L1 g1 no st
      obtain ⟨G', I', L', a1, a2⟩ := ih (c + 1) (by omega) G1 I1 L1 g1
      refine ⟨G', I', L', a1, ?_⟩
      rw [st, e_X11_bestWay_53, i_one]
      rcases a2 with ⟨v, v1, v2, v3, v4, v5, v6⟩ | ⟨v1, v2⟩
      · refine Or.inl ⟨v, by omega, v2, v3, v4, fun u h1 h2 => ?_, v6⟩
        by_cases eu : u = c
        · rw [eu]; exact no
        · exact v5 u (by omega) h2
      · refine Or.inr ⟨fun u h1 h2 => ?_, v2⟩
        by_cases eu : u = c
        · rw [eu]; exact no
        · exact v1 u (by omega) h2
    by_cases ct : tsm (mq n) c sk (mq n) = t
    · obtain ⟨b01, wc⟩ := q c (by omega)
      obtain ⟨G1, I1, L1, e1, e2⟩ := wc Gx Ix Lx gh
      have et : Int32.ofNat (tsm (mq n) c sk (mq n)) = Int32.ofNat t := by rw [ct]
      by_cases ce : E c = 0
      · refine ext G1 I1 L1 e2 (fun p => by rw [ce] at p; exact absurd p.2 (by decide)) ?_
        rw [e_X11_bestWay_22, if_neg nn]
        simp only [↓vB lB, ↓mcI_of to, if_pos et, ↓mcI_of e1, if_pos ce]
      · have c1 : E c = 1 := by
          rcases b01 with p | p
          · exact absurd p ce
          · exact p
        refine ⟨G1, I1, L1, e2, Or.inl ⟨c, Nat.le_refl _, by omega, ct, c1, fun u h1 h2 => by omega, ?_⟩⟩
        rw [e_X11_bestWay_22, if_neg nn]
        simp only [↓vB lB, ↓mcI_of to, if_pos et, ↓mcI_of e1, if_neg ce]
    · have et : ¬ Int32.ofNat (tsm (mq n) c sk (mq n)) = Int32.ofNat t := fun p => ct ((i_eq (by omega) (by omega)).mp p)
      refine ext Gx Ix Lx gh (fun p => ct p.1) ?_
      rw [e_X11_bestWay_22, if_neg nn]
      simp only [↓vB lB, ↓mcI_of to, if_neg et]
/-- the class's outer loop -/
theorem bs_12 (d : Nat) {out want : Int32} (hb : 103 ≤ h ∧ h + 14 ≤ 132) (s4 : I h 10 = Int32.ofNat n) (s6 : n ≤ 8) (hsk : ∀ k, k < n → I 133 k = Int32.ofNat (sk k) ∧ 1 ≤ sk k ∧ sk k ≤ 16) (q : WrC d out want h hs bl bs cl cs kc mk G I L E) : ∀ k t, t + k = 61 → (∀ u, u < 4 ^ mq n → tsm (mq n) u sk (mq n) < t → ¬ E u = 1) → ∀ Gx Ix Lx, GH h hs bl bs cl cs kc mk G I L Gx Ix Lx → ∃ r G' I' L', f_X11_bestWay (d + 6) 12 [.ref 100, .int out, .int want, .int (Int32.ofNat (4 ^ mq n)), .int (Int32.ofNat t), mU] [] (Gx, Ix, Lx) = some (.inl (some (.int r)), (G', I', L')) ∧ GH h hs bl bs cl cs kc mk G I L G' I' L' ∧ ((∃ v, r = Int32.ofNat v ∧ Bst (4 ^ mq n) (fun u => tsm (mq n) u sk (mq n)) E v) ∨ (r = -1 ∧ ∀ u, u < 4 ^ mq n → ¬ E u = 1)) := by
  have m4 := mq_le n
  intro k
  induction k with
  | zero =>
    intro t ht no Gx Ix Lx gh
    refine ⟨-1, Gx, Ix, Lx, ?_, gh, Or.inr ⟨rfl, fun u hu => no u hu ?_⟩⟩
    · rw [show t = 61 by omega, e_X11_bestWay_12, if_pos (by decide), e_X11_bestWay_65]
    · have tb := tsm_b (m := mq n) (c := u) (sk := sk) (mq n) (fun j hj => (hsk j (by omega)).2)
      omega
  | succ k ih =>
    intro t ht no Gx Ix Lx gh
    have n60 : ¬ (60 : Int32) < Int32.ofNat t := fun p => by have := (i_lt (a := 60) (by decide) (by omega)).mp p; omega
    obtain ⟨G1, I1, L1, g1, r1⟩ := bs_22 d (t := t) hb s4 s6 hsk (by omega) q (4 ^ mq n) 0 (by omega) Gx Ix Lx gh
    rcases r1 with ⟨v, v1, v2, v3, v4, v5, v6⟩ | ⟨v1, v2⟩
    · refine ⟨_, G1, I1, L1, ?_, g1, Or.inl ⟨v, rfl, v2, v4, fun u hu eu => ?_⟩⟩
      · rw [e_X11_bestWay_12, if_neg n60]
        exact v6
      · show tsm (mq n) v sk (mq n) < tsm (mq n) u sk (mq n) ∨ (tsm (mq n) v sk (mq n) = tsm (mq n) u sk (mq n) ∧ v ≤ u)
        have a : ¬ tsm (mq n) u sk (mq n) < t := fun p => no u hu p eu
        by_cases c : tsm (mq n) u sk (mq n) = t
        · right
          refine ⟨by omega, ?_⟩
          by_cases p : v ≤ u
          · exact p
          · exact absurd ⟨c, eu⟩ (v5 u (by omega) (by omega))
        · left; omega
    · obtain ⟨r, G2, I2, L2, a1, a2, a3⟩ := ih (t + 1) (by omega) (fun u hu lt => by
        by_cases c : tsm (mq n) u sk (mq n) = t
        · exact fun p => v1 u (by omega) hu ⟨c, p⟩
        · exact no u hu (by omega)) G1 I1 L1 g1
      refine ⟨r, G2, I2, L2, ?_, a2, a3⟩
      rw [e_X11_bestWay_12, if_neg n60]
      refine Eq.trans v2 ?_
      rw [e_X11_bestWay_59, i_one]
      exact a1
theorem bs_c (d : Nat) {out want : Int32} (hb : 103 ≤ h ∧ h + 14 ≤ 132) (s4 : I h 10 = Int32.ofNat n) (s6 : n ≤ 8) (hsk : ∀ k, k < n → I 133 k = Int32.ofNat (sk k) ∧ 1 ≤ sk k ∧ sk k ≤ 16) (q : WrC d out want h hs bl bs cl cs kc mk G I L E) (gh : GH h hs bl bs cl cs kc mk G I L G I L) : ∃ r G' I' L', mcal mT (d + 7) 141 [.ref 100, .int out, .int want] (G, I, L) = some (.inl (some (.int r)), (G', I', L')) ∧ GH h hs bl bs cl cs kc mk G I L G' I' L' ∧ ((∃ v, r = Int32.ofNat v ∧ Bst (4 ^ mq n) (fun u => tsm (mq n) u sk (mq n)) E v) ∨ (r = -1 ∧ ∀ u, u < 4 ^ mq n → ¬ E u = 1)) := by
  have m4 := mq_le n
  obtain ⟨ly, -⟩ := id gh
  obtain ⟨lB, -, lP, -, ⟨lH1, lH2⟩, -⟩ := id ly
  have hh := ly.2.2.2.2.2.2.2.2.2.2.2.2.2.2.1
  have lH : LayH G h := by
    rcases hh with ⟨a, -⟩ | ⟨a, -⟩
    · rw [a]; exact lH1
    · rw [a]; exact lH2
  obtain ⟨r, G1, I1, L1, a1, a2, a3⟩ := bs_12 d hb s4 s6 hsk q 61 0 (by decide) (fun u _ p => by omega) G I L gh
  refine ⟨r, G1, I1, L1, ?_, a2, a3⟩
  rw [q_X11_bestWay_, e_X11_bestWay_0]
  simp only [↓vB lB, ↓mcI_of (c_bR (d + 5) (L := L) lB lP lH s4 s6), scp (mq n) (by omega)]
  exact a1
end
