/-! call: words -/
/-- rows that reading a text may change -/
def RdX (hs a : Nat) : Prop := a = 101 ∨ (199 ≤ a ∧ a < 215) ∨ a = 219 ∨ (235 ≤ a ∧ a ≤ 238) ∨ (241 ≤ a ∧ a ≤ 244) ∨ (hs ≤ a ∧ a < hs + 14) ∨ a = 221
theorem Rel_rd {z h hs bl bs cl cs bl' bs' cl' cs' nr n nh M hN w lc mc kc ta ta' : Nat} {rm pi mk : Nat → Nat} {G G' : mG} {I I' : Nat → Nat → Int32} {L L' : Nat → Nat → Int64} (q : Rel z h hs bl bs cl cs nr n nh M hN w lc mc kc ta rm pi mk G I L) (hG : LyR G' h hs bl' bs' cl' cs' kc mk) (hz : z + 1 ≤ 512) (hI0 : ∀ a, ¬ RdX hs a → I' a = I a) (h9 : ∀ k, 10 ≤ k → k ≠ 36 → k ≠ 37 → k ≠ 44 → k ≠ 45 → I' 219 k = I 219 k) (hT : TpR I' ta') (hB : BiR I' bl') (hC : ClR I' cl') (hL : ∀ a, a ≠ 251 → L' a = L a) : Rel (z + 1) h hs bl' bs' cl' cs' nr n nh M hN w lc mc kc ta' rm pi mk G' I' L' := by
  obtain ⟨a1, a2, ⟨a3, a3'⟩, a4, ⟨a5, a5'⟩, a6, a7, a8, a9, a10, a11, a12, ⟨a13, a13'⟩, a14⟩ := q
  obtain ⟨-, -, hnr8, -, -, hn8⟩ := ho_sz a2
  have hm := a1.2.2.2.2.2.2.2.2.2.2.2.2.2.2.2.2.2.2.2.1
  have hh := a1.2.2.2.2.2.2.2.2.2.2.2.2.2.2.1
  have hI : ∀ a, ¬ (a = 101 ∨ (199 ≤ a ∧ a < 215) ∨ a = 219 ∨ (235 ≤ a ∧ a ≤ 238) ∨ (241 ≤ a ∧ a ≤ 244) ∨ (hs ≤ a ∧ a < hs + 14) ∨ a = 221) → I' a = I a := hI0
  have n9 : ∀ k, 10 ≤ k → k ≠ 36 → k ≠ 37 → k ≠ 44 → k ≠ 45 → I' 219 k = I 219 k := h9
  exact ⟨hG, HoR_c a2 (fun a h1 h2 => hI a (by omega)) (hI 220 (by omega)), ⟨FlR_c a3 (fun k h1 h2 h3 h4 => h9 k (by omega) (by omega) (by omega) (by omega) (by omega)), by rw [h9 23 (by omega) (by omega) (by omega) (by omega) (by omega)]; exact a3'⟩, SeR_c a4 hn8 (fun a h1 h2 => hI a (by omega)) (fun j hj => by rw [hI 223 (by omega)]), ⟨StR_c a5 hn8 hnr8 (fun a h1 h2 => hI a (by omega)) (hL _ (by omega)) (hI 220 (by omega)) (fun j hj => by rw [hI 223 (by omega)]) (fun j _ => by rw [hL 225 (by omega)]), by omega⟩, TaR_c a6 (fun a h1 h2 => hI a (by omega)) (hI 220 (by omega)), DiR_c a7 hnr8 (fun a h1 h2 => hI a (by omega)) (fun j _ => by rw [hI 228 (by omega)]) (fun j _ => by rw [hI 229 (by omega)]), hT, EgR_c a9 (hI 215 (by omega)) (hI 217 (by omega)) (hI 230 (by omega)) (hI 240 (by omega)), LgR_c a10 (by rw [hI 100 (by omega)]) (h9 28 (by omega) (by omega) (by omega) (by omega) (by omega)) (hI 218 (by omega)) (hI 231 (by omega)) (hI 232 (by omega)) (hI 233 (by omega)), hB, hC, ⟨MkR_c a13 hn8 hnr8 (Nat.le_succ z) (by rw [hI 100 (by omega)]) (h9 51 (by omega) (by omega) (by omega) (by omega) (by omega)) (hI 246 (by omega)) (hI 247 (by omega)) (hI 248 (by omega)) (hI 249 (by omega)) (hL 250 (by omega)) (hI 220 (by omega)) (fun i a hi h1 h2 => by
    obtain ⟨-, -, m3, m4⟩ := hm i (by omega)
    exact ⟨hI a (by omega), hL a (by omega)⟩), a13'⟩, hz⟩
section
variable {G G2 : mG} {I J : Nat → Nat → Int32} {L K : Nat → Nat → Int64} {B : Nat → Nat} {h hs bl bs cl cs kc b e : Nat} {mk : Nat → Nat}
/-- bills exchanged -/
theorem LyR_B (q : LyR G h hs bl bs cl cs kc mk) : LyR (gS (gS G 100 8 (some bl)) 100 7 (some bs)) h hs bs bl cl cs kc mk := by
  obtain ⟨a1, a2, a3, ⟨ht, a4⟩, ⟨a5, a6⟩, ⟨a7, a8⟩, ⟨a9, a10⟩, ⟨a11, a12⟩, a13, ⟨a14, a15⟩, ⟨a16, a17⟩, a18, ⟨a19, a20⟩, a21, a22, a23, a24, a25, a26, a27, a28, a29⟩ := q
  refine ⟨?_, LayX_m (Sam_S (by omega)) (LayX_m (Sam_S (by omega)) a2), LayP_m (Sam_S (by omega)) (LayP_m (Sam_S (by omega)) a3), ⟨ht, LayP_m (Sam_S (by omega)) (LayP_m (Sam_S (by omega)) a4)⟩, ⟨LayH_m (Sam_S (by omega)) (LayH_m (Sam_S (by omega)) a5), LayH_m (Sam_S (by omega)) (LayH_m (Sam_S (by omega)) a6)⟩, ⟨LayS_m (Sam_S (by omega)) (LayS_m (Sam_S (by omega)) a7), LayS_m (Sam_S (by omega)) (LayS_m (Sam_S (by omega)) a8)⟩, ⟨LayT_m (Sam_S (by omega)) (LayT_m (Sam_S (by omega)) a9), LayT_m (Sam_S (by omega)) (LayT_m (Sam_S (by omega)) a10)⟩, ⟨LayU_m (Sam_S (by omega)) (LayU_m (Sam_S (by omega)) a11), LayU_m (Sam_S (by omega)) (LayU_m (Sam_S (by omega)) a12)⟩, LayD_m (Sam_S (by omega)) (LayD_m (Sam_S (by omega)) a13), ⟨LayW_m (Sam_S (by omega)) (LayW_m (Sam_S (by omega)) a14), LayW_m (Sam_S (by omega)) (LayW_m (Sam_S (by omega)) a15)⟩, ⟨LayW_m (Sam_S (by omega)) (LayW_m (Sam_S (by omega)) a16), LayW_m (Sam_S (by omega)) (LayW_m (Sam_S (by omega)) a17)⟩, LayM_m (Sam_S (by omega)) (LayM_m (Sam_S (by omega)) a18), ⟨a19, a20⟩, a21, a22, ?_, a24, a25, a26, ?_, ?_, a29⟩
  · unfold LayB at a1 ⊢
    simp (disch := decide) only [kS, nS, rS, up_eq, up_ne, up_up]
    obtain ⟨b1, b2, b3, b4, b5, b6, b7, b8, b9, b10, b11⟩ := a1
    exact ⟨b1, b2, b3, b4, b5, b6, b7, trivial, trivial, b10, b11⟩
  · omega
  · intro i hi
    obtain ⟨b1, b2, b3, b4⟩ := a27 i hi
    rw [rS, up_ne (by decide), rS, up_ne (by decide)]
    exact ⟨b1, LayK_m (Sam_S (by omega)) (LayK_m (Sam_S (by omega)) b2), b3, b4⟩
  · intro i hi h4
    rw [rS, up_ne (by decide), rS, up_ne (by decide)]
    exact a28 i hi h4
/-- a text of words, read by both -/
theorem wd_pair (d r : Nat) (lX : LayX G 101) (lW : LayW G 1 b) (lM : LayM G2 219) (hb : b = 199 ∨ b = 203) (he : e ≤ 200) (q1 : TxR B e 0 I) (i7 : I 101 7 = -1) (q2 : RdR B e 0 J) (j8 : J 219 8 = 0) (j37 : J 219 37 = 0) : (∃ I' J' s, mcal mT (d + 27) 1 [.ref b, .ref 101] (G, I, L) = some (.inl (some (.int 1)), (G, I', L)) ∧ (mcV (mcal mT (r + 26) 263 [.ref 219] (G2, J, K)) (fun h4 => gk h4.1 219 13 (mcI (mcal mT (r + 26) 179 [.ref 219] h4) (fun v6 h5 => (if v6 = 0 then f_X12_words (r + 26) 76 [.ref 219, mU, mU] [] h5 else gk h5.1 219 13 (mcI (mcal mT (r + 26) 190 [.ref 219] h5) (fun v8 h7 => (if v8 = 0 then f_X12_words (r + 26) 76 [.ref 219, mU, mU] [] h7 else gk h7.1 219 13 (gk h7.1 219 13 (mcV (mcal mT (r + 26) 180 [.ref 219, .int 1, .int (h7.2.1 219 5)] h7) (fun h9 => f_X12_words (r + 26) 76 [.ref 219, mU, mU] [] h9) mthr)))) mthr))) mthr)) mthr) = f_X12_words (r + 26) 76 [.ref 219, mU, mU] [] (G2, J', K) ∧ BlC b I I' ∧ I' 101 7 = -1 ∧ BlJ J J' ∧ J' 219 6 = -1 ∧ CdR b s I' J' ∧ Sgm (wJ J') 0 s 15 ∧ 0 < s ∧ s ≤ 200) ∨ (∃ I' J' k p, mcal mT (d + 27) 1 [.ref b, .ref 101] (G, I, L) = some (.inl (some (.int 0)), (G, I', L)) ∧ (mcV (mcal mT (r + 26) 263 [.ref 219] (G2, J, K)) (fun h4 => gk h4.1 219 13 (mcI (mcal mT (r + 26) 179 [.ref 219] h4) (fun v6 h5 => (if v6 = 0 then f_X12_words (r + 26) 76 [.ref 219, mU, mU] [] h5 else gk h5.1 219 13 (mcI (mcal mT (r + 26) 190 [.ref 219] h5) (fun v8 h7 => (if v8 = 0 then f_X12_words (r + 26) 76 [.ref 219, mU, mU] [] h7 else gk h7.1 219 13 (gk h7.1 219 13 (mcV (mcal mT (r + 26) 180 [.ref 219, .int 1, .int (h7.2.1 219 5)] h7) (fun h9 => f_X12_words (r + 26) 76 [.ref 219, mU, mU] [] h9) mthr)))) mthr))) mthr)) mthr) = f_X12_words (r + 26) 76 [.ref 219, mU, mU] [] (G2, J', K) ∧ BlC b I I' ∧ BlJ J J' ∧ I' 101 6 = k ∧ I' 101 7 = Int32.ofNat p ∧ J' 219 6 = Int32.ofNat p ∧ J' 219 7 = k ∧ p ≤ 500) := by
  have z1 : ¬ (1 : Int32) = 0 := by decide
  have lC := lW.2.2
  generalize hI1 : va_up I (b + 1) (va_up (I (b + 1)) 1 0) = I1
  have o1 : ∀ x, x ≠ b + 1 → I1 x = I x := fun x hx => by rw [← hI1, up_ne hx]
  have bc1 : BlC b I I1 := ⟨fun x _ h2 _ => o1 x h2, fun k _ => by rw [o1 101 (by omega)], fun k hk => by rw [← hI1, up_eq, up_ne hk]⟩
  have t1 : TxR B e 0 I1 := by
    obtain ⟨x1, x2, x3, x4, x5⟩ := q1
    exact ⟨by rw [o1 101 (by omega)]; exact x1, by rw [o1 101 (by omega)]; exact x2, x3, x4, by rw [o1 102 (by omega)]; exact x5⟩
  have q : PrS B b e 0 (6 - 6) 0 I1 J := ⟨t1, q2, j8, ⟨by rw [← hI1, up_eq, up_eq]; rfl, j37, fun j hj => absurd hj (Nat.not_lt_zero _)⟩, Nat.le_refl _, he, hb, by rw [o1 101 (by omega)]; exact i7⟩
  have ec : ∀ X, mcal mT (d + 26) 2 [.ref b, .ref 101, .int 0] (G, I1, L) = X → mcal mT (d + 27) 1 [.ref b, .ref 101] (G, I, L) = mcI X (fun v3 h2 => (if v3 = 0 then f_X0_readFrom (d + 26) 28 [mU, mU] [] h2 else gk h2.1 101 11 (mcI (mcal mT (d + 26) 90 [.ref 101] h2) (fun v5 h4 => (if v5 = 0 then f_X0_readFrom (d + 26) 28 [mU, mU] [] h4 else f_X0_readFrom (d + 26) 29 [mU, mU] [.int 1] h4)) mthr))) mthr := by
    intro X hX
    rw [q_X0_readFrom_, e_X0_readFrom_0]
    simp only [↓vW lW, ↓vC lC, up2_e, hI1, hX]
  rcases sum_all (L := L) (K := K) lX lW lM 6 (Nat.le_refl _) d r I1 J 0 0 q with ⟨I2, J2, a2, s2, x1, x2, x3, x4, x5, x6, x7, x8, x9, x10, x11, x12⟩ | ⟨I2, J2, k2, p2, x1, x2, x3, x4, x5, x6, x7, x8, x9⟩
  · have x1' : mcal mT (d + 26) 2 [.ref b, .ref 101, .int 0] (G, I1, L) = some (.inl (some (.int 1)), (G, I2, L)) := x1
    have x2' : mcal mT (r + 26) 263 [.ref 219] (G2, J, K) = some (.inl none, (G2, J2, K)) := x2
    obtain ⟨y1, y2, y3, y4, y5, y6, y7, y8⟩ := id x3
    have bb := skb_b (B := B) (e := e) (a := a2) y1.2.2.1
    have fi := r_fine (r + 25) (K := K) lM y2.2.2.2.2.1
    obtain ⟨J3, m1, m2, m3, m4⟩ := rk_more (r + 24) (K := K) lM y2
    rcases tk_mustEnd (d + 23) (L := L) lX y1 with ⟨n1, I3, c1, c2, c3⟩ | ⟨n1, I3, c1, c2, c3, c4⟩
    · rw [if_neg n1] at m1
      refine Or.inl ⟨I3, J3, s2, ?_, ?_, BlC_t bc1 (BlC_t x4 (BlC_x hb c2)), by rw [c3 7 (by decide)]; exact y8, BlJ_t x5 (BlJ_x m2), m3.2.2.2.2.1, CdR_x hb c2 m2 y4, Sgm_c x12 (wJ_s (SaR_x m2)) (Nat.zero_le _) (Nat.le_refl _), x11, by omega⟩
      · rw [ec _ x1', mcI_v]
        simp only [if_neg z1, ↓vX lX, ↓mcI_of c1, e_X0_readFrom_29, mb1]
      · rw [x2', mcV_v]
        simp only [↓vM lM, ↓mcI_of fi, if_neg z1, ↓mcI_of m1, if_true]
    · rw [if_pos n1] at m1
      have j5 : J3 219 5 = Int32.ofNat (skb B e a2) := m3.2.1
      have w := r_wrong (r + 25) (K := K) 1 (Int32.ofNat (skb B e a2)) lM m3.2.2.2.2.1
      have o3 := RdO_u (k := 6) (v := Int32.ofNat (skb B e a2)) m2 (by omega)
      have o4 := RdO_u (k := 7) (v := 1) o3 (by omega)
      rw [up_eq, up_up] at o4
      refine Or.inr ⟨I3, _, 1, skb B e a2, ?_, ?_, BlC_t bc1 (BlC_t x4 (BlC_x hb c2)), BlJ_t x5 (BlJ_x o4), c3, c4, by rw [up_eq, up_ne (by decide), up_eq], by rw [up_eq, up_eq], by omega⟩
      · rw [ec _ x1', mcI_v]
        simp only [if_neg z1, ↓vX lX, ↓mcI_of c1, if_true, e_X0_readFrom_28, e_X0_readFrom_29, mb0]
      · rw [x2', mcV_v]
        simp only [↓vM lM, ↓mcI_of fi, if_neg z1, ↓mcI_of m1, j5, ↓mcV_of w]
  · have x1' : mcal mT (d + 26) 2 [.ref b, .ref 101, .int 0] (G, I1, L) = some (.inl (some (.int 0)), (G, I2, L)) := x1
    have x2' : mcal mT (r + 26) 263 [.ref 219] (G2, J, K) = some (.inl none, (G2, J2, K)) := x2
    have nf : ¬ J2 219 6 = -1 := by rw [x5]; exact nm1 (by omega)
    have fi := r_fineN (r + 25) (K := K) lM nf
    refine Or.inr ⟨I2, J2, k2, p2, ?_, ?_, BlC_t bc1 x8, x9, x3, x4, x5, x6, x7⟩
    · rw [ec _ x1', mcI_v]
      simp only [if_true, e_X0_readFrom_28, e_X0_readFrom_29, mb0]
    · rw [x2', mcV_v]
      simp only [↓vM lM, ↓mcI_of fi, if_true]
end
