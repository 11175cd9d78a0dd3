/-! trials: begin and end, in class and reference -/
section
variable {G : mG} {I J : Nat → Nat → Int32} {L K : Nat → Nat → Int64} {h hs bl bs cl cs n nr kc : Nat} {mk : Nat → Nat}
def rKp (J : Nat → Nat → Int32) : Nat → Nat → Int32 := va_up (va_up J 219 (va_up (J 219) 24 1)) 224 (pre 173 (J 223) (J 224))
theorem r_keep (d : Nat) (lM : LayM G 219) : mcal mT (d + 1) 202 [.ref 219] (G, J, K) = some (.inl none, (G, rKp J, va_up K 226 (pre 16 (K 225) (K 226)))) := by
  simp only [q_X12_keep_, e_X12_keep_0, ↓vM lM, mb1, up2_e]
  have A := loopy (fun i (q : Nat → Int32) => f_X12_keep d 7 [.ref 219, .int i] [] (G, va_up (va_up J 219 (va_up (J 219) 24 1)) 224 q, K)) (fun k => pre k (J 223) (J 224)) 173 (J 224) pre_0 (by
    intro k hk
    try dsimp only
    rw [e_X12_keep_7, if_neg (show ¬ (173 : Int32) ≤ Int32.ofNat k from i_ng (a := 173) hk (by decide))]
    simp (disch := omega) only [↓vM lM, up_ne, up_eq, up2_e, up_up, i_one]
    rw [pre_s rfl])
  try dsimp only at A
  rw [up_same (show va_up J 219 (va_up (J 219) 24 1) 224 = J 224 from up_ne (by decide))] at A
  rw [A, e_X12_keep_7, if_pos (by decide), e_X12_keep_32]
  have B := loopy (fun i (q : Nat → Int64) => f_X12_keep d 34 [.ref 219, .int i] [] (G, rKp J, va_up K 226 q)) (fun k => pre k (K 225) (K 226)) 16 (K 226) pre_0 (by
    intro k hk
    try dsimp only
    rw [e_X12_keep_34, if_neg (show ¬ (16 : Int32) ≤ Int32.ofNat k from i_ng (a := 16) hk (by decide))]
    simp (disch := omega) only [↓vM lM, up_ne, up_eq, up2_e, up_up, i_one]
    rw [pre_s rfl])
  try dsimp only at B
  rw [up_id] at B
  refine Eq.trans B ?_
  rw [e_X12_keep_34, if_pos (by decide), e_X12_keep_58]
theorem r_give (d : Nat) (lM : LayM G 219) : mcal mT (d + 1) 203 [.ref 219] (G, J, K) = some (.inl none, (G, va_up J 223 (pre 173 (J 224) (J 223)), va_up K 225 (pre 16 (K 226) (K 225)))) := by
  simp only [q_X12_give_, e_X12_give_0]
  have A := loopy (fun i (q : Nat → Int32) => f_X12_give d 2 [.ref 219, .int i] [] (G, va_up J 223 q, K)) (fun k => pre k (J 224) (J 223)) 173 (J 223) pre_0 (by
    intro k hk
    try dsimp only
    rw [e_X12_give_2, if_neg (show ¬ (173 : Int32) ≤ Int32.ofNat k from i_ng (a := 173) hk (by decide))]
    simp (disch := omega) only [↓vM lM, up_ne, up_eq, up2_e, up_up, i_one]
    rw [pre_s rfl])
  try dsimp only at A
  rw [up_id] at A
  rw [A, e_X12_give_2, if_pos (by decide), e_X12_give_27]
  have B := loopy (fun i (q : Nat → Int64) => f_X12_give d 29 [.ref 219, .int i] [] (G, va_up J 223 (pre 173 (J 224) (J 223)), va_up K 225 q)) (fun k => pre k (K 226) (K 225)) 16 (K 225) pre_0 (by
    intro k hk
    try dsimp only
    rw [e_X12_give_29, if_neg (show ¬ (16 : Int32) ≤ Int32.ofNat k from i_ng (a := 16) hk (by decide))]
    simp (disch := omega) only [↓vM lM, up_ne, up_eq, up2_e, up_up, i_one]
    rw [pre_s rfl])
  try dsimp only at B
  rw [up_id] at B
  refine Eq.trans B ?_
  rw [e_X12_give_29, if_pos (by decide), e_X12_give_53]
theorem r_ends (d : Nat) (lM : LayM G 219) : mcal mT (d + 2) 204 [.ref 219] (G, J, K) = some (.inl none, (G, va_up (va_up J 223 (pre 173 (J 224) (J 223))) 219 (va_up (J 219) 24 0), va_up K 225 (pre 16 (K 226) (K 225)))) := by
  simp (disch := omega) only [q_X12_ends_, e_X12_ends_0, ↓vM lM, ↓mcV_of (r_give d lM), mb0, up2_e, up_ne]
/-- the reference's row when a trial begins anew -/
def rbg (H S : Nat → Int32) (n : Nat) : Nat → Int32 := va_up (va_up (isg 40 4 (fun _ => 0) (isg 16 8 (fun _ => 0) (isg 8 8 (fun k => if k < n then (if H (144 + k) = 0 then 16 else 0) else 0) (isg 32 8 (fun _ => 0) (pre 8 (fun k => H (8 + k)) S))))) 71 0) 73 0
theorem r_begins (d : Nat) (lM : LayM G 219) (hn : J 220 164 = Int32.ofNat n) (hn8 : n ≤ 8) : mcal mT (d + 2) 205 [.ref 219] (G, J, K) = some (.inl none, (G, va_up J 223 (rbg (J 220) (J 223) n), va_up K 225 (pre 8 (fun _ => 0) (K 225)))) := by
  simp only [q_X12_begins_, e_X12_begins_0]
  have A := loopy (fun i (q : Nat → Int32) => f_X12_begins (d + 1) 2 [.ref 219, .int i] [] (G, va_up J 223 q, K)) (fun k => isg 32 k (fun _ => 0) (pre k (fun k => J 220 (8 + k)) (J 223))) 8 (J 223) (by rw [seg_0, pre_0]) (by
    intro k hk
    try dsimp only
    rw [e_X12_begins_2, if_neg (show ¬ (8 : Int32) ≤ Int32.ofNat k from i_ng (a := 8) hk (by decide))]
    simp (disch := omega) only [↓vM lM, ixA, ixZ, up_ne, up_eq, up2_e, up_up, i_one]
    rw [seg_up (by omega), pre_s rfl, seg_s rfl])
  try dsimp only at A
  rw [up_id] at A
  rw [A, e_X12_begins_2, if_pos (by decide), e_X12_begins_41]
  generalize hS1 : isg 32 8 (fun _ => 0) (pre 8 (fun k => J 220 (8 + k)) (J 223)) = S1
  have B := loopy (fun i (q : (Nat → Int32) × (Nat → Int64)) => f_X12_begins (d + 1) 43 [.ref 219, .int i] [] (G, va_up J 223 q.1, va_up K 225 q.2)) (fun k => (isg 16 k (fun _ => 0) (isg 8 k (fun k => if k < n then (if J 220 (144 + k) = 0 then 16 else 0) else 0) S1), pre k (fun _ => 0) (K 225))) 8 (S1, K 225) (by rw [seg_0, seg_0, pre_0]) (by
    intro k hk
    try dsimp only
    have t84 : ∀ v : Int32, v = (if k < n then (if J 220 (144 + k) = 0 then 16 else 0) else 0) → f_X12_begins (d + 1) 84 [.ref 219, .int (Int32.ofNat k)] [.int v, .int (Int32.ofNat (8 + k)), .ref 223] (G, va_up J 223 (isg 16 k (fun _ => 0) (isg 8 k (fun k => if k < n then (if J 220 (144 + k) = 0 then 16 else 0) else 0) S1)), va_up K 225 (pre k (fun _ => 0) (K 225))) = f_X12_begins (d + 1) 43 [.ref 219, .int (Int32.ofNat (k + 1))] [] (G, va_up J 223 (isg 16 (k + 1) (fun _ => 0) (isg 8 (k + 1) (fun k => if k < n then (if J 220 (144 + k) = 0 then 16 else 0) else 0) S1)), va_up K 225 (pre (k + 1) (fun _ => 0) (K 225))) := by
      intro v hv
      rw [e_X12_begins_84]
      simp (disch := omega) only [↓vM lM, ixA, ixZ, up_ne, up_eq, up2_e, up_up, i_one]
      rw [seg_up (by omega), seg_s (o := 8) (k := k) hv, seg_s rfl, pre_s rfl]
    rw [e_X12_begins_43, if_neg (show ¬ (8 : Int32) ≤ Int32.ofNat k from i_ng (a := 8) hk (by decide))]
    by_cases c : k < n
    · by_cases c2 : J 220 (144 + k) = 0
      · simp (disch := omega) only [↓vM lM, ↓mcI_of (r_radiators d lM), up_ne, hn, if_neg (i_ng c (by omega)), ixA, if_pos c2]
        exact t84 16 (by rw [if_pos c, if_pos c2])
      · simp (disch := omega) only [↓vM lM, ↓mcI_of (r_radiators d lM), up_ne, hn, if_neg (i_ng c (by omega)), ixA, if_neg c2, e_X12_begins_83]
        exact t84 0 (by rw [if_pos c, if_neg c2])
    · have c3 : Int32.ofNat n ≤ Int32.ofNat k := (i_le (by omega) (by omega)).mpr (by omega)
      simp (disch := omega) only [↓vM lM, ↓mcI_of (r_radiators d lM), up_ne, hn, if_pos c3, ixA, e_X12_begins_83]
      exact t84 0 (by rw [if_neg c]))
  try dsimp only at B
  rw [up_id] at B
  refine Eq.trans B ?_
  rw [e_X12_begins_43, if_pos (by decide), e_X12_begins_110]
  generalize hS2 : isg 16 8 (fun _ => 0) (isg 8 8 (fun k => if k < n then (if J 220 (144 + k) = 0 then 16 else 0) else 0) S1) = S2
  have C := loopy (fun i (q : Nat → Int32) => f_X12_begins (d + 1) 112 [.ref 219, .int i] [] (G, va_up J 223 q, va_up K 225 (pre 8 (fun _ => 0) (K 225)))) (fun k => isg 40 k (fun _ => 0) S2) 4 S2 seg_0 (by
    intro k hk
    try dsimp only
    rw [e_X12_begins_112, if_neg (show ¬ (4 : Int32) ≤ Int32.ofNat k from i_ng (a := 4) hk (by decide))]
    simp (disch := omega) only [↓vM lM, ixA, up_eq, up2_e, up_up, i_one]
    rw [seg_s rfl])
  try dsimp only at C
  refine Eq.trans C ?_
  rw [e_X12_begins_112, if_pos (by decide), e_X12_begins_133]
  simp (disch := omega) only [↓vM lM, up_eq, up2_e, up_up]
  unfold rbg
  rw [hS1, hS2]
/-- the trial's house is the real one -/
theorem LyR_T (q : LyR G h hs bl bs cl cs kc mk) (v : Nat) : LyR (gS G 156 0 (some v)) h hs bl bs cl cs kc mk ∧ LayP (gS G 156 0 (some v)) 156 v 171 178 192 := by
  obtain ⟨a1, a2, a3, ⟨ht, a4⟩, ⟨a5, a6⟩, ⟨a7, a8⟩, ⟨a9, a10⟩, ⟨a11, a12⟩, a13, ⟨a14, a15⟩, ⟨a16, a17⟩, a18, ⟨a19, a20⟩, a21, a22, a23, a24, a25, a26, a27, a28, a29⟩ := q
  have p : LayP (gS G 156 0 (some v)) 156 v 171 178 192 := by
    obtain ⟨b1, b2, b3, b4, b5⟩ := a4
    refine ⟨b1, ?_, ?_, ?_, ?_⟩
    · rw [rS, up_eq, up_eq]
    · rw [rS, up_eq, up_ne (by decide)]; exact b3
    · rw [rS, up_eq, up_ne (by decide)]; exact b4
    · rw [rS, up_eq, up_ne (by decide)]; exact b5
  refine ⟨⟨?_, LayX_m (Sam_S (by omega)) a2, LayP_m (Sam_S (by omega)) a3, ⟨v, p⟩, ⟨LayH_m (Sam_S (by omega)) a5, LayH_m (Sam_S (by omega)) a6⟩, ⟨LayS_m (Sam_S (by omega)) a7, LayS_m (Sam_S (by omega)) a8⟩, ⟨LayT_m (Sam_S (by omega)) a9, LayT_m (Sam_S (by omega)) a10⟩, ⟨LayU_m (Sam_S (by omega)) a11, LayU_m (Sam_S (by omega)) a12⟩, LayD_m (Sam_S (by omega)) a13, ⟨LayW_m (Sam_S (by omega)) a14, LayW_m (Sam_S (by omega)) a15⟩, ⟨LayW_m (Sam_S (by omega)) a16, LayW_m (Sam_S (by omega)) a17⟩, LayM_m (Sam_S (by omega)) a18, ⟨a19, a20⟩, a21, a22, a23, a24, a25, a26, ?_, ?_, a29⟩, p⟩
  · unfold LayB at a1 ⊢
    simp (disch := omega) only [kS, nS, rS, up_ne]
    exact a1
  · intro i hi
    obtain ⟨b1, b2, b3, b4⟩ := a27 i hi
    rw [rS, up_ne (by decide)]
    exact ⟨b1, LayK_m (Sam_S (by omega)) b2, b3, b4⟩
  · intro i hi h4
    rw [rS, up_ne (by decide)]
    exact a28 i hi h4
def tNw (I : Nat → Nat → Int32) (h : Nat) : Nat → Nat → Int32 := tpB (cpT (cpS I 171 132) 178 139) 192 h
def tBg (I : Nat → Nat → Int32) (h n : Nat) : Nat → Nat → Int32 := tpB (stB (cpS I 171 132) 178 h n) 192 h
theorem c_tryNow (d : Nat) (q : LyR G h hs bl bs cl cs kc mk) : mcal mT (d + 2) 148 [.ref 100] (G, I, L) = some (.inl none, (gS G 156 0 (some h), tNw I h, cpr L (139 + 9) (178 + 9) 8)) := by
  obtain ⟨q2, p2⟩ := LyR_T q h
  obtain ⟨lB, -, lP, ⟨ht, lPt⟩, -, -, -, -, -, -, -, -, -, -, hh, -⟩ := id q
  obtain ⟨lB2, -, lP2, -, ⟨lH1, lH2⟩, ⟨lS, lS2⟩, ⟨lT, lT2⟩, ⟨lU, lU2⟩, -⟩ := id q2
  have lH : LayH (gS G 156 0 (some h)) h := by
    rcases hh with ⟨a, -⟩ | ⟨a, -⟩
    · rw [a] at lH1 ⊢; exact lH1
    · rw [a] at lH2 ⊢; exact lH2
  have a1 := c_setCopy d (I := I) (L := L) lS2 lS
  have a2 := c_stCopy d (I := cpS I 171 132) (L := L) lT2 lT
  have a3 := c_tapBegin d (I := cpT (cpS I 171 132) 178 139) (L := cpr L (139 + 9) (178 + 9) 8) lU2 lH
  simp only [q_X11_tryFromNow_, e_X11_tryFromNow_0, ↓vB lB, ↓vP lP, ↓vP lPt, ↓vB lB2, ↓vP lP2, ↓vP p2, ↓vS lS2, ↓mcV_of a1, ↓vT lT2, ↓mcV_of a2, ↓vU lU2, ↓mcV_of a3]
  rfl
theorem c_tryBeg (d : Nat) (q : LyR G h hs bl bs cl cs kc mk) (hn : I h 10 = Int32.ofNat n) (hn8 : n ≤ 8) : mcal mT (d + 3) 147 [.ref 100] (G, I, L) = some (.inl none, (gS G 156 0 (some h), tBg I h n, fil L (178 + 9) 8 0)) := by
  obtain ⟨q2, p2⟩ := LyR_T q h
  obtain ⟨lB, -, lP, ⟨ht, lPt⟩, -, -, -, -, -, -, -, -, -, -, hh, -⟩ := id q
  obtain ⟨lB2, -, lP2, -, ⟨lH1, lH2⟩, ⟨lS, lS2⟩, ⟨lT, lT2⟩, ⟨lU, lU2⟩, -⟩ := id q2
  have lH : LayH (gS G 156 0 (some h)) h := by
    rcases hh with ⟨a, -⟩ | ⟨a, -⟩
    · rw [a] at lH1 ⊢; exact lH1
    · rw [a] at lH2 ⊢; exact lH2
  have a1 := c_setCopy (d + 1) (I := I) (L := L) lS2 lS
  have a2 := c_stBegin d (I := cpS I 171 132) (L := L) (n := n) lT2 lH (by omega) (by rw [cpS_fr (by omega)]; exact hn) hn8
  have a3 := c_tapBegin (d + 1) (I := stB (cpS I 171 132) 178 h n) (L := fil L (178 + 9) 8 0) lU2 lH
  simp only [q_X11_tryFromBeginning_, e_X11_tryFromBeginning_0, ↓vB lB, ↓vP lP, ↓vP lPt, ↓vB lB2, ↓vP lP2, ↓vP p2, ↓vS lS2, ↓mcV_of a1, ↓vT lT2, ↓mcV_of a2, ↓vU lU2, ↓mcV_of a3]
  rfl
end
