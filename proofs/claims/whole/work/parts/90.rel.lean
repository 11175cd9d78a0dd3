/-! the relation between class and reference -/
def HoR (I : Nat → Nat → Int32) (h nr n : Nat) (rm pi : Nat → Nat) : Prop :=
  (nr = 0 ∧ n = 0 ∧ I h 0 = 0 ∧ I h 1 = 0 ∧ I h 10 = 0 ∧ I h 16 = 100 ∧ I h 17 = 9999 ∧ I h 18 = 600 ∧ I 220 163 = 0 ∧ I 220 164 = 0 ∧ I 220 165 = 0) ∨
  (0 < nr ∧ HsR I I h 219 nr n rm pi ∧ I h 0 = I 220 165 ∧ I h 16 = I 220 160 ∧ irng (I 220 160) 1 999 ∧ (∀ r, r < nr → I (h + 2) r = I 220 (8 + r) ∧ irng (I 220 (8 + r)) 0 4000) ∧ (∀ k, k < n → irng (I 220 (144 + k)) 0 3))
def TpR (I : Nat → Nat → Int32) (ta : Nat) : Prop := I 101 1 = Int32.ofNat ta ∧ I 219 3 = Int32.ofNat ta ∧ ta ≤ 500 ∧ (∀ j, j < ta → I 102 j = I 222 j ∧ irng (I 222 j) 0 255) ∧ I 101 7 = I 219 9
def EgR (I : Nat → Nat → Int32) : Prop := (∀ k, k < 8 → I 215 k = I 230 k ∧ irng (I 230 k) (-50) 50) ∧ (∀ k, k < 40 → I 217 k = I 240 k ∧ irng (I 240 k) (-1) 999)
def LgR (I : Nat → Nat → Int32) (lc nr : Nat) : Prop := (I 100 15 = Int32.ofNat lc ∧ I 219 28 = Int32.ofNat lc ∧ lc ≤ 20) ∧
  (∀ j, j < lc → ∃ mi ro, 1 ≤ mi ∧ mi ≤ 240 ∧ ro < nr ∧ I 231 j = Int32.ofNat mi ∧ I 232 j = Int32.ofNat ro ∧ irng (I 233 j) (-9999) 9999) ∧
  (∀ i, i < lc → ∃ j, j < lc ∧ I 218 (3 * i) = I 231 j ∧ I 218 (3 * i + 1) = I 232 j ∧ I 218 (3 * i + 2) = I 233 j) ∧
  (∀ j, j < lc → ∃ i, i < lc ∧ I 218 (3 * i) = I 231 j ∧ I 218 (3 * i + 1) = I 232 j ∧ I 218 (3 * i + 2) = I 233 j) ∧
  (∀ i, i + 1 < lc → I 218 (3 * i) ≤ I 218 (3 * (i + 1)))
/-- how high the stack stands after j codes -/
def hgt (W : Nat → Nat) : Nat → Nat
  | 0 => 0
  | j + 1 => if W j ≤ 5 then hgt W j + 1 else hgt W j - 1
def BiR (I : Nat → Nat → Int32) (b : Nat) : Prop := ∃ c W, I (b + 1) 1 = Int32.ofNat c ∧ I 219 36 = Int32.ofNat c ∧ c ≤ 200 ∧ (∀ j, j < c → I 235 j = Int32.ofNat (W j) ∧ W j ≤ 9 ∧ irng (I 236 j) 0 9999 ∧ I (b + 2) j = (if W j = 0 then I 236 j else -Int32.ofNat (W j))) ∧ (∀ j, j < c → (W j ≤ 5 → hgt W j < 15) ∧ (¬ W j ≤ 5 → 2 ≤ hgt W j)) ∧ (c = 0 ∨ hgt W c = 1)
/-- where the j-th saying stands in the class's row -/
def pos (W : Nat → Nat) : Nat → Nat
  | 0 => 0
  | j + 1 => if W j ≤ 3 then pos W j + 5 else pos W j + 1
def hgc (W : Nat → Nat) : Nat → Nat
  | 0 => 0
  | j + 1 => if W j ≤ 3 then hgc W j + 1 else if W j = 6 then hgc W j else hgc W j - 1
def ClR (I : Nat → Nat → Int32) (b : Nat) : Prop := ∃ c W, I (b + 1) 1 = Int32.ofNat (pos W c) ∧ I 219 44 = Int32.ofNat c ∧ c ≤ 110 ∧ pos W c ≤ 200 ∧
  (∀ j, j < c → I 241 j = Int32.ofNat (W j) ∧ W j ≤ 6 ∧ (W j ≤ 3 → I (b + 2) (pos W j) = Int32.ofNat (W j) ∧ ∃ r q f t, r ≤ 7 ∧ q ≤ 400 ∧ f ≤ t ∧ t ≤ 47 ∧ I 242 (4 * j) = Int32.ofNat r ∧ I 242 (4 * j + 1) = Int32.ofNat q ∧ I 242 (4 * j + 2) = Int32.ofNat f ∧ I 242 (4 * j + 3) = Int32.ofNat t ∧ I (b + 2) (pos W j + 1) = Int32.ofNat r ∧ I (b + 2) (pos W j + 2) = Int32.ofNat q ∧ I (b + 2) (pos W j + 3) = Int32.ofNat f ∧ I (b + 2) (pos W j + 4) = Int32.ofNat t) ∧ (W j = 4 → I (b + 2) (pos W j) = 5) ∧ (W j = 5 → I (b + 2) (pos W j) = 6) ∧ (W j = 6 → I (b + 2) (pos W j) = 4)) ∧
  (∀ j, j < c → (W j ≤ 3 → hgc W j < 15) ∧ (W j = 4 ∨ W j = 5 → 2 ≤ hgc W j) ∧ (W j = 6 → 1 ≤ hgc W j)) ∧ (c = 0 ∨ hgc W c = 1)
def MkR (I : Nat → Nat → Int32) (L : Nat → Nat → Int64) (z nr n mc : Nat) (mk : Nat → Nat) : Prop := I 100 6 = Int32.ofNat mc ∧ I 219 51 = Int32.ofNat mc ∧
  (∀ i, i < mc → ∃ nh M hN w, SeR I (mk i + 1) (fun j => I 246 (173 * i + j)) n nh ∧ StR I L (mk i + 8) (I 220) (fun j => I 246 (173 * i + j)) (fun j => L 250 (16 * i + j)) nr n M ∧ DiR I (mk i + 22) (fun j => I 247 (2688 * i + j)) (fun j => I 248 (56 * i + j)) hN w nr M ∧ I 249 i = Int32.ofNat hN ∧ M ≤ 999 * z)
def Rel (z h hs bl bs cl cs nr n nh M hN w lc mc kc ta : Nat) (rm pi mk : Nat → Nat) (G : mG) (I : Nat → Nat → Int32) (L : Nat → Nat → Int64) : Prop :=
  LyR G h hs bl bs cl cs kc mk ∧ HoR I h nr n rm pi ∧ (FlR I 219 ∧ I 219 23 = Int32.ofNat hN) ∧ SeR I 132 (I 223) n nh ∧ (StR I L 139 (I 220) (I 223) (L 225) nr n M ∧ M ≤ 999 * z) ∧ TaR I 153 (I 220) n rm ∧ DiR I 195 (I 228) (I 229) hN w nr M ∧ TpR I ta ∧ EgR I ∧ LgR I lc nr ∧ BiR I bl ∧ ClR I cl ∧ (MkR I L z nr n mc mk ∧ mc ≤ kc) ∧ z ≤ 512
theorem ho_sz {I : Nat → Nat → Int32} {h nr n : Nat} {rm pi : Nat → Nat} (q : HoR I h nr n rm pi) : I h 1 = Int32.ofNat nr ∧ I 220 163 = Int32.ofNat nr ∧ nr ≤ 8 ∧ I h 10 = Int32.ofNat n ∧ I 220 164 = Int32.ofNat n ∧ n ≤ 8 := by
  rcases q with ⟨a, b, c1, c2, c3, c4, c5, c6, c7, c8, c9⟩ | ⟨-, hH, -⟩
  · rw [a, b]
    exact ⟨c2, c7, by decide, c3, c8, by decide⟩
  · exact hH.1
section
variable {I I' J J' : Nat → Nat → Int32} {L L' : Nat → Nat → Int64} {H H' sv sv' dv dv' pv pv' : Nat → Int32} {lv lv' : Nat → Int64} {z z' h s t u e b nr n nh M hN w lc mc ta m : Nat} {rm pi mk : Nat → Nat}
theorem HoR_c (q : HoR I h nr n rm pi) (hI : ∀ a, h ≤ a → a < h + 14 → I' a = I a) (h2 : I' 220 = I 220) : HoR I' h nr n rm pi := by
  rcases q with ⟨a, b, r⟩ | ⟨a, b, r⟩
  · left
    rw [hI h (by omega) (by omega), h2]
    exact ⟨a, b, r⟩
  · right
    rw [hI h (by omega) (by omega), hI (h + 2) (by omega) (by omega), h2]
    exact ⟨a, HsR_c hI h2 b, r⟩
theorem FlR_c (q : FlR J m) (hJ : ∀ k, 15 ≤ k → k ≤ 24 → k ≠ 17 → k ≠ 19 → J' m k = J m k) : FlR J' m := by
  unfold FlR at q ⊢
  rw [hJ 15 (by decide) (by decide) (by decide) (by decide), hJ 16 (by decide) (by decide) (by decide) (by decide), hJ 18 (by decide) (by decide) (by decide) (by decide), hJ 20 (by decide) (by decide) (by decide) (by decide), hJ 21 (by decide) (by decide) (by decide) (by decide), hJ 24 (by decide) (by decide) (by decide) (by decide)]
  exact q
theorem SeR_c (q : SeR I s sv n nh) (hn8 : n ≤ 8) (hI : ∀ a, s ≤ a → a < s + 7 → I' a = I a) (hs : ∀ j, (24 ≤ j ∧ j < 32) ∨ (44 ≤ j ∧ j < 71) ∨ (130 ≤ j ∧ j < 168) → sv' j = sv j) : SeR I' s sv' n nh := by
  obtain ⟨a1, a2, a3, a4, a5, a6, a7⟩ := q
  have nh4 := a6.2.2
  unfold SeR
  rw [hI s (by omega) (by omega), hI (s + 1) (by omega) (by omega), hI (s + 2) (by omega) (by omega), hI (s + 3) (by omega) (by omega), hI (s + 4) (by omega) (by omega), hI (s + 5) (by omega) (by omega), hI (s + 6) (by omega) (by omega), hs 167 (by omega), hs 68 (by omega), hs 69 (by omega), hs 70 (by omega), hs 154 (by omega)]
  refine ⟨fun k hk => ?_, a2, fun k hk => ?_, fun k hk => ?_, a5, a6, fun k hk => ?_⟩
  · rw [hs _ (by omega)]; exact a1 k hk
  · rw [hs _ (by omega)]; exact a3 k hk
  · rw [hs _ (by omega)]; exact a4 k hk
  · rw [hs _ (by omega), hs _ (by omega), hs _ (by omega)]; exact a7 k hk
theorem StR_c (q : StR I L t H sv lv nr n M) (hn8 : n ≤ 8) (hnr8 : nr ≤ 8) (hI : ∀ a, t ≤ a → a < t + 14 → I' a = I a) (hL : L' (t + 9) = L (t + 9)) (hH : H' = H) (hs : ∀ j, j < 24 ∨ (32 ≤ j ∧ j < 44) ∨ (71 ≤ j ∧ j < 130) ∨ (168 ≤ j ∧ j < 173) → sv' j = sv j) (hl : ∀ j, j < 16 → lv' j = lv j) : StR I' L' t H' sv' lv' nr n M := by
  obtain ⟨a1, a2, a3, a4, a5, a6, a7, a8, a9⟩ := q
  unfold StR
  rw [hH, hL, hI t (by omega) (by omega), hI (t + 1) (by omega) (by omega), hI (t + 2) (by omega) (by omega), hI (t + 3) (by omega) (by omega), hI (t + 4) (by omega) (by omega), hI (t + 5) (by omega) (by omega), hI (t + 6) (by omega) (by omega), hI (t + 7) (by omega) (by omega), hI (t + 8) (by omega) (by omega), hI (t + 10) (by omega) (by omega), hI (t + 11) (by omega) (by omega), hI (t + 12) (by omega) (by omega), hI (t + 13) (by omega) (by omega), hs 71 (by omega), hs 72 (by omega), hs 73 (by omega), hs 172 (by omega)]
  refine ⟨a1, fun k hk => ?_, ⟨a3.1, fun k hk => ?_⟩, ⟨a4.1, fun k hk => ?_⟩, a5, fun k hk => ?_, fun k hk => ?_, fun k hk => ?_, fun k hk => ?_⟩
  · rw [hs _ (by omega)]; exact a2 k hk
  · rw [hs _ (by omega)]; exact a3.2 k hk
  · rw [hs _ (by omega)]; exact a4.2 k hk
  · rw [hs _ (by omega), hs _ (by omega), hs _ (by omega), hs _ (by omega), hs _ (by omega)]; exact a6 k hk
  · rw [hs (8 + k) (by omega), hs (16 + k) (by omega), hs (114 + k) (by omega), hs (122 + k) (by omega)]; exact a7 k hk
  · rw [hl _ (by omega), hl _ (by omega)]; exact a8 k hk
  · rw [hs _ (by omega)]; exact a9 k hk
theorem TaR_c (q : TaR I u H n rm) (hI : ∀ a, u ≤ a → a < u + 3 → I' a = I a) (hH : H' = H) : TaR I' u H' n rm := by
  unfold TaR at q ⊢
  rw [hH, hI u (by omega) (by omega), hI (u + 1) (by omega) (by omega), hI (u + 2) (by omega) (by omega)]
  exact q
theorem DiR_c (q : DiR I e dv pv hN w nr M) (hnr8 : nr ≤ 8) (hI : ∀ a, e ≤ a → a < e + 3 → I' a = I a) (hd : ∀ j, j < 2688 → dv' j = dv j) (hp : ∀ j, j < 56 → pv' j = pv j) : DiR I' e dv' pv' hN w nr M := by
  obtain ⟨a1, a2, a3, a4⟩ := q
  unfold DiR
  rw [hI e (by omega) (by omega), hI (e + 1) (by omega) (by omega), hI (e + 2) (by omega) (by omega)]
  refine ⟨a1, fun b j hb hj => ?_, fun q j hj => ?_, fun q j hj => ?_⟩
  · rw [hd _ (by have := a1.2.1; omega)]; exact a2 b j hb hj
  · rw [hp _ (by omega)]; exact a3 q j hj
  · rw [hp _ (by omega)]; exact a4 q j hj
theorem TpR_c (q : TpR I ta) (h1 : I' 101 1 = I 101 1) (h2 : I' 101 7 = I 101 7) (h3 : I' 102 = I 102) (h4 : I' 219 3 = I 219 3) (h5 : I' 219 9 = I 219 9) (h6 : I' 222 = I 222) : TpR I' ta := by
  unfold TpR at q ⊢
  rw [h1, h2, h3, h4, h5, h6]
  exact q
theorem EgR_c (q : EgR I) (h1 : I' 215 = I 215) (h2 : I' 217 = I 217) (h3 : I' 230 = I 230) (h4 : I' 240 = I 240) : EgR I' := by
  unfold EgR at q ⊢
  rw [h1, h2, h3, h4]
  exact q
theorem LgR_c (q : LgR I lc nr) (h1 : I' 100 15 = I 100 15) (h2 : I' 219 28 = I 219 28) (h3 : I' 218 = I 218) (h4 : I' 231 = I 231) (h5 : I' 232 = I 232) (h6 : I' 233 = I 233) : LgR I' lc nr := by
  unfold LgR at q ⊢
  rw [h1, h2, h3, h4, h5, h6]
  exact q
theorem BiR_c (q : BiR I b) (h1 : I' (b + 1) 1 = I (b + 1) 1) (h2 : I' 219 36 = I 219 36) (h3 : I' (b + 2) = I (b + 2)) (h4 : I' 235 = I 235) (h5 : I' 236 = I 236) : BiR I' b := by
  unfold BiR at q ⊢
  rw [h1, h2, h3, h4, h5]
  exact q
theorem ClR_c (q : ClR I b) (h1 : I' (b + 1) 1 = I (b + 1) 1) (h2 : I' 219 44 = I 219 44) (h3 : I' (b + 2) = I (b + 2)) (h4 : I' 241 = I 241) (h5 : I' 242 = I 242) : ClR I' b := by
  unfold ClR at q ⊢
  rw [h1, h2, h3, h4, h5]
  exact q
theorem MkR_c (q : MkR I L z nr n mc mk) (hn8 : n ≤ 8) (hnr8 : nr ≤ 8) (hz : z ≤ z') (h1 : I' 100 6 = I 100 6) (h2 : I' 219 51 = I 219 51) (h3 : I' 246 = I 246) (h4 : I' 247 = I 247) (h5 : I' 248 = I 248) (h6 : I' 249 = I 249) (h7 : L' 250 = L 250) (h8 : I' 220 = I 220) (hI : ∀ i a, i < mc → mk i ≤ a → a < mk i + 25 → I' a = I a ∧ L' a = L a) : MkR I' L' z' nr n mc mk := by
  obtain ⟨a1, a2, a3⟩ := q
  refine ⟨by rw [h1]; exact a1, by rw [h2]; exact a2, fun i hi => ?_⟩
  obtain ⟨nh, M, hN, w, b1, b2, b3, b4, b5⟩ := a3 i hi
  refine ⟨nh, M, hN, w, SeR_c b1 hn8 (fun a _ _ => (hI i a hi (by omega) (by omega)).1) (fun j _ => by rw [h3]), StR_c b2 hn8 hnr8 (fun a _ _ => (hI i a hi (by omega) (by omega)).1) (hI i _ hi (by omega) (by omega)).2 h8 (fun j _ => by rw [h3]) (fun j _ => by rw [h7]), DiR_c b3 hnr8 (fun a _ _ => (hI i a hi (by omega) (by omega)).1) (fun j _ => by rw [h4]) (fun j _ => by rw [h5]), by rw [h6]; exact b4, ?_⟩
  have := Nat.mul_le_mul_left 999 hz
  omega
end
