/-! the interpreter calls K at most once, and last: so a fixed point without fuel -/
def TL (F : mS → Option mO) : Prop := (∃ r, ∀ K, F K = r) ∨ ∃ c ls st h, ∀ K : mS, F K = K c ls st h
theorem tl0 {r : Option mO} : TL (fun _ => r) := Or.inl ⟨r, fun _ => rfl⟩
theorem tlK {c : Nat} {ls st : List Value} {h : mH} : TL (fun K => K c ls st h) := Or.inr ⟨c, ls, st, h, fun _ => rfl⟩
theorem tl_ite {p : Prop} [Decidable p] {f g : mS → Option mO} (hf : TL f) (hg : TL g) : TL (fun K => if p then f K else g K) := by
  by_cases h : p
  · simpa only [if_pos h] using hf
  · simpa only [if_neg h] using hg
theorem tl_gk {G : mG} {a k : Nat} {f : mS → Option mO} (hf : TL f) : TL (fun K => gk G a k (f K)) := tl_ite hf tl0
theorem tl_gr {G : mG} {a k : Nat} {f : mS → Nat → Option mO} (hf : ∀ b, TL (fun K => f K b)) : TL (fun K => gr G a k (f K)) := by
  unfold gr
  cases gR G a k with
  | none => exact tl0
  | some b => exact hf b
theorem tl_gx {G : mG} {a t : Nat} {i : Int32} {f : mS → Nat → Option mO} (hf : ∀ b, TL (fun K => f K b)) : TL (fun K => gx G a t i (f K)) := tl_ite (hf _) tl0
theorem tl_gy {G : mG} {a k : Nat} {f : mS → Nat → Option mO} {g : mS → Option mO} (hf : ∀ b, TL (fun K => f K b)) (hg : TL g) : TL (fun K => gy G a k (f K) (g K)) := by
  unfold gy
  cases gR G a k with
  | none => exact hg
  | some b => exact hf b
theorem tl_m1i {st : List Value} {f : mS → Int32 → List Value → Option mO} (hf : ∀ x st, TL (fun K => f K x st)) : TL (fun K => m1i st (f K)) := by
  rcases st with _ | ⟨v, st⟩
  · exact tl0
  cases v <;> first | exact hf _ _ | exact tl0
theorem tl_m1l {st : List Value} {f : mS → Int64 → List Value → Option mO} (hf : ∀ x st, TL (fun K => f K x st)) : TL (fun K => m1l st (f K)) := by
  rcases st with _ | ⟨v, st⟩
  · exact tl0
  cases v <;> first | exact hf _ _ | exact tl0
theorem tl_m1r {st : List Value} {f : mS → Nat → List Value → Option mO} (hf : ∀ x st, TL (fun K => f K x st)) : TL (fun K => m1r st (f K)) := by
  rcases st with _ | ⟨v, st⟩
  · exact tl0
  cases v <;> first | exact hf _ _ | exact tl0
theorem tl_m1a {st : List Value} {f : mS → Value → List Value → Option mO} (hf : ∀ x st, TL (fun K => f K x st)) : TL (fun K => m1a st (f K)) := by
  rcases st with _ | ⟨v, st⟩
  · exact tl0
  cases v <;> first | exact hf _ _ | exact tl0
theorem tl_mnul {st : List Value} {f g : mS → List Value → Option mO} (hf : ∀ st, TL (fun K => f K st)) (hg : ∀ st, TL (fun K => g K st)) : TL (fun K => mnul st (f K) (g K)) := by
  rcases st with _ | ⟨v, st⟩
  · exact tl0
  cases v <;> first | exact hf _ | exact hg _ | exact tl0
theorem tl_mv1 {st : List Value} {f : mS → Value → List Value → Option mO} (hf : ∀ x st, TL (fun K => f K x st)) : TL (fun K => mv1 st (f K)) := by
  rcases st with _ | ⟨v, st⟩
  · exact tl0
  exact tl_ite (hf _ _) tl0
theorem tl_mv2 {st : List Value} {f : mS → Value → Value → List Value → Option mO} (hf : ∀ x y st, TL (fun K => f K x y st)) : TL (fun K => mv2 st (f K)) := by
  rcases st with _ | ⟨v, _ | ⟨w, st⟩⟩
  · exact tl0
  · exact tl0
  exact tl_ite (hf _ _ _) tl0
theorem tl_m2i {st : List Value} {f : mS → Int32 → Int32 → List Value → Option mO} (hf : ∀ x y st, TL (fun K => f K x y st)) : TL (fun K => m2i st (f K)) := by
  rcases st with _ | ⟨v, _ | ⟨w, st⟩⟩
  · exact tl0
  · cases v <;> exact tl0
  cases v <;> first | exact tl0 | (cases w <;> first | exact hf _ _ _ | exact tl0)
theorem tl_m2l {st : List Value} {f : mS → Int64 → Int64 → List Value → Option mO} (hf : ∀ x y st, TL (fun K => f K x y st)) : TL (fun K => m2l st (f K)) := by
  rcases st with _ | ⟨v, _ | ⟨w, st⟩⟩
  · exact tl0
  · cases v <;> exact tl0
  cases v <;> first | exact tl0 | (cases w <;> first | exact hf _ _ _ | exact tl0)
theorem tl_mli {st : List Value} {f : mS → Int64 → Int32 → List Value → Option mO} (hf : ∀ x y st, TL (fun K => f K x y st)) : TL (fun K => mli st (f K)) := by
  rcases st with _ | ⟨v, _ | ⟨w, st⟩⟩
  · exact tl0
  · cases v <;> exact tl0
  cases v <;> first | exact tl0 | (cases w <;> first | exact hf _ _ _ | exact tl0)
theorem tl_mri {st : List Value} {f : mS → Nat → Int32 → List Value → Option mO} (hf : ∀ x y st, TL (fun K => f K x y st)) : TL (fun K => mri st (f K)) := by
  rcases st with _ | ⟨v, _ | ⟨w, st⟩⟩
  · exact tl0
  · cases v <;> exact tl0
  cases v <;> first | exact tl0 | (cases w <;> first | exact hf _ _ _ | exact tl0)
theorem tl_mrr {st : List Value} {f : mS → Nat → Nat → List Value → Option mO} (hf : ∀ x y st, TL (fun K => f K x y st)) : TL (fun K => mrr st (f K)) := by
  rcases st with _ | ⟨v, _ | ⟨w, st⟩⟩
  · exact tl0
  · cases v <;> exact tl0
  cases v <;> first | exact tl0 | (cases w <;> first | exact hf _ _ _ | exact tl0)
theorem tl_mrii {st : List Value} {f : mS → Nat → Int32 → Int32 → List Value → Option mO} (hf : ∀ x y z st, TL (fun K => f K x y z st)) : TL (fun K => mrii st (f K)) := by
  rcases st with _ | ⟨v, _ | ⟨w, _ | ⟨u, st⟩⟩⟩
  · exact tl0
  · cases v <;> exact tl0
  · cases v <;> first | exact tl0 | (cases w <;> exact tl0)
  cases v <;> first | exact tl0 | (cases w <;> first | exact tl0 | (cases u <;> first | exact hf _ _ _ _ | exact tl0))
theorem tl_mril {st : List Value} {f : mS → Nat → Int32 → Int64 → List Value → Option mO} (hf : ∀ x y z st, TL (fun K => f K x y z st)) : TL (fun K => mril st (f K)) := by
  rcases st with _ | ⟨v, _ | ⟨w, _ | ⟨u, st⟩⟩⟩
  · exact tl0
  · cases v <;> exact tl0
  · cases v <;> first | exact tl0 | (cases w <;> exact tl0)
  cases v <;> first | exact tl0 | (cases w <;> first | exact tl0 | (cases u <;> first | exact hf _ _ _ _ | exact tl0))
theorem tl_mrir {st : List Value} {f : mS → Nat → Int32 → Nat → List Value → Option mO} (hf : ∀ x y z st, TL (fun K => f K x y z st)) : TL (fun K => mrir st (f K)) := by
  rcases st with _ | ⟨v, _ | ⟨w, _ | ⟨u, st⟩⟩⟩
  · exact tl0
  · cases v <;> exact tl0
  · cases v <;> first | exact tl0 | (cases w <;> exact tl0)
  cases v <;> first | exact tl0 | (cases w <;> first | exact tl0 | (cases u <;> first | exact hf _ _ _ _ | exact tl0))
theorem mcpy_cases (st : List Value) : (∀ f, mcpy st f = none) ∨ ∃ a sp b dp n st', st = .int n :: .int dp :: .ref b :: .int sp :: .ref a :: st' := by
  unfold mcpy
  split
  · exact Or.inr ⟨_, _, _, _, _, _, rfl⟩
  · exact Or.inl fun _ => rfl
theorem tl_mcpy {st : List Value} {f : mS → Nat → Int32 → Nat → Int32 → Int32 → List Value → Option mO} (hf : ∀ a sp b dp n st, TL (fun K => f K a sp b dp n st)) : TL (fun K => mcpy st (f K)) := by
  rcases mcpy_cases st with h | ⟨a, sp, b, dp, n, st', rfl⟩
  · simpa only [h] using tl0
  · exact hf _ _ _ _ _ _
theorem tl_lI {ls : List Value} {k : Nat} {f : mS → Int32 → Option mO} (hf : ∀ x, TL (fun K => f K x)) : TL (fun K => lI ls k (f K)) := by
  unfold lI
  rcases ls[k]? with _ | v
  · exact tl0
  cases v <;> first | exact hf _ | exact tl0
theorem tl_lL {ls : List Value} {k : Nat} {f : mS → Int64 → Option mO} (hf : ∀ x, TL (fun K => f K x)) : TL (fun K => lL ls k (f K)) := by
  unfold lL
  rcases ls[k]? with _ | v
  · exact tl0
  cases v <;> first | exact hf _ | exact tl0
theorem tl_lA {ls : List Value} {k : Nat} {f : mS → Value → Option mO} (hf : ∀ x, TL (fun K => f K x)) : TL (fun K => lA ls k (f K)) := by
  unfold lA
  rcases ls[k]? with _ | v
  · exact tl0
  cases v <;> first | exact hf _ | exact tl0
theorem tl_mtext {a : Nat} {f : mS → List Int32 → Option mO} (hf : ∀ x, TL (fun K => f K x)) : TL (fun K => mtext a (f K)) := by
  unfold mtext
  cases a with
  | zero => exact tl0
  | succ a =>
    dsimp only
    rcases mtxs[a]? with _ | t
    · exact tl0
    · exact hf t
theorem tl_mbool {v : Int32} {f : mS → Option mO} (hf : TL f) : TL (fun K => mbool v (f K)) := tl_ite hf tl0
theorem tl_mrcv {G : mG} {k : Nat} {as : List Value} {f : mS → Option mO} (hf : TL f) : TL (fun K => mrcv G k as (f K)) := by
  unfold mrcv
  cases k with
  | zero => exact hf
  | succ k =>
    dsimp only
    rcases as with _ | ⟨v, as⟩
    · exact tl0
    cases v <;> first | exact tl_gk hf | exact tl0
theorem tl_mcV {r : Option mO} {f : mS → mH → Option mO} {g : mS → String → mH → Option mO} (hf : ∀ h, TL (fun K => f K h)) (hg : ∀ E h, TL (fun K => g K E h)) : TL (fun K => mcV r (f K) (g K)) := by
  rcases r with _ | ⟨(_ | v) | E, h⟩
  · exact tl0
  · exact hf h
  · exact tl0
  · exact hg E h
theorem tl_mcI {r : Option mO} {f : mS → Int32 → mH → Option mO} {g : mS → String → mH → Option mO} (hf : ∀ v h, TL (fun K => f K v h)) (hg : ∀ E h, TL (fun K => g K E h)) : TL (fun K => mcI r (f K) (g K)) := by
  rcases r with _ | ⟨(_ | v) | E, h⟩
  · exact tl0
  · exact tl0
  · cases v <;> first | exact hf _ h | exact tl0
  · exact hg E h
theorem tl_mcL {r : Option mO} {f : mS → Int64 → mH → Option mO} {g : mS → String → mH → Option mO} (hf : ∀ v h, TL (fun K => f K v h)) (hg : ∀ E h, TL (fun K => g K E h)) : TL (fun K => mcL r (f K) (g K)) := by
  rcases r with _ | ⟨(_ | v) | E, h⟩
  · exact tl0
  · exact tl0
  · cases v <;> first | exact hf _ h | exact tl0
  · exact hg E h
theorem tl_mexc {hd : mHd} {cm : mCm} {pc : Nat} {ls : List Value} (E : String) (h : mH) : TL (fun K => mexc hd cm K pc ls E h) := by
  unfold mexc
  rcases mhand hd pc E with _ | c
  · exact tl0
  · exact tlK
theorem tl_marc {α : Type} {G : mG} {t : Nat} {F : Nat → Nat → α} {a : Nat} {sp : Int32} {b : Nat} {dp n : Int32} {f : mS → (Nat → Nat → α) → Option mO} (hf : ∀ x, TL (fun K => f K x)) : TL (fun K => marc G t F a sp b dp n (f K)) := tl_ite (hf _) tl0
theorem tl_mnth {y : Nat} {exc : mS → String → mH → Option mO} (he : ∀ E h, TL (fun K => exc K E h)) (E : String) (h : mH) : TL (fun K => mnth y (exc K) E h) := by
  unfold mnth
  rcases y / 10000 with _ | k
  · exact he E h
  · exact tl0
theorem tl_mcall {cal : mC} {exc : mS → String → mH → Option mO} {nx : mS → List Value → mH → Option mO} {x y : Nat} {st : List Value} {h : mH} (he : ∀ E h, TL (fun K => exc K E h)) (hn : ∀ st h, TL (fun K => nx K st h)) : TL (fun K => mcall cal (exc K) (nx K) x y st h) := by
  unfold mcall
  refine tl_ite tl0 (tl_mrcv ?_)
  rcases y / 10 % 10 with _ | _ | k
  · exact tl_mcV (fun h => hn _ h) (tl_mnth he)
  · exact tl_mcI (fun v h => hn _ h) (tl_mnth he)
  · exact tl_mcL (fun v h => hn _ h) (tl_mnth he)
theorem tl_minv {cal : mC} {exc : mS → String → mH → Option mO} {nx : mS → List Value → mH → Option mO} {x y : Nat} {st : List Value} {h : mH} (he : ∀ E h, TL (fun K => exc K E h)) (hn : ∀ st h, TL (fun K => nx K st h)) : TL (fun K => minv cal (exc K) (nx K) x y st h) := by
  unfold minv
  split
  · exact tl_m1r fun a st => tl_ite tl0 (tl_mtext fun t => hn _ _)
  · exact tl_mri fun a i st => tl_ite tl0 (tl_mtext fun t => tl_ite tl0 (hn _ _))
  · exact tl_mcpy fun a sp b dp n st => tl_ite tl0 (tl_marc fun x => hn _ _)
  · exact tl_mcpy fun a sp b dp n st => tl_ite tl0 (tl_marc fun x => hn _ _)
  · exact tl_m1r fun a st => tl_ite tl0 (hn _ _)
  · exact tl_m2i fun a b st => tl_ite tl0 (hn _ _)
  · exact tl_m2i fun a b st => tl_ite tl0 (hn _ _)
  · exact tl_m1i fun a st => tl_ite tl0 (hn _ _)
  · exact tl_mcall he hn
theorem tl_mtsw {pc : Nat} {d : Int} {v : Int32} {J : mS → Nat → Option mO} (hJ : ∀ c, TL (fun K => J K c)) : ∀ (os : List Int) (lo : Int), TL (fun K => mtsw pc d v (J K) lo os) := by
  intro os
  induction os with
  | nil => intro lo; exact hJ _
  | cons o os ih => intro lo; exact tl_ite (hJ _) (ih _)
theorem tl_mnewA {nx : mS → List Value → mH → Option mO} {t : Nat} {st : List Value} {h : mH} (hn : ∀ st h, TL (fun K => nx K st h)) : TL (fun K => mnewA (nx K) t st h) := tl_m1i fun n st => tl_ite tl0 (hn _ _)
theorem tl_mstep {cal : mC} {hd : mHd} {cm : mCm} {nx : mS → List Value → List Value → mH → Option mO} {pc : Nat} {i : mI_} {x y : Nat} {vi : Int32} {vl : Int64} {ls st : List Value} {h : mH} (hn : ∀ ls st h, TL (fun K => nx K ls st h)) : TL (fun K => mstep cal hd cm K (nx K) pc i x y vi vl ls st h) := by
  cases i <;> dsimp only [mstep] <;>
    first
    | exact hn _ _ _
    | exact tlK
    | exact tl0
    | exact tl_lI fun v => hn _ _ _
    | exact tl_lL fun v => hn _ _ _
    | exact tl_lA fun v => hn _ _ _
    | exact tl_m1i fun v st => hn _ _ _
    | exact tl_m1l fun v st => hn _ _ _
    | exact tl_m1a fun v st => hn _ _ _
    | exact tl_m2i fun a b st => hn _ _ _
    | exact tl_m2i fun a b st => tl_ite tl0 (hn _ _ _)
    | exact tl_m2l fun a b st => hn _ _ _
    | exact tl_m2l fun a b st => tl_ite tl0 (hn _ _ _)
    | exact tl_mli fun a b st => hn _ _ _
    | exact tl_mv1 fun v st => hn _ _ _
    | exact tl_mv2 fun v w st => hn _ _ _
    | exact tl_mnul (fun st => hn _ _ _) (fun st => tlK)
    | exact tl_mnul (fun st => tlK) (fun st => hn _ _ _)
    | exact tl_minv tl_mexc (fun st h => hn _ _ _)
    | exact tl_mnewA (fun st h => hn _ _ _)
    | exact tl_mri fun a i st => tl_gx fun j => hn _ _ _
    | exact tl_mrii fun a i v st => tl_gx fun j => hn _ _ _
    | exact tl_mril fun a i v st => tl_gx fun j => hn _ _ _
    | exact tl_mri fun a i st => tl_gx fun j => tl_gy (fun b => hn _ _ _) (hn _ _ _)
    | exact tl_mrir fun a i v st => tl_gx fun j => tl_gk (hn _ _ _)
    | exact tl_m1r fun a st => tl_gk (hn _ _ _)
    | exact tl_m1i fun v st => tl_mtsw (fun c => tlK) _ _
    | (rename_i c _; cases c <;> first | exact tl_m1i fun a st => tl_ite tlK (hn _ _ _) | exact tl_m1i fun a st => tl_ite (hn _ _ _) tlK | exact tl_m2i fun a b st => tl_ite tlK (hn _ _ _) | exact tl_m2i fun a b st => tl_ite (hn _ _ _) tlK)
    | (split <;> first | exact hn _ _ _ | exact tl0 | (split <;> exact tl0))
    | (split <;> first | exact tl_mrr fun a b st => tl_gk (hn _ _ _) | exact tl_mri fun a v st => tl_gk (tl_mbool (hn _ _ _)) | exact tl_mri fun a v st => tl_gk (hn _ _ _))
    | (refine tl_m1r fun a st => tl_gk ?_; split <;> first | exact tl_gr fun b => hn _ _ _ | exact hn _ _ _)
    | (split <;> first | exact tl0 | (split <;> exact tl0))
theorem tl_mblk {cal : mC} {hd : mHd} {cm : mCm} : ∀ (rs : List mRow) (ls st : List Value) (h : mH), TL (fun K => mblk cal hd cm K rs ls st h) := by
  intro rs
  induction rs with
  | nil => intro ls st h; exact tl0
  | cons r rs ih =>
    intro ls st h
    refine tl_mstep fun ls st h => ?_
    rcases rs with _ | ⟨q, rs⟩
    · exact tl0
    · dsimp only
      split
      · exact ih ls st h
      · exact tlK
noncomputable def mfx (cal : mC) (hd : mHd) (cm : mCm) (code : List mRow) : mS := fun c ls st h => @dite (Option mO) (∃ o, ∃ N, ∀ n, N ≤ n → mrun cal hd cm code n c ls st h = some o) (Classical.propDecidable _)
  (fun H => some (Classical.choose H)) (fun _ => none)
theorem mfx_some {cal : mC} {hd : mHd} {cm : mCm} {code : List mRow} {c : Nat} {ls st : List Value} {h : mH} {o : mO} : mfx cal hd cm code c ls st h = some o ↔ ∃ N, ∀ n, N ≤ n → mrun cal hd cm code n c ls st h = some o := by
  unfold mfx
  constructor
  · intro e
    by_cases H : ∃ o, ∃ N, ∀ n, N ≤ n → mrun cal hd cm code n c ls st h = some o
    · rw [dif_pos H] at e
      cases e
      exact Classical.choose_spec H
    · rw [dif_neg H] at e
      cases e
  · rintro ⟨N, hN⟩
    have H : ∃ o, ∃ N, ∀ n, N ≤ n → mrun cal hd cm code n c ls st h = some o := ⟨o, N, hN⟩
    rw [dif_pos H]
    obtain ⟨N', h'⟩ := Classical.choose_spec H
    exact (h' (N + N') (by omega)).symm.trans (hN (N + N') (by omega))
theorem mfx_eq (cal : mC) (hd : mHd) (cm : mCm) (code : List mRow) (c : Nat) (ls st : List Value) (h : mH) : mfx cal hd cm code c ls st h = mblk cal hd cm (mfx cal hd cm code) (msfx c code) ls st h := by
  rcases tl_mblk (cal := cal) (hd := hd) (cm := cm) (msfx c code) ls st h with ⟨r, hr⟩ | ⟨c', ls', st', h', hr⟩
  · have e : ∀ n, mrun cal hd cm code (n + 1) c ls st h = r := fun n => hr _
    refine Eq.trans ?_ (hr _).symm
    cases r with
    | some o => exact mfx_some.mpr ⟨1, fun n hn => by obtain ⟨k, rfl⟩ : ∃ k, n = k + 1 := ⟨n - 1, by omega⟩; exact e k⟩
    | none =>
      cases hx : mfx cal hd cm code c ls st h with
      | none => rfl
      | some o =>
        obtain ⟨N, hN⟩ := mfx_some.mp hx
        have := (e N).symm.trans (hN (N + 1) (by omega))
        cases this
  · have e : ∀ n, mrun cal hd cm code (n + 1) c ls st h = mrun cal hd cm code n c' ls' st' h' := fun n => hr _
    refine Eq.trans ?_ (hr _).symm
    apply Option.ext
    intro o
    rw [mfx_some, mfx_some]
    constructor
    · rintro ⟨N, hN⟩
      exact ⟨N, fun n hn => (e n).symm.trans (hN (n + 1) (by omega))⟩
    · rintro ⟨N, hN⟩
      exact ⟨N + 1, fun n hn => by obtain ⟨k, rfl⟩ : ∃ k, n = k + 1 := ⟨n - 1, by omega⟩; exact (e k).trans (hN k (by omega))⟩
def mlay : List Value → List Value
  | [] => []
  | .long v :: t => .long v :: mU :: mlay t
  | .double v :: t => .double v :: mU :: mlay t
  | v :: t => v :: mlay t
def mpad (as : List Value) (n : Nat) : List Value := mlay as ++ List.replicate (n - (mlay as).length) mU
