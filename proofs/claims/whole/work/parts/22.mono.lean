/-! cells and slots only grow; only four exceptions come out -/
def mOk (h : mH) (o : mO) : Prop := h.1.1 ≤ o.2.1.1 ∧ h.1.2.1 ≤ o.2.1.2.1 ∧ ∀ E, o.1 = .inr E → ∃ k, k < 4 ∧ E = mexn k
def MN (h : mH) (F : Option mO) : Prop := ∀ o, F = some o → mOk h o
theorem mn0 {h : mH} : MN h none := fun _ q => by cases q
theorem mn_le {h h' : mH} {F : Option mO} (hz : h.1.1 ≤ h'.1.1) (hy : h.1.2.1 ≤ h'.1.2.1) (g : MN h' F) : MN h F := fun o q => by
  obtain ⟨a, b, c⟩ := g o q
  exact ⟨Nat.le_trans hz a, Nat.le_trans hy b, c⟩
theorem mn_ite {h : mH} {p : Prop} [Decidable p] {f g : Option mO} (hf : MN h f) (hg : MN h g) : MN h (if p then f else g) := by
  by_cases q : p
  · rw [if_pos q]; exact hf
  · rw [if_neg q]; exact hg
theorem mn_ret {h : mH} {ov : Option Value} : MN h (some (.inl ov, h)) := fun o q => by
  cases q
  exact ⟨Nat.le_refl _, Nat.le_refl _, fun E q => by cases q⟩
theorem mn_thr {h : mH} {E : String} (hE : ∃ k, k < 4 ∧ E = mexn k) : MN h (some (.inr E, h)) := fun o q => by
  cases q
  exact ⟨Nat.le_refl _, Nat.le_refl _, fun E q => by cases q; exact hE⟩
theorem mexn_k (x : Nat) : ∃ k, k < 4 ∧ mexn x = mexn k := by
  unfold mexn
  split
  · exact ⟨0, by omega, rfl⟩
  · exact ⟨1, by omega, rfl⟩
  · exact ⟨2, by omega, rfl⟩
  · exact ⟨3, by omega, rfl⟩
section MONO
variable {h : mH} {st ls : List Value}
theorem mn_m1i {f : Int32 → List Value → Option mO} (hf : ∀ x st, MN h (f x st)) : MN h (m1i st f) := fun o q => by
  obtain ⟨x, st', -, q2⟩ := m1i_inv q
  exact hf _ _ o q2
theorem mn_m1l {f : Int64 → List Value → Option mO} (hf : ∀ x st, MN h (f x st)) : MN h (m1l st f) := fun o q => by
  obtain ⟨x, st', -, q2⟩ := m1l_inv q
  exact hf _ _ o q2
theorem mn_m1r {f : Nat → List Value → Option mO} (hf : ∀ x st, MN h (f x st)) : MN h (m1r st f) := fun o q => by
  obtain ⟨x, st', -, q2⟩ := m1r_inv q
  exact hf _ _ o q2
theorem mn_m1a {f : Value → List Value → Option mO} (hf : ∀ x st, MN h (f x st)) : MN h (m1a st f) := fun o q => by
  rcases m1a_inv q with ⟨a, st', -, q2⟩ | ⟨st', -, q2⟩ <;> exact hf _ _ o q2
theorem mn_m2i {f : Int32 → Int32 → List Value → Option mO} (hf : ∀ x y st, MN h (f x y st)) : MN h (m2i st f) := fun o q => by
  obtain ⟨x, y, st', -, q2⟩ := m2i_inv q
  exact hf _ _ _ o q2
theorem mn_m2l {f : Int64 → Int64 → List Value → Option mO} (hf : ∀ x y st, MN h (f x y st)) : MN h (m2l st f) := fun o q => by
  obtain ⟨x, y, st', -, q2⟩ := m2l_inv q
  exact hf _ _ _ o q2
theorem mn_mli {f : Int64 → Int32 → List Value → Option mO} (hf : ∀ x y st, MN h (f x y st)) : MN h (mli st f) := fun o q => by
  obtain ⟨x, y, st', -, q2⟩ := mli_inv q
  exact hf _ _ _ o q2
theorem mn_mri {f : Nat → Int32 → List Value → Option mO} (hf : ∀ x y st, MN h (f x y st)) : MN h (mri st f) := fun o q => by
  obtain ⟨x, y, st', -, q2⟩ := mri_inv q
  exact hf _ _ _ o q2
theorem mn_mrr {f : Nat → Nat → List Value → Option mO} (hf : ∀ x y st, MN h (f x y st)) : MN h (mrr st f) := fun o q => by
  obtain ⟨x, y, st', -, q2⟩ := mrr_inv q
  exact hf _ _ _ o q2
theorem mn_mrii {f : Nat → Int32 → Int32 → List Value → Option mO} (hf : ∀ x y z st, MN h (f x y z st)) : MN h (mrii st f) := fun o q => by
  obtain ⟨x, y, z, st', -, q2⟩ := mrii_inv q
  exact hf _ _ _ _ o q2
theorem mn_mril {f : Nat → Int32 → Int64 → List Value → Option mO} (hf : ∀ x y z st, MN h (f x y z st)) : MN h (mril st f) := fun o q => by
  obtain ⟨x, y, z, st', -, q2⟩ := mril_inv q
  exact hf _ _ _ _ o q2
theorem mn_mrir {f : Nat → Int32 → Nat → List Value → Option mO} (hf : ∀ x y z st, MN h (f x y z st)) : MN h (mrir st f) := fun o q => by
  obtain ⟨x, y, z, st', -, q2⟩ := mrir_inv q
  exact hf _ _ _ _ o q2
theorem mn_mcpy {f : Nat → Int32 → Nat → Int32 → Int32 → List Value → Option mO} (hf : ∀ a sp b dp n st, MN h (f a sp b dp n st)) : MN h (mcpy st f) := fun o q => by
  obtain ⟨a, sp, b, dp, n, st', -, q2⟩ := mcpy_inv q
  exact hf _ _ _ _ _ _ o q2
theorem mn_mnul {f g : List Value → Option mO} (hf : ∀ st, MN h (f st)) (hg : ∀ st, MN h (g st)) : MN h (mnul st f g) := fun o q => by
  rcases mnul_inv q with ⟨a, st', -, q2⟩ | ⟨st', -, q2⟩
  · exact hf _ o q2
  · exact hg _ o q2
theorem mn_mv1 {f : Value → List Value → Option mO} (hf : ∀ x st, MN h (f x st)) : MN h (mv1 st f) := fun o q => by
  obtain ⟨v, st', -, -, q2⟩ := mv1_inv q
  exact hf _ _ o q2
theorem mn_mv2 {f : Value → Value → List Value → Option mO} (hf : ∀ x y st, MN h (f x y st)) : MN h (mv2 st f) := fun o q => by
  obtain ⟨v, w, st', -, -, q2⟩ := mv2_inv q
  exact hf _ _ _ o q2
theorem mn_lI {k : Nat} {f : Int32 → Option mO} (hf : ∀ x, MN h (f x)) : MN h (lI ls k f) := fun o q => by
  obtain ⟨v, -, q2⟩ := lI_inv q
  exact hf _ o q2
theorem mn_lL {k : Nat} {f : Int64 → Option mO} (hf : ∀ x, MN h (f x)) : MN h (lL ls k f) := fun o q => by
  obtain ⟨v, -, q2⟩ := lL_inv q
  exact hf _ o q2
theorem mn_lA {k : Nat} {f : Value → Option mO} (hf : ∀ x, MN h (f x)) : MN h (lA ls k f) := fun o q => by
  rcases lA_inv q with ⟨a, -, q2⟩ | ⟨-, q2⟩ <;> exact hf _ o q2
theorem mn_gk {G : mG} {a k : Nat} {X : Option mO} (hf : MN h X) : MN h (gk G a k X) := mn_ite hf mn0
theorem mn_gr {G : mG} {a k : Nat} {f : Nat → Option mO} (hf : ∀ x, MN h (f x)) : MN h (gr G a k f) := fun o q => by
  obtain ⟨b, -, q2⟩ := gr_inv q
  exact hf _ o q2
theorem mn_gx {G : mG} {a t : Nat} {i : Int32} {f : Nat → Option mO} (hf : ∀ x, MN h (f x)) : MN h (gx G a t i f) := mn_ite (hf _) mn0
theorem mn_gy {G : mG} {a k : Nat} {f : Nat → Option mO} {g : Option mO} (hf : ∀ x, MN h (f x)) (hg : MN h g) : MN h (gy G a k f g) := fun o q => by
  rcases gy_inv q with ⟨b, -, q2⟩ | ⟨-, q2⟩
  · exact hf _ o q2
  · exact hg o q2
theorem mn_mbool {v : Int32} {X : Option mO} (hf : MN h X) : MN h (mbool v X) := mn_ite hf mn0
theorem mn_mtext {a : Nat} {f : List Int32 → Option mO} (hf : ∀ x, MN h (f x)) : MN h (mtext a f) := fun o q => by
  obtain ⟨j, t, -, -, q2⟩ := mtext_inv q
  exact hf _ o q2
theorem mn_marc {α : Type} {G : mG} {t : Nat} {F : Nat → Nat → α} {a : Nat} {sp : Int32} {b : Nat} {dp n : Int32} {f : (Nat → Nat → α) → Option mO} (hf : ∀ x, MN h (f x)) : MN h (marc G t F a sp b dp n f) := mn_ite (hf _) mn0
theorem mn_mtsw {pc : Nat} {d : Int} {v : Int32} {J : Nat → Option mO} (hJ : ∀ c, MN h (J c)) : ∀ (os : List Int) (lo : Int), MN h (mtsw pc d v J lo os) := by
  intro os
  induction os with
  | nil => intro lo; exact hJ _
  | cons o os ih => intro lo; exact mn_ite (hJ _) (ih _)
theorem mn_mcall {cal : mC} {exc : String → mH → Option mO} {nx : List Value → mH → Option mO} {x y : Nat} (hc : ∀ j as h, MN h (cal j as h)) (he : ∀ E h, (∃ k, k < 4 ∧ E = mexn k) → MN h (exc E h)) (hn : ∀ st h, MN h (nx st h)) : MN h (mcall cal exc nx x y st h) := fun o q => by
  obtain ⟨as, rest, o', -, -, -, -, hcal, hret, hthr⟩ := mcall_inv q
  obtain ⟨a1, a2, a3⟩ := hc _ _ _ o' hcal
  cases ho : o'.1 with
  | inl ov => exact mn_le a1 a2 (hn _ _) o (hret ov ho)
  | inr E => exact mn_le a1 a2 (he E _ (a3 E ho)) o (hthr E ho).2
theorem mn_minv {cal : mC} {exc : String → mH → Option mO} {nx : List Value → mH → Option mO} {x y : Nat} (hc : ∀ j as h, MN h (cal j as h)) (he : ∀ E h, (∃ k, k < 4 ∧ E = mexn k) → MN h (exc E h)) (hn : ∀ st h, MN h (nx st h)) : MN h (minv cal exc nx x y st h) := by
  unfold minv
  split
  · exact mn_m1r fun a st => mn_ite mn0 (mn_mtext fun t => hn _ _)
  · exact mn_mri fun a i st => mn_ite mn0 (mn_mtext fun t => mn_ite mn0 (hn _ _))
  · exact mn_mcpy fun a sp b dp n st => mn_ite mn0 (mn_marc fun x => mn_le (h' := (h.1, x, h.2.2)) (Nat.le_refl _) (Nat.le_refl _) (hn _ _))
  · exact mn_mcpy fun a sp b dp n st => mn_ite mn0 (mn_marc fun x => mn_le (h' := (h.1, h.2.1, x)) (Nat.le_refl _) (Nat.le_refl _) (hn _ _))
  · exact mn_m1r fun a st => mn_ite mn0 (hn _ _)
  · exact mn_m2i fun a b st => mn_ite mn0 (hn _ _)
  · exact mn_m2i fun a b st => mn_ite mn0 (hn _ _)
  · exact mn_m1i fun a st => mn_ite mn0 (hn _ _)
  · exact mn_mcall hc he hn
theorem mn_new {nx : List Value → mH → Option mO} {t n m : Nat} (hn : ∀ st h, MN h (nx st h)) : MN h (nx st (hA h t n m)) := mn_le (h' := hA h t n m) (Nat.le_succ _) (Nat.le_add_right _ _) (hn _ _)
theorem mn_step {cal : mC} {hd : mHd} {cm : mCm} {K : mS} {nx : List Value → List Value → mH → Option mO} {pc : Nat} {i : mI_} {x y : Nat} {vi : Int32} {vl : Int64} (hc : ∀ j as h, MN h (cal j as h)) (hK : ∀ c ls st h, MN h (K c ls st h)) (hn : ∀ ls st h, MN h (nx ls st h)) : MN h (mstep cal hd cm K nx pc i x y vi vl ls st h) := by
  have he : ∀ E h, (∃ k, k < 4 ∧ E = mexn k) → MN h (mexc hd cm K pc ls E h) := by
    intro E h' hE
    unfold mexc
    split
    · exact mn_le (h' := (gC h'.1, h'.2.1, h'.2.2)) (Nat.le_succ _) (Nat.le_add_right _ _) (hK _ _ _ _)
    · exact mn_thr hE
  cases i <;> dsimp only [mstep] <;>
    first
    | exact hn _ _ _
    | exact hK _ _ _ _
    | exact mn0
    | exact mn_lI fun v => hn _ _ _
    | exact mn_lL fun v => hn _ _ _
    | exact mn_lA fun v => hn _ _ _
    | exact mn_m1i fun v st => hn _ _ _
    | exact mn_m1l fun v st => hn _ _ _
    | exact mn_m1a fun v st => hn _ _ _
    | exact mn_m2i fun a b st => hn _ _ _
    | exact mn_m2i fun a b st => mn_ite mn0 (hn _ _ _)
    | exact mn_m2l fun a b st => hn _ _ _
    | exact mn_m2l fun a b st => mn_ite mn0 (hn _ _ _)
    | exact mn_mli fun a b st => hn _ _ _
    | exact mn_mv1 fun v st => hn _ _ _
    | exact mn_mv2 fun v w st => hn _ _ _
    | exact mn_mnul (fun st => hn _ _ _) (fun st => hK _ _ _ _)
    | exact mn_mnul (fun st => hK _ _ _ _) (fun st => hn _ _ _)
    | exact mn_minv hc he (fun st h => hn _ _ _)
    | exact mn_m1i fun n st => mn_ite mn0 (mn_le (h' := hA h _ _ _) (Nat.le_succ _) (Nat.le_add_right _ _) (hn _ _ _))
    | exact mn_mri fun a i st => mn_gx fun j => hn _ _ _
    | exact mn_mrii fun a i v st => mn_gx fun j => mn_le (h' := (h.1, _, h.2.2)) (Nat.le_refl _) (Nat.le_refl _) (hn _ _ _)
    | exact mn_mril fun a i v st => mn_gx fun j => mn_le (h' := (h.1, h.2.1, _)) (Nat.le_refl _) (Nat.le_refl _) (hn _ _ _)
    | exact mn_mri fun a i st => mn_gx fun j => mn_gy (fun b => hn _ _ _) (hn _ _ _)
    | exact mn_mrir fun a i v st => mn_gx fun j => mn_gk (mn_le (h' := (gS h.1 _ _ _, h.2.1, h.2.2)) (Nat.le_refl _) (Nat.le_refl _) (hn _ _ _))
    | exact mn_m1r fun a st => mn_gk (hn _ _ _)
    | exact mn_m1i fun v st => mn_mtsw (fun c => hK _ _ _ _) _ _
    | (rename_i c _; cases c <;> first | exact mn_m1i fun a st => mn_ite (hK _ _ _ _) (hn _ _ _) | exact mn_m1i fun a st => mn_ite (hn _ _ _) (hK _ _ _ _) | exact mn_m2i fun a b st => mn_ite (hK _ _ _ _) (hn _ _ _) | exact mn_m2i fun a b st => mn_ite (hn _ _ _) (hK _ _ _ _))
    | (split <;> first | exact hn _ _ _ | exact mn_le (h' := hA h _ _ _) (Nat.le_succ _) (Nat.le_add_right _ _) (hn _ _ _) | (split <;> first | exact mn0 | exact mn_thr (mexn_k _)))
    | (split <;> first | exact mn_mrr fun a b st => mn_gk (mn_le (h' := (gS h.1 _ _ _, h.2.1, h.2.2)) (Nat.le_refl _) (Nat.le_refl _) (hn _ _ _)) | exact mn_mri fun a v st => mn_gk (mn_mbool (mn_le (h' := (h.1, _, h.2.2)) (Nat.le_refl _) (Nat.le_refl _) (hn _ _ _))) | exact mn_mri fun a v st => mn_gk (mn_le (h' := (h.1, _, h.2.2)) (Nat.le_refl _) (Nat.le_refl _) (hn _ _ _)))
    | (refine mn_m1r fun a st => mn_gk ?_; split <;> first | exact mn_gr fun b => hn _ _ _ | exact hn _ _ _)
    | (split <;> first | exact mn0 | exact mn_ret | (split <;> first | exact mn_ret | exact mn_mbool mn_ret))
end MONO
theorem mn_blk {cal : mC} {hd : mHd} {cm : mCm} {K : mS} (hc : ∀ j as h, MN h (cal j as h)) (hK : ∀ c ls st h, MN h (K c ls st h)) : ∀ (rs : List mRow) (ls st : List Value) (h : mH), MN h (mblk cal hd cm K rs ls st h) := by
  intro rs
  induction rs with
  | nil => intro ls st h; exact mn0
  | cons r rs ih =>
    intro ls st h
    refine mn_step hc hK fun ls st h => ?_
    rcases rs with _ | ⟨q, rs⟩
    · exact mn0
    · dsimp only
      split
      · exact ih ls st h
      · exact hK _ _ _ _
theorem mn_run {cal : mC} {hd : mHd} {cm : mCm} {code : List mRow} (hc : ∀ j as h, MN h (cal j as h)) : ∀ (n c : Nat) (ls st : List Value) (h : mH), MN h (mrun cal hd cm code n c ls st h) := by
  intro n
  induction n with
  | zero => intro c ls st h; exact mn0
  | succ n ih => intro c ls st h; exact mn_blk hc ih _ _ _ _
theorem mn_cal {T : List mMi} : ∀ (d j : Nat) (as : List Value) (h : mH), MN h (mcal T d j as h) := by
  intro d
  induction d with
  | zero => intro j as h; exact mn0
  | succ d ih =>
    intro j as h
    unfold mcal
    split
    · refine mn_ite ?_ mn0
      intro o q
      obtain ⟨N, hN⟩ := mfx_some.mp q
      exact mn_run ih N _ _ _ _ o (hN N (Nat.le_refl _))
    · exact mn0
