/-! the law's run within the claim's room -/
def lwQ0 (_ : Array Value) (s : State) (o : Outcome) (t : State) : Prop := o = .returned (some (.int 1)) ∧ Framed s o t [] 601024 7293034
section
variable {p : Program} {e : Env} {s : State} {m : MethodId} {below : List Frame} {meth : Method} {c : Code}
theorem room_le {pl : Platform} {R R' : Room} (h : s.hasRoom pl R = true) (h1 : R'.frames ≤ R.frames) (h2 : R'.cells ≤ R.cells) (h3 : R'.slots ≤ R.slots) (h4 : R'.locals ≤ R.locals) : s.hasRoom pl R' = true := by
  simp only [State.hasRoom, Bool.and_eq_true, decide_eq_true_eq] at h ⊢
  obtain ⟨⟨⟨⟨a1, a2, a3, a4, a5, a6⟩, a7⟩, a8⟩, a9⟩ := h
  exact ⟨⟨⟨⟨by omega, by omega, by omega, by omega, by omega, a6⟩, by omega⟩, by omega⟩, a9⟩
theorem Stand_le {l : Launch} {R R' : Room} {args : Array Value} {T : State} {locs : List Loc} {cells slots : Nat} (X : Stand p l e R s m args below meth c T locs cells slots) (h1 : R'.frames ≤ R.frames) (h2 : R'.cells ≤ R.cells) (h3 : R'.slots ≤ R.slots) (h4 : R'.locals ≤ R.locals) : Stand p l e R' s m args below meth c T locs cells slots :=
  ⟨X.admits, X.cas, X.clock, X.frames, room_le X.room h1 h2 h3 h4, X.hears, X.method, X.code, X.here, X.tail, X.warmed, X.limits, X.bytes, X.same⟩
theorem ws_room (l : Launch) {b : Nat} {V : mEv} {φ : Nat → Nat} {h0 : mH} {o : mO} {f : JFrame} (hv : eB V = s.heap.size) (h1 : o.1 = .inl (some (.int 1))) (h2 : mmc h0 o ≤ 1000) (h3 : mms h0 o ≤ 100000) (w : W p l e (mRm 31 h0 o) s m #[Value.ref b] below meth c s.heap [] 0 0 (mQm below V φ h0 o #[Value.ref b] s) f) : W p l e room_1 s m #[Value.ref b] below meth c s.heap [] 0 0 (fun t => ∃ o, t.status = .running ∧ Ended t below o ∧ lwQ0 #[Value.ref b] s o t) f := by
  intro T hT X
  obtain ⟨t, t1, oc, t2, t3, t4⟩ := w T hT (Stand_le X (show 8 + 31 ≤ 2048 by decide) (show mmc h0 o ≤ 601024 by omega) (show mms h0 o ≤ 7293034 by omega) (show 150 + 60 * 31 ≤ 84000 by decide))
  refine ⟨t, t1, oc, t2, t3, ?_⟩
  rcases t4 with ⟨⟨φ', -, ⟨ov, q1, q2, -⟩, -, -⟩, Lc, ⟨f1, f2, f3⟩, f4⟩ | ⟨q, q1, q2⟩
  · rw [h1] at q1
    have e1 : some (Value.int 1) = ov := Sum.inl.inj q1
    rw [← e1] at q2
    refine ⟨q2, ⟨_, q2⟩, f2, ?_⟩
    exact (State.sameButNew.drop_fresh (L := []) (J := Lc) f3 (fun x hx => by rw [← hv]; exact f4 x hx)).mono (by omega) (by omega)
  · obtain ⟨E, ce, Lc, ⟨x1, -⟩, -⟩ := q2
    rw [h1] at x1
    cases x1
end
